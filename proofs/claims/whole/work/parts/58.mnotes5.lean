/-! the model's calls: turned about, reversed, pasted, counted -/
section MI
variable {d : Nat} {h : am_H} {P : Pn} {σ : Hn} {u : Nat} {pa : Nat → Hn} {kp : Nat → Bool} {ke : Nat → Hn} {t : Nat → Nat} {n sn : Nat} {sF sT sK : Nat → Nat} {nz : Nat → Nat} {nt : Nat → Nat → Nat}
/-- places laid so far -/
def lyI (S TS : Nat → Int32) (a m : Nat) (iv : Nat → Nat) (c : Nat) : Nat → Int32 := fun k => if a ≤ k ∧ k < a + m ∧ iv (k - a) < c then TS (iv (k - a)) else S k
theorem lyI_s {S TS : Nat → Int32} {a m c y : Nat} {iv : Nat → Nat} (hy : y < m) (h1 : iv y = c) (h2 : ∀ p, p < m → iv p = c → p = y) : upd (lyI S TS a m iv c) (a + y) (TS c) = lyI S TS a m iv (c + 1) := by
  funext k
  unfold upd lyI
  by_cases e : k = a + y
  · rw [if_pos e, if_pos ⟨by omega, by omega, by rw [e, Nat.add_sub_cancel_left, h1]; omega⟩, e, Nat.add_sub_cancel_left, h1]
  · rw [if_neg e]
    by_cases c1 : a ≤ k ∧ k < a + m ∧ iv (k - a) < c
    · rw [if_pos c1, if_pos ⟨c1.1, c1.2.1, by omega⟩]
    · rw [if_neg c1, if_neg]
      rintro ⟨z1, z2, z3⟩
      by_cases z4 : iv (k - a) = c
      · have := h2 (k - a) (by omega) z4
        omega
      · exact c1 ⟨z1, z2, by omega⟩
theorem lyI_0 {S TS : Nat → Int32} {a m : Nat} {iv : Nat → Nat} : lyI S TS a m iv 0 = S := by
  funext k
  unfold lyI
  rw [if_neg (by omega)]
theorem l_turn {Z S V TS TV : Nat → Int32} {q a m : Nat} {r : Int32} (hr : -20 ≤ r.toInt ∧ r.toInt ≤ 20) (hq : q < 3) (ham : a + m ≤ 12) {x3 x5 : Option Value} : ∀ j c (h : am_H), c + j = m → MQn h Z (lyI S TS (12 * q + a) m (ivO (r.toInt % m).toNat m) c) (lyI V TV (12 * q + a) m (ivO (r.toInt % m).toNat m) c) TS TV → ∃ h', am_ev (d + 1) 205 60 [some (.ref 87), some (.int (nI q)), some (.int (nI a)), x3, some (.int r), x5, some (.int (nI m)), some (.int (nI c))] [] h = some (some (.int (nI m)), h') ∧ MQn h' Z (lyI S TS (12 * q + a) m (ivO (r.toInt % m).toNat m) m) (lyI V TV (12 * q + a) m (ivO (r.toInt % m).toNat m) m) TS TV ∧ FN h h' := by
  intro j
  induction j with
  | zero =>
    intro c h hc hQ
    have : c = m := by omega
    subst this
    refine ⟨h, ?_, hQ, FN.rf⟩
    rw [e_205_60]
    simp only [e_205_62, e_205_64, e_205_96, e_205_98, lg_n, lg_i, lg_r, wd_nil, am_wd_i, am_wd_r, am_wd_l, am_gk_s, am_fld_s, List.getElem?_cons_zero, List.getElem?_cons_succ, am_bk_v, am_bk_n, bo_0, bo_1, am_pk_s, List.length_cons, List.length_nil, Nat.zero_add, List.set_cons_zero, List.set_cons_succ, Nat.reduceAdd, Nat.reduceLeDiff, Nat.reduceLT, nI_leI (show c < 2 ^ 31 by omega) (show c < 2 ^ 31 by omega), Nat.le_refl, if_true]
  | succ j ih =>
    intro c h hc hQ
    have hm0 : 0 < m := by omega
    have c1 := Int.emod_lt_of_pos r.toInt (show (0 : Int) < m by omega)
    have c2 := Int.emod_nonneg r.toInt (show (m : Int) ≠ 0 by omega)
    have ho : (r.toInt % m).toNat < m := by omega
    have hsum : (nI c + r).toInt = (c : Int) + r.toInt := by rw [Int32.toInt_add, nI_toInt (by omega), Int.bmod_def]; omega
    have hjm := jmodZ (x := nI c + r) (m := m) (by rw [hsum]; omega) ⟨hm0, by omega⟩
    rw [hsum, pkO_eq hm0 (show c < m by omega), Int.toNat_natCast] at hjm
    generalize (r.toInt % m).toNat = o at *
    have hpk : pkO o m c < m := by unfold pkO; split <;> omega
    have hiv : ivO o m (pkO o m c) = c := by unfold ivO pkO; split <;> split <;> omega
    have hinj : ∀ p, p < m → ivO o m p = c → p = pkO o m c := by
      intro p hp he
      unfold ivO at he
      unfold pkO
      split at he <;> split <;> omega
    obtain ⟨h1, e1, Q1, F1⟩ := m_lay (d := d) hQ hq (i := a + pkO o m c) (r := c) (by omega) (by omega)
    rw [← Nat.add_assoc, lyI_s hpk hiv hinj, lyI_s hpk hiv hinj] at Q1
    obtain ⟨h', e', Q', F'⟩ := ih (c + 1) h1 (by omega) Q1
    refine ⟨h', ?_, Q', F1.tr F'⟩
    rw [e_205_60]
    simp only [e_205_62, e_205_64, e_205_67, e_205_68, e_205_69, e_205_70, e_205_72, e_205_74, e_205_75, e_205_77, e_205_78, e_205_80, e_205_81, e_205_83, e_205_84, e_205_85, e_205_87, e_205_90, e_205_93, lg_n, lg_i, lg_r, wd_nil, am_wd_i, am_wd_r, am_wd_l, am_gk_s, am_fld_s, List.getElem?_cons_zero, List.getElem?_cons_succ, am_bk_v, am_bk_n, bo_0, bo_1, am_pk_s, List.length_cons, List.length_nil, Nat.zero_add, List.set_cons_zero, List.set_cons_succ, Nat.reduceAdd, Nat.reduceLeDiff, Nat.reduceLT, nI_leI (show m < 2 ^ 31 by omega) (show c < 2 ^ 31 by omega), if_neg (show ¬ m ≤ c by omega), if_neg (nI_ne0 hm0 (show m < 2 ^ 31 by omega)), hjm, nI_add, hQ.1.2.2.2.2.2, e1, nI_1]
    exact e'
theorem n_turn (hM : MI h P σ u pa kp ke t n sn sF sT sK nz nt) (hz : ∀ i, i < 3 → nz i ≤ 13) (x i j r : Int32) : (¬ (0 ≤ x.toInt ∧ x.toInt ≤ 2) → am_cal (d + 8) 205 [.ref 87, .int x, .int i, .int j, .int r] h = some (some (.int (-2)), h)) ∧ (0 ≤ x.toInt ∧ x.toInt ≤ 2 → ¬ (-20 ≤ r.toInt ∧ r.toInt ≤ 20) → am_cal (d + 8) 205 [.ref 87, .int x, .int i, .int j, .int r] h = some (some (.int (-3)), h)) ∧ (0 ≤ x.toInt ∧ x.toInt ≤ 2 → -20 ≤ r.toInt ∧ r.toInt ≤ 20 → rfS nz x i j ≠ 0 → am_cal (d + 8) 205 [.ref 87, .int x, .int i, .int j, .int r] h = some (some (.int (rfS nz x i j)), h)) ∧ (-20 ≤ r.toInt ∧ r.toInt ≤ 20 → rfS nz x i j = 0 → ∃ h', am_cal (d + 8) 205 [.ref 87, .int x, .int i, .int j, .int r] h = some (some (.int (nI (j.toInt.toNat - i.toInt.toNat))), h') ∧ MI h' P σ u pa kp ke t n sn sF sT sK nz (thn nt x.toInt.toNat (rotT (nt x.toInt.toNat) i.toInt.toNat j.toInt.toNat (r.toInt % ((j.toInt.toNat - i.toInt.toNat : Nat) : Int)).toNat)) ∧ FM h h') := by
  have hinn := m_isNotes (d := d + 5) (h := h) x
  have w1 := m_in (d := d + 6) (h := h) r.toInt64 (-20) 20
  rw [l_in32, show (-20 : Int64).toInt = -20 from rfl, show (20 : Int64).toInt = 20 from rfl] at w1
  obtain ⟨S, V, TS, TV, hQ, hS⟩ := hM.mq
  refine ⟨fun hA => ?_, fun hA hr => ?_, fun hA hr hne => ?_, fun hr h0 => ?_⟩
  · rw [if_neg hA] at hinn
    refine (b_205 _ _ _).trans ?_; show am_ev _ 205 0 [some (.ref 87), some (.int x), some (.int i), some (.int j), some (.int r), none, none, none] [] _ = _
    simp only [e_205_0, e_205_1, e_205_4, e_205_7, e_205_9, lg_n, lg_i, lg_r, wd_nil, am_wd_i, am_wd_r, am_wd_l, am_gk_s, am_fld_s, List.getElem?_cons_zero, List.getElem?_cons_succ, am_bk_v, am_bk_n, bo_0, bo_1, am_pk_s, List.length_cons, List.length_nil, Nat.zero_add, List.set_cons_zero, List.set_cons_succ, Nat.reduceAdd, Nat.reduceLeDiff, Nat.reduceLT, hinn, not_true_eq_false, if_true, if_false]
  · rw [if_pos hA] at hinn
    rw [if_neg hr] at w1
    refine (b_205 _ _ _).trans ?_; show am_ev _ 205 0 [some (.ref 87), some (.int x), some (.int i), some (.int j), some (.int r), none, none, none] [] _ = _
    simp only [e_205_0, e_205_1, e_205_4, e_205_7, e_205_9, e_205_10, e_205_12, e_205_13, e_205_16, e_205_19, e_205_22, e_205_25, e_205_27, lg_n, lg_i, lg_r, wd_nil, am_wd_i, am_wd_r, am_wd_l, am_gk_s, am_fld_s, List.getElem?_cons_zero, List.getElem?_cons_succ, am_bk_v, am_bk_n, bo_0, bo_1, am_pk_s, List.length_cons, List.length_nil, Nat.zero_add, List.set_cons_zero, List.set_cons_succ, Nat.reduceAdd, Nat.reduceLeDiff, Nat.reduceLT, hinn, w1, one_ne, not_false_eq_true, not_true_eq_false, if_true, if_false]
  · rw [if_pos hA] at hinn
    rw [if_pos hr] at w1
    obtain ⟨q, rfl, hq⟩ : ∃ q : Nat, x = nI q ∧ q < 3 := ⟨x.toInt.toNat, i_of x hA.1, by omega⟩
    have hsp := m_noSpan (d := d + 6) hM hz hq i j
    refine (b_205 _ _ _).trans ?_; show am_ev _ 205 0 [some (.ref 87), some (.int (nI q)), some (.int i), some (.int j), some (.int r), none, none, none] [] _ = _
    simp only [e_205_0, e_205_1, e_205_4, e_205_7, e_205_9, e_205_10, e_205_12, e_205_13, e_205_16, e_205_19, e_205_22, e_205_25, e_205_27, e_205_28, e_205_29, e_205_30, e_205_31, e_205_32, e_205_35, e_205_37, e_205_39, e_205_42, e_205_44, lg_n, lg_i, lg_r, wd_nil, am_wd_i, am_wd_r, am_wd_l, am_gk_s, am_fld_s, List.getElem?_cons_zero, List.getElem?_cons_succ, am_bk_v, am_bk_n, bo_0, bo_1, am_pk_s, List.length_cons, List.length_nil, Nat.zero_add, List.set_cons_zero, List.set_cons_succ, Nat.reduceAdd, Nat.reduceLeDiff, Nat.reduceLT, hinn, w1, one_ne, not_false_eq_true, if_true, if_false, hQ.1.2.2.2.2.2, hsp, if_neg hne]
  · rw [if_pos hr] at w1
    obtain ⟨q, a, b, rfl, hq, rfl, rfl, hab, hb⟩ := rfS_0 hz h0
    have hzq := hz q hq
    have hqi := nI_toInt (show q < 2 ^ 31 by omega)
    rw [if_pos (by rw [hqi]; omega)] at hinn
    have hsp := m_noSpan (d := d + 6) hM hz hq (nI a) (nI b)
    rw [h0] at hsp
    rw [hqi, nI_toInt (show a < 2 ^ 31 by omega), nI_toInt (show b < 2 ^ 31 by omega), Int.toNat_natCast, Int.toNat_natCast, Int.toNat_natCast]
    obtain ⟨h1, e1, Q1, F1⟩ := m_take (d := d + 6) hQ hq hab (show b ≤ 12 by omega)
    obtain ⟨h', e', Q', F'⟩ := l_turn (d := d + 6) (Z := fun i => cI (nz i + 1)) (S := S) (V := V) (TS := tkI S TS (12 * q) a b) (TV := tkI V TV (12 * q) a b) (q := q) (a := a) (m := b - a) (x3 := some (.int (nI b))) (x5 := some (.int 0)) hr hq (by omega) (b - a) 0 h1 (by omega) (by rw [lyI_0, lyI_0]; exact Q1)
    refine ⟨h', ?_, hM.no (F1.tr F') Q' (fun k hk => rfl) (fun k hk p hp => ?_), (F1.tr F').fm⟩
    · refine (b_205 _ _ _).trans ?_; show am_ev _ 205 0 [some (.ref 87), some (.int (nI q)), some (.int (nI a)), some (.int (nI b)), some (.int r), none, none, none] [] _ = _
      simp only [e_205_0, e_205_1, e_205_4, e_205_7, e_205_9, e_205_10, e_205_12, e_205_13, e_205_16, e_205_19, e_205_22, e_205_25, e_205_27, e_205_28, e_205_29, e_205_30, e_205_31, e_205_32, e_205_35, e_205_37, e_205_39, e_205_42, e_205_44, e_205_45, e_205_46, e_205_47, e_205_48, e_205_50, e_205_51, e_205_52, e_205_53, e_205_54, e_205_57, e_205_58, lg_n, lg_i, lg_r, wd_nil, am_wd_i, am_wd_r, am_wd_l, am_gk_s, am_fld_s, List.getElem?_cons_zero, List.getElem?_cons_succ, am_bk_v, am_bk_n, bo_0, bo_1, am_pk_s, List.length_cons, List.length_nil, Nat.zero_add, List.set_cons_zero, List.set_cons_succ, Nat.reduceAdd, Nat.reduceLeDiff, Nat.reduceLT, hinn, w1, one_ne, not_false_eq_true, if_true, if_false, hQ.1.2.2.2.2.2, hsp, pk_sub hab, e1]
      exact e'
    · unfold thn
      by_cases e : k = q
      · subst e
        rw [if_pos rfl]
        unfold rotT
        by_cases p1 : a ≤ p ∧ p < b
        · have hm0 : 0 < b - a := by omega
          have c1 := Int.emod_lt_of_pos r.toInt (show (0 : Int) < ((b - a : Nat) : Int) by omega)
          have c2 := Int.emod_nonneg r.toInt (show ((b - a : Nat) : Int) ≠ 0 by omega)
          generalize hoo : (r.toInt % ((b - a : Nat) : Int)).toNat = o at *
          have ho : o < b - a := by omega
          rw [if_pos p1]
          have hivl : ivO o (b - a) (12 * k + p - (12 * k + a)) < b - a := by unfold ivO; split <;> omega
          have hL : ∀ S TS : Nat → Int32, lyI S (tkI S TS (12 * k) a b) (12 * k + a) (b - a) (ivO o (b - a)) (b - a) (12 * k + p) = S (12 * k + (a + ivO o (b - a) (p - a))) := by
            intro S TS
            unfold lyI
            rw [if_pos ⟨by omega, by omega, hivl⟩]
            unfold tkI
            rw [if_pos hivl]
            congr 1
            rw [show 12 * k + p - (12 * k + a) = p - a by omega]
            omega
          rw [hL, hL]
          have hidx : a + ivO o (b - a) (p - a) = if p < a + o then p + (b - a) - o else p - o := by
            unfold ivO
            split <;> split <;> omega
          rw [hidx]
          by_cases p2 : p < a + o
          · rw [if_pos p2, if_pos p2]
            exact hS k hk _ (by omega)
          · rw [if_neg p2, if_neg p2]
            exact hS k hk _ (by omega)
        · rw [if_neg p1]
          unfold lyI
          rw [if_neg (by omega), if_neg (by omega)]
          exact hS k hk p hp
      · rw [if_neg e]
        have h1 := hS k hk p hp
        have := hz k hk
        unfold lyI
        rw [if_neg (by omega), if_neg (by omega)]
        exact h1
end MI
