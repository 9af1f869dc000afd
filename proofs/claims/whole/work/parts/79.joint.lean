/-! every call, both alike -/
section J
variable {d : Nat} {h : am_H}
theorem j_write (hJ : JI h) (x : Int32) : JS d h 83 131 [.int x] := by
  obtain ⟨P, σ, u, pa, kp, ke, t, n, sn, sF, sT, sK, nz, nt, hC, hM, hI⟩ := hJ
  obtain ⟨h1, t1, n1, e1, C1, F1, rfl, rfl⟩ := c_write (d := d) hC x
  refine JS.go hM e1 C1 F1 (fun hM1 => ?_) ?_
  · obtain ⟨h2, t2, n2, e2, M2, F2, rfl, rfl⟩ := n_write (d := d) hM1 hI.2.2.2.2.2.2.1 x
    exact ⟨h2, e2, M2, F2⟩
  · obtain ⟨i1, i2, i3, i4, i5, i6, i7, i8, i9, i10⟩ := hI
    by_cases c : (0 ≤ x.toInt ∧ x.toInt ≤ 255) ∧ n < 200
    · rw [if_pos c, if_pos c]
      refine ⟨i1, i2, i3, i4, i5, fun k => ?_, by omega, i8, i9, i10⟩
      unfold updn
      by_cases e : k = n
      · rw [if_pos e]; omega
      · rw [if_neg e]; exact i6 k
    · rw [if_neg c, if_neg c]
      exact ⟨i1, i2, i3, i4, i5, i6, i7, i8, i9, i10⟩
theorem j_erase (hJ : JI h) : JS d h 84 132 [] := by
  obtain ⟨P, σ, u, pa, kp, ke, t, n, sn, sF, sT, sK, nz, nt, hC, hM, hI⟩ := hJ
  obtain ⟨h1, e1, C1, F1⟩ := c_erase (d := d) hC
  refine JS.go hM e1 C1 F1 (fun hM1 => n_erase (d := d) hM1) ?_
  obtain ⟨i1, i2, i3, i4, i5, i6, i7, i8, i9, i10⟩ := hI
  exact ⟨i1, i2, i3, i4, i5, i6, by omega, i8, i9, i10⟩
theorem j_fault (hJ : JI h) : JS d h 85 145 [] := by
  obtain ⟨P, σ, u, pa, kp, ke, t, n, sn, sF, sT, sK, nz, nt, hC, hM, hI⟩ := hJ
  obtain ⟨h1, e1, C1, F1⟩ := c_fault (d := d) hC hI.1
  exact JS.go hM e1 C1 F1 (fun hM1 => n_fault (d := d) hM1 hI.1 hI.2.2.2.2.2.1 hI.2.2.2.2.2.2.1) hI
theorem j_hall (hJ : JI h) : JS d h 86 147 [] := by
  obtain ⟨P, σ, u, pa, kp, ke, t, n, sn, sF, sT, sK, nz, nt, hC, hM, hI⟩ := hJ
  have hT := hI.1.tx (t := t) (n := n)
  have c := c_hall (d := d) hC hI.1
  have m : ∀ {h1 : am_H}, MI h1 P σ u pa kp ke t n sn sF sT sK nz nt → _ := fun hM1 => n_hall (d := d) hM1 hI.1 hI.2.2.2.2.2.1 hI.2.2.2.2.2.2.1 hT.1.2.2.2.1
  by_cases a : (txN t n P).1 = 0
  · obtain ⟨h1, kp1, e1, C1, K1, F1⟩ := c.2 a
    refine JS.go hM e1 (C1.kpF K1) F1 (fun hM1 => (m hM1).2 a) ?_
    obtain ⟨i1, i2, i3, i4, i5, i6, i7, i8, i9, i10⟩ := hI
    exact ⟨hT, HOK.beg hT, by omega, fun i hi => absurd hi (Nat.not_lt_zero i), fun k _ z => Bool.noConfusion z, i6, by omega, by omega, fun s hs => absurd hs (Nat.not_lt_zero s), fun i _ => ⟨Nat.zero_le _, fun k hk => absurd hk (Nat.not_lt_zero (k + 1))⟩⟩
  · obtain ⟨h1, e1, C1, F1⟩ := c.1 a
    exact JS.go hM e1 C1 F1 (fun hM1 => (m hM1).1 a) hI
theorem j_person (hJ : JI h) (p w : Int32) : JS d h 87 161 [.int p, .int w] := by
  obtain ⟨P, σ, u, pa, kp, ke, t, n, sn, sF, sT, sK, nz, nt, hC, hM, hI⟩ := hJ
  exact JS.same hC hM hI (c_person (d := d) hC hI.1.1 p w) (n_person (d := d) hM hI.1.1 p w)
theorem j_cabin (hJ : JI h) (p w : Int32) : JS d h 88 163 [.int p, .int w] := by
  obtain ⟨P, σ, u, pa, kp, ke, t, n, sn, sF, sT, sK, nz, nt, hC, hM, hI⟩ := hJ
  have hD := hI.1
  have hO := hI.2.1
  have hf : P.1 ≤ 15 := by have := hD.2.2.1; omega
  have oH : OKH P σ := hO.1.ok (by have := hO.2.1; omega) (by omega)
  exact JS.same hC hM hI (c_cabin (d := d) hC hD.1 oH hf p w) (n_cabin (d := d) hM hD.1 oH hf (by have := hO.2.2; omega) p w)
theorem j_as (hJ : JI h) (p w : Int32) : JS d h 89 164 [.int p, .int w] := by
  obtain ⟨P, σ, u, pa, kp, ke, t, n, sn, sF, sT, sK, nz, nt, hC, hM, hI⟩ := hJ
  exact JS.same hC hM hI (c_as (d := d) hC hI.1.1 p w) (n_as (d := d) hM hI.1.1 p w)
theorem j_step (hJ : JI h) (x : Int32) : JS d h 90 166 [.int x] := by
  obtain ⟨P, σ, u, pa, kp, ke, t, n, sn, sF, sT, sK, nz, nt, hC, hM, hI⟩ := hJ
  have c := c_step (d := d) hC hI.1 hI.2.1 x
  have m := n_step (d := d) hM hI.1 hI.2.1 hI.2.2.1 x
  by_cases a1 : 1 ≤ x.toInt ∧ x.toInt ≤ 12
  · by_cases a2 : σ.1 + x.toInt.toNat ≤ 999
    · obtain ⟨h1, e1, C1, F1⟩ := c.2.2 a1 a2
      refine JS.go hM e1 C1 F1 (fun hM1 => (n_step (d := d) hM1 hI.1 hI.2.1 hI.2.2.1 x).2.2 a1 a2) (hI.hp ?_)
      obtain ⟨b1, b2⟩ := behN_1 P σ x.toInt.toNat
      exact ⟨by rw [b1]; exact hI.2.1.1.beh hI.1.1.1 _, by omega, by rw [b2]; exact hI.2.1.2.2⟩
    · exact JS.same hC hM hI (c.2.1 a1 (by omega)) (m.2.1 a1 (by omega))
  · exact JS.same hC hM hI (c.1 a1) (m.1 a1)
theorem j_shut (hJ : JI h) (x : Int32) : JS d h 91 167 [.int x] := by
  obtain ⟨P, σ, u, pa, kp, ke, t, n, sn, sF, sT, sK, nz, nt, hC, hM, hI⟩ := hJ
  have c := c_shut (d := d) hC hI.1 x
  have m := n_shut (d := d) hM hI.1 hI.2.1 hI.2.2.1 x
  by_cases a1 : 0 ≤ x.toInt ∧ x.toInt < (2 * P.1 : Nat)
  · obtain ⟨h1, e1, C1, F1⟩ := c.2 a1
    refine JS.go hM e1 C1 F1 (fun hM1 => (n_shut (d := d) hM1 hI.1 hI.2.1 hI.2.2.1 x).2 a1) (hI.hp ?_)
    obtain ⟨o1, o2, o3⟩ := hI.2.1
    have h7 := hI.1.2.2.1
    exact ⟨o1, o2, Nat.xor_lt_two_pow o3 (Nat.pow_lt_pow_right (by decide) (by omega))⟩
  · exact JS.same hC hM hI (c.1 a1) (m.1 a1)
theorem j_stairs (hJ : JI h) (x : Int32) : JS d h 92 169 [.int x] := by
  obtain ⟨P, σ, u, pa, kp, ke, t, n, sn, sF, sT, sK, nz, nt, hC, hM, hI⟩ := hJ
  have c := c_stairs (d := d) hC hI.1.1 x
  have m := n_stairs (d := d) hM hI.1.1 hI.2.2.1 x
  by_cases a1 : 0 ≤ x.toInt ∧ x.toInt < P.2.2.2.1
  · by_cases a2 : σ.2.2.1 x.toInt.toNat = 0
    · obtain ⟨h1, e1, C1, F1⟩ := c.2.2 a1 a2
      refine JS.go hM e1 C1 F1 (fun hM1 => (n_stairs (d := d) hM1 hI.1.1 hI.2.2.1 x).2.2 a1 a2) (hI.hp ?_)
      obtain ⟨o1, o2, o3⟩ := hI.2.1
      refine ⟨⟨o1.1, fun p hp => ⟨?_, (o1.2 p hp).2⟩⟩, o2, o3⟩
      show updn σ.2.2.1 x.toInt.toNat 1 p < _
      unfold updn
      split
      · omega
      · exact (o1.2 p hp).1
    · exact JS.same hC hM hI (c.2.1 a1 a2) (m.2.1 a1 a2)
  · exact JS.same hC hM hI (c.1 a1) (m.1 a1)
theorem j_undo (hJ : JI h) : JS d h 93 170 [] := by
  obtain ⟨P, σ, u, pa, kp, ke, t, n, sn, sF, sT, sK, nz, nt, hC, hM, hI⟩ := hJ
  cases u with
  | zero => exact JS.same hC hM hI (c_undo0 (d := d) hC) (n_undo0 (d := d) hM)
  | succ u =>
    obtain ⟨h1, e1, C1, F1⟩ := c_undo (d := d) hC
    refine JS.go hM e1 C1 F1 (fun hM1 => n_undo (d := d) hM1 hI.1.1.2.2.2.1 hI.2.2.1) ?_
    obtain ⟨i1, i2, i3, i4, i5⟩ := hI
    exact ⟨i1, i4 u (by omega), by omega, fun i hi => i4 i (by omega), i5⟩
theorem j_keep (hJ : JI h) (x : Int32) : JS d h 94 171 [.int x] := by
  obtain ⟨P, σ, u, pa, kp, ke, t, n, sn, sF, sT, sK, nz, nt, hC, hM, hI⟩ := hJ
  have c := c_keep (d := d) hC x
  have m := n_keep (d := d) hM hI.1.1.2.2.2.1 hI.2.2.1 x
  by_cases a1 : 0 ≤ x.toInt ∧ x.toInt ≤ 1
  · obtain ⟨h1, e1, C1, F1⟩ := c.2 a1
    refine JS.go hM e1 C1 F1 (fun hM1 => (n_keep (d := d) hM1 hI.1.1.2.2.2.1 hI.2.2.1 x).2 a1) ?_
    obtain ⟨i1, i2, i3, i4, i5, i6⟩ := hI
    refine ⟨i1, i2, i3, i4, fun k hk hz => ?_, i6⟩
    unfold updb at hz
    by_cases e : k = x.toInt.toNat
    · simp only [if_pos e]; exact i2
    · rw [if_neg e] at hz
      simp only [if_neg e]; exact i5 k hk hz
  · exact JS.same hC hM hI (c.1 a1) (m.1 a1)
theorem j_back (hJ : JI h) (x : Int32) : JS d h 95 172 [.int x] := by
  obtain ⟨P, σ, u, pa, kp, ke, t, n, sn, sF, sT, sK, nz, nt, hC, hM, hI⟩ := hJ
  have c := c_back (d := d) hC x
  have m := n_back (d := d) hM hI.1.1.2.2.2.1 hI.2.2.1 x
  by_cases a1 : 0 ≤ x.toInt ∧ x.toInt ≤ 1
  · cases a2 : kp x.toInt.toNat with
    | true =>
      obtain ⟨h1, e1, C1, F1⟩ := c.2.2 a1 a2
      refine JS.go hM e1 C1 F1 (fun hM1 => (n_back (d := d) hM1 hI.1.1.2.2.2.1 hI.2.2.1 x).2.2 a1 a2) ?_
      obtain ⟨i1, i2, i3, i4, i5, i6⟩ := hI
      exact ⟨i1, i5 _ (by omega) a2, by omega, fun i hi => absurd hi (Nat.not_lt_zero i), i5, i6⟩
    | false => exact JS.same hC hM hI (c.2.1 a1 a2) (m.2.1 a1 a2)
  · exact JS.same hC hM hI (c.1 a1) (m.1 a1)
theorem j_behind (hJ : JI h) (p m w : Int32) : JS d h 96 174 [.int p, .int m, .int w] := by
  obtain ⟨P, σ, u, pa, kp, ke, t, n, sn, sF, sT, sK, nz, nt, hC, hM, hI⟩ := hJ
  obtain ⟨h1, e1, C1, F1⟩ := c_behind (d := d) hC hI.1 hI.2.1 p m w
  exact JS.go hM e1 C1 F1 (fun hM1 => n_behind (d := d) hM1 hI.1 hI.2.1 hI.2.2.1 p m w) hI
theorem j_arrives (hJ : JI h) (p : Int32) : JS d h 97 177 [.int p] := by
  obtain ⟨P, σ, u, pa, kp, ke, t, n, sn, sF, sT, sK, nz, nt, hC, hM, hI⟩ := hJ
  obtain ⟨h1, e1, C1, F1⟩ := c_arrives (d := d) hC hI.1 hI.2.1 p
  exact JS.go hM e1 C1 F1 (fun hM1 => n_arrives (d := d) hM1 hI.1 hI.2.1 hI.2.2.1 p) hI
theorem j_all (hJ : JI h) : JS d h 98 178 [] := by
  obtain ⟨P, σ, u, pa, kp, ke, t, n, sn, sF, sT, sK, nz, nt, hC, hM, hI⟩ := hJ
  obtain ⟨h1, e1, C1, F1⟩ := c_all (d := d) hC hI.1 hI.2.1
  exact JS.go hM e1 C1 F1 (fun hM1 => n_all (d := d) hM1 hI.1 hI.2.1 hI.2.2.1) hI
theorem j_meet (hJ : JI h) (p q : Int32) : JS d h 99 179 [.int p, .int q] := by
  obtain ⟨P, σ, u, pa, kp, ke, t, n, sn, sF, sT, sK, nz, nt, hC, hM, hI⟩ := hJ
  obtain ⟨h1, e1, C1, F1⟩ := c_meet (d := d) hC hI.1 hI.2.1 p q
  exact JS.go hM e1 C1 F1 (fun hM1 => n_meet (d := d) hM1 hI.1 hI.2.1 hI.2.2.1 p q) hI
theorem j_jam (hJ : JI h) (w : Int32) : JS d h 100 180 [.int w] := by
  obtain ⟨P, σ, u, pa, kp, ke, t, n, sn, sF, sT, sK, nz, nt, hC, hM, hI⟩ := hJ
  obtain ⟨h1, e1, C1, F1⟩ := c_jam (d := d) hC hI.1 hI.2.1 w
  exact JS.go hM e1 C1 F1 (fun hM1 => n_jam (d := d) hM1 hI.1 hI.2.1 hI.2.2.1 w) hI
theorem j_order (hJ : JI h) (k : Int32) : JS d h 101 186 [.int k] := by
  obtain ⟨P, σ, u, pa, kp, ke, t, n, sn, sF, sT, sK, nz, nt, hC, hM, hI⟩ := hJ
  obtain ⟨h1, e1, C1, F1⟩ := k_order (d := d) hC hI.1 hI.2.1 k
  exact JS.go hM e1 C1 F1 (fun hM1 => n_order (d := d) hM1 hI.1 hI.2.1 hI.2.2.1 k) hI
theorem j_dares (hJ : JI h) (p q m w : Int32) : JS d h 102 188 [.int p, .int q, .int m, .int w] := by
  obtain ⟨P, σ, u, pa, kp, ke, t, n, sn, sF, sT, sK, nz, nt, hC, hM, hI⟩ := hJ
  obtain ⟨h1, e1, C1, F1⟩ := c_dares (d := d) hC hI.1 hI.2.1 p q m w
  exact JS.go hM e1 C1 F1 (fun hM1 => ⟨h1, n_dares (d := d) hM1 hI.1 hI.2.1 p q m w, hM1, FM.rf⟩) hI
theorem j_seen (hJ : JI h) (a b m : Int32) : JS d h 103 189 [.int a, .int b, .int m] := by
  obtain ⟨P, σ, u, pa, kp, ke, t, n, sn, sF, sT, sK, nz, nt, hC, hM, hI⟩ := hJ
  have c := c_seen (d := d) hC hI.1 hI.2.2.2.2.2.2.2.1 a b m
  have mm := n_seen (d := d) hM hI.1 hI.2.2.2.2.2.2.2.1 a b m
  by_cases a1 : (0 ≤ a.toInt ∧ a.toInt < P.1) ∧ (0 ≤ b.toInt ∧ b.toInt < P.1) ∧ a ≠ b ∧ (1 ≤ m.toInt ∧ m.toInt ≤ 60)
  · by_cases a2 : sn = 6
    · exact JS.same hC hM hI (c.2.1 a1 a2) (mm.2.1 a1 a2)
    · have h8 := hI.2.2.2.2.2.2.2.1
      obtain ⟨h1, e1, C1, F1⟩ := c.2.2 a1 (by omega)
      refine JS.go hM e1 C1 F1 (fun hM1 => (n_seen (d := d) hM1 hI.1 hI.2.2.2.2.2.2.2.1 a b m).2.2 a1 (by omega)) ?_
      obtain ⟨i1, i2, i3, i4, i5, i6, i7, i8, i9, i10⟩ := hI
      refine ⟨i1, i2, i3, i4, i5, i6, i7, by omega, fun s hs => ?_, i10⟩
      unfold updn
      by_cases e : s = sn
      · rw [if_pos e, if_pos e, if_pos e]
        obtain ⟨z1, z2, z3, z4⟩ := a1
        refine ⟨by omega, by omega, fun z => z3 ?_, by omega, by omega⟩
        rw [i_eq]
        omega
      · rw [if_neg e, if_neg e, if_neg e]
        exact i9 s (by omega)
  · exact JS.same hC hM hI (c.1 a1) (mm.1 a1)
theorem j_forget (hJ : JI h) : JS d h 104 190 [] := by
  obtain ⟨P, σ, u, pa, kp, ke, t, n, sn, sF, sT, sK, nz, nt, hC, hM, hI⟩ := hJ
  obtain ⟨h1, e1, C1, F1⟩ := c_forget (d := d) hC
  refine JS.go hM e1 C1 F1 (fun hM1 => n_forget (d := d) hM1) ?_
  obtain ⟨i1, i2, i3, i4, i5, i6, i7, i8, i9, i10⟩ := hI
  exact ⟨i1, i2, i3, i4, i5, i6, i7, by omega, fun s hs => absurd hs (Nat.not_lt_zero s), i10⟩
theorem j_kinds (hJ : JI h) : JS d h 105 192 [] := by
  obtain ⟨P, σ, u, pa, kp, ke, t, n, sn, sF, sT, sK, nz, nt, hC, hM, hI⟩ := hJ
  obtain ⟨h1, e1, C1, F1⟩ := c_kinds (d := d) hC hI.1 hI.2.2.2.2.2.2.2.1 hI.2.2.2.2.2.2.2.2.1
  exact JS.go hM e1 C1 F1 (fun hM1 => ⟨h1, n_kinds (d := d + 5) hM1 hI.1 hI.2.2.2.2.2.2.2.1 hI.2.2.2.2.2.2.2.2.1, hM1, FM.rf⟩) hI
theorem j_ask (hJ : JI h) : JS d h 106 194 [] := by
  obtain ⟨P, σ, u, pa, kp, ke, t, n, sn, sF, sT, sK, nz, nt, hC, hM, hI⟩ := hJ
  obtain ⟨h1, e1, C1, F1⟩ := c_ask (d := d) hC hI.1 hI.2.2.2.2.2.2.2.1 hI.2.2.2.2.2.2.2.2.1
  exact JS.go hM e1 C1 F1 (fun hM1 => ⟨h1, n_ask (d := d) hM1 hI.1 hI.2.2.2.2.2.2.2.1 hI.2.2.2.2.2.2.2.2.1, hM1, FM.rf⟩) hI
theorem j_notes (hJ : JI h) (x : Int32) : JS d h 107 196 [.int x] := by
  obtain ⟨P, σ, u, pa, kp, ke, t, n, sn, sF, sT, sK, nz, nt, hC, hM, hI⟩ := hJ
  have c := c_notes (d := d) hC x
  have m := n_notes (d := d) hM x
  by_cases a1 : 0 ≤ x.toInt ∧ x.toInt ≤ 2
  · obtain ⟨h1, nt1, e1, C1, K1, F1⟩ := c.2 a1
    exact JS.go hM e1 C1 F1 (fun hM1 => (n_notes (d := d) hM1 x).2 a1 nt1 K1) (hI.nn (by omega) K1)
  · exact JS.same hC hM hI (c.1 a1) (m.1 a1)
theorem j_drop (hJ : JI h) (x : Int32) : JS d h 115 209 [.int x] := by
  obtain ⟨P, σ, u, pa, kp, ke, t, n, sn, sF, sT, sK, nz, nt, hC, hM, hI⟩ := hJ
  have c := c_drop (d := d) hC x
  have m := n_drop (d := d) hM hI.z1 x
  by_cases a1 : 0 ≤ x.toInt ∧ x.toInt ≤ 2
  · by_cases a2 : nz x.toInt.toNat = 0
    · exact JS.go hM (c.2.1 a1 a2) hC FC.rf (fun hM1 => (n_drop (d := d) hM1 hI.z1 x).2.1 a1 a2) hI
    · obtain ⟨h1, nt1, e1, C1, K1, F1⟩ := c.2.2 a1 a2
      exact JS.go hM e1 C1 F1 (fun hM1 => (n_drop (d := d) hM1 hI.z1 x).2.2 a1 a2 nt1 K1) (hI.nn (by omega) K1)
  · exact JS.same hC hM hI (c.1 a1) (m.1 a1)
theorem j_insert (hJ : JI h) (x i w v : Int32) : JS d h 108 199 [.int x, .int i, .int w, .int v] := by
  obtain ⟨P, σ, u, pa, kp, ke, t, n, sn, sF, sT, sK, nz, nt, hC, hM, hI⟩ := hJ
  have c := c_insert (d := d) hC hI.1.1 hI.z1 x i w v
  have m := n_insert (d := d) hM hI.1.1 hI.z1 x i w v
  by_cases a1 : rfT P x w v = 0
  · by_cases a2 : nz x.toInt.toNat = 0
    · exact JS.same hC hM hI (c.2.1 a1 a2) (m.2.1 a1 a2)
    · by_cases a3 : 0 ≤ i.toInt ∧ i.toInt ≤ (nz x.toInt.toNat : Int) - 1
      · by_cases a4 : nz x.toInt.toNat = 13
        · exact JS.same hC hM hI (c.2.2.2.1 a1 a3 a4) (m.2.2.2.1 a1 a3 a4)
        · have hx := (rfT_00 a1).1
          have hz := hI.z x.toInt.toNat (by omega)
          have h13 : nz x.toInt.toNat < 13 := by have := hz.1; omega
          obtain ⟨h1, e1, C1, F1⟩ := c.2.2.2.2 a1 a3 h13
          refine JS.go hM e1 C1 F1 (fun hM1 => (n_insert (d := d) hM1 hI.1.1 hI.z1 x i w v).2.2.2.2 a1 a3 h13) (hI.nu (by omega) (fun k hk => ?_))
          unfold insN
          by_cases b1 : k < i.toInt.toNat
          · rw [if_pos b1]; exact hz.2 k (by omega)
          · rw [if_neg b1]
            by_cases b2 : k = i.toInt.toNat
            · rw [if_pos b2]; exact thc_okk hI.1.1.2.2.2.1 a1
            · rw [if_neg b2]; exact hz.2 _ (by omega)
      · exact JS.same hC hM hI (c.2.2.1 a1 a2 a3) (m.2.2.1 a1 a2 a3)
  · exact JS.same hC hM hI (c.1 a1) (m.1 a1)
theorem j_look (hJ : JI h) (x i w : Int32) : JS d h 109 200 [.int x, .int i, .int w] := by
  obtain ⟨P, σ, u, pa, kp, ke, t, n, sn, sF, sT, sK, nz, nt, hC, hM, hI⟩ := hJ
  exact JS.same hC hM hI (c_look (d := d) hC hI.z x i w) (n_look (d := d) hM hI.z x i w)
theorem j_cut (hJ : JI h) (x i j : Int32) : JS d h 110 202 [.int x, .int i, .int j] := by
  obtain ⟨P, σ, u, pa, kp, ke, t, n, sn, sF, sT, sK, nz, nt, hC, hM, hI⟩ := hJ
  have c := c_cut (d := d) hC hI.z1 x i j
  have m := n_cut (d := d) hM hI.z1 x i j
  by_cases a1 : rfS nz x i j = 0
  · obtain ⟨b1, b2, b3, b4, b5⟩ := rfS_00 a1
    have hz := hI.z x.toInt.toNat (by omega)
    obtain ⟨h1, e1, C1, F1⟩ := c.2 a1
    refine JS.go hM e1 C1 F1 (fun hM1 => (n_cut (d := d) hM1 hI.z1 x i j).2 a1) (hI.nu (by have := hz.1; omega) (fun k hk => ?_))
    unfold cutN
    by_cases d1 : k < i.toInt.toNat
    · rw [if_pos d1]; exact hz.2 k (by omega)
    · rw [if_neg d1]; exact hz.2 _ (by omega)
  · exact JS.same hC hM hI (c.1 a1) (m.1 a1)
theorem j_turn (hJ : JI h) (x i j r : Int32) : JS d h 111 205 [.int x, .int i, .int j, .int r] := by
  obtain ⟨P, σ, u, pa, kp, ke, t, n, sn, sF, sT, sK, nz, nt, hC, hM, hI⟩ := hJ
  have c := c_turn (d := d) hC hI.z1 x i j r
  have m := n_turn (d := d) hM hI.z1 x i j r
  by_cases a0 : 0 ≤ x.toInt ∧ x.toInt ≤ 2
  · by_cases a2 : -20 ≤ r.toInt ∧ r.toInt ≤ 20
    · by_cases a1 : rfS nz x i j = 0
      · obtain ⟨b1, b2, b3, b4, b5⟩ := rfS_00 a1
        have hz := hI.z x.toInt.toNat (by omega)
        obtain ⟨h1, e1, C1, F1⟩ := c.2.2.2 a2 a1
        refine JS.go hM e1 C1 F1 (fun hM1 => (n_turn (d := d) hM1 hI.z1 x i j r).2.2.2 a2 a1) (hI.nu0 (fun k hk => ?_))
        generalize (r.toInt % ((j.toInt.toNat - i.toInt.toNat : Nat) : Int)).toNat = o
        unfold rotT
        by_cases d1 : i.toInt.toNat ≤ k ∧ k < j.toInt.toNat
        · rw [if_pos d1]
          by_cases d2 : k < i.toInt.toNat + o
          · rw [if_pos d2]; exact hz.2 _ (by omega)
          · rw [if_neg d2]; exact hz.2 _ (by omega)
        · rw [if_neg d1]; exact hz.2 _ (by omega)
      · exact JS.same hC hM hI (c.2.2.1 a0 a2 a1) (m.2.2.1 a0 a2 a1)
    · exact JS.same hC hM hI (c.2.1 a0 a2) (m.2.1 a0 a2)
  · exact JS.same hC hM hI (c.1 a0) (m.1 a0)
theorem j_reverse (hJ : JI h) (x i j : Int32) : JS d h 112 206 [.int x, .int i, .int j] := by
  obtain ⟨P, σ, u, pa, kp, ke, t, n, sn, sF, sT, sK, nz, nt, hC, hM, hI⟩ := hJ
  have c := c_reverse (d := d) hC hI.z1 x i j
  have m := n_reverse (d := d) hM hI.z1 x i j
  by_cases a1 : rfS nz x i j = 0
  · obtain ⟨b1, b2, b3, b4, b5⟩ := rfS_00 a1
    have hz := hI.z x.toInt.toNat (by omega)
    obtain ⟨h1, e1, C1, F1⟩ := c.2 a1
    refine JS.go hM e1 C1 F1 (fun hM1 => (n_reverse (d := d) hM1 hI.z1 x i j).2 a1) (hI.nu0 (fun k hk => ?_))
    unfold flpN
    by_cases d1 : i.toInt.toNat ≤ k ∧ k < j.toInt.toNat
    · rw [if_pos d1]; exact hz.2 _ (by omega)
    · rw [if_neg d1]; exact hz.2 _ (by omega)
  · exact JS.same hC hM hI (c.1 a1) (m.1 a1)
theorem j_paste (hJ : JI h) (x k y i j : Int32) : JS d h 113 207 [.int x, .int k, .int y, .int i, .int j] := by
  obtain ⟨P, σ, u, pa, kp, ke, t, n, sn, sF, sT, sK, nz, nt, hC, hM, hI⟩ := hJ
  have c := c_paste (d := d) hC hI.z1 x k y i j
  have m := n_paste (d := d) hM hI.z1 x k y i j
  by_cases a1 : rfP nz x k y i j = 0
  · obtain ⟨b1, b2, b3, b4, b5, b6, b7, b8, b9, b10⟩ := rfP_0 a1
    have hz := hI.z x.toInt.toNat (by omega)
    have hy := hI.z y.toInt.toNat (by omega)
    obtain ⟨h1, e1, C1, F1⟩ := c.2 a1
    refine JS.go hM e1 C1 F1 (fun hM1 => (n_paste (d := d) hM1 hI.z1 x k y i j).2 a1) (hI.nu (by omega) (fun q hq => ?_))
    unfold pasN
    by_cases d1 : q < k.toInt.toNat
    · rw [if_pos d1]; exact hz.2 _ (by omega)
    · rw [if_neg d1]
      by_cases d2 : q < k.toInt.toNat + (j.toInt.toNat - i.toInt.toNat)
      · rw [if_pos d2]; exact hy.2 _ (by omega)
      · rw [if_neg d2]; exact hz.2 _ (by omega)
  · exact JS.same hC hM hI (c.1 a1) (m.1 a1)
theorem j_often (hJ : JI h) (x w v : Int32) : JS d h 114 208 [.int x, .int w, .int v] := by
  obtain ⟨P, σ, u, pa, kp, ke, t, n, sn, sF, sT, sK, nz, nt, hC, hM, hI⟩ := hJ
  exact JS.same hC hM hI (c_often (d := d) hC hI.1.1 hI.z x w v) (n_often (d := d) hM hI.1.1 hI.z x w v)
theorem j_count (hJ : JI h) (w : Int32) : JS d h 116 211 [.int w] := by
  obtain ⟨P, σ, u, pa, kp, ke, t, n, sn, sF, sT, sK, nz, nt, hC, hM, hI⟩ := hJ
  exact JS.same hC hM hI (c_count (d := d) hC hI.1.1 w) (n_count (d := d) hM hI.1.1 hI.z1 w)
end J
