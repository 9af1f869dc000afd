/-! what holds stays so -/
theorem OKD.rd {t : Nat → Nat} {n : Nat} : ∀ (j c : Nat) (D : Pn) (e b0 : Nat), OKD D → OKD (rdN t n j c D e b0).2.2
  | 0, _, _, _, _, h => h
  | j + 1, c, D, e, b0, h => by
    have h1 := h.cl (t := t) (n := n) e
    unfold rdN
    simp only
    split
    · exact h
    · split
      · exact h1
      · split
        · exact OKD.rd j _ _ _ _ h1
        · exact h1
theorem OKD.tx {t : Nat → Nat} {n : Nat} {P : Pn} (h : OKD P) : OKD (txN t n P).2.2 := OKD.rd 24 0 P 0 0 h
theorem HOK.beg {P : Pn} (h : OKD P) : HOK P (0, P.2.2.1, (fun _ => 0), (fun _ => 0)) := by
  have := h.2.1
  exact ⟨⟨Nat.le_refl _, fun p _ => ⟨by simp only; omega, Nat.le_refl _⟩⟩, by simp only; omega, h.2.2.2.1⟩
section IV
variable {P : Pn} {σ : Hn} {u : Nat} {pa : Nat → Hn} {kp : Nat → Bool} {ke : Nat → Hn} {t : Nat → Nat} {n sn : Nat} {sF sT sK : Nat → Nat} {nz : Nat → Nat} {nt : Nat → Nat → Nat}
theorem IV.hp (hI : IV P σ u pa kp ke t n sn sF sT sK nz nt) {σ' : Hn} (hσ : HOK P σ') : IV P σ' (min (u + 1) 8) (pushN u pa σ) kp ke t n sn sF sT sK nz nt := by
  obtain ⟨i1, i2, i3, i4, i5⟩ := hI
  refine ⟨i1, hσ, by omega, fun i hi => ?_, i5⟩
  unfold pushN
  by_cases c : i + 1 = min (u + 1) 8
  · rw [if_pos c]; exact i2
  · rw [if_neg c]; exact i4 _ (by omega)
theorem IV.ns (hI : IV P σ u pa kp ke t n sn sF sT sK nz nt) {nz' : Nat → Nat} {nt' : Nat → Nat → Nat} (h : ∀ i, i < 3 → nz' i ≤ 13 ∧ ∀ k, k + 1 < nz' i → okT (nt' i k)) : IV P σ u pa kp ke t n sn sF sT sK nz' nt' := by
  obtain ⟨i1, i2, i3, i4, i5, i6, i7, i8, i9, -⟩ := hI
  exact ⟨i1, i2, i3, i4, i5, i6, i7, i8, i9, h⟩
theorem IV.z (hI : IV P σ u pa kp ke t n sn sF sT sK nz nt) : ∀ i, i < 3 → nz i ≤ 13 ∧ ∀ k, k + 1 < nz i → okT (nt i k) := hI.2.2.2.2.2.2.2.2.2
theorem IV.z1 (hI : IV P σ u pa kp ke t n sn sF sT sK nz nt) : ∀ i, i < 3 → nz i ≤ 13 := fun i hi => (hI.z i hi).1
theorem IV.nu (hI : IV P σ u pa kp ke t n sn sF sT sK nz nt) {q m : Nat} {f : Nat → Nat} (hm : m ≤ 13) (hf : ∀ k, k + 1 < m → okT (f k)) : IV P σ u pa kp ke t n sn sF sT sK (updn nz q m) (thn nt q f) := by
  refine hI.ns (fun i hi => ?_)
  unfold updn thn
  by_cases c : i = q
  · rw [if_pos c, if_pos c]; exact ⟨hm, hf⟩
  · rw [if_neg c, if_neg c]; exact hI.z i hi
theorem IV.nu0 (hI : IV P σ u pa kp ke t n sn sF sT sK nz nt) {q : Nat} {f : Nat → Nat} (hf : ∀ k, k + 1 < nz q → okT (f k)) : IV P σ u pa kp ke t n sn sF sT sK nz (thn nt q f) := by
  refine hI.ns (fun i hi => ?_)
  unfold thn
  by_cases c : i = q
  · rw [if_pos c]; subst c; exact ⟨(hI.z i hi).1, hf⟩
  · rw [if_neg c]; exact hI.z i hi
theorem IV.nn (hI : IV P σ u pa kp ke t n sn sF sT sK nz nt) {q m : Nat} {nt' : Nat → Nat → Nat} (hm : m ≤ 1) (hf : ∀ i, i ≠ q → nt' i = nt i) : IV P σ u pa kp ke t n sn sF sT sK (updn nz q m) nt' := by
  refine hI.ns (fun i hi => ?_)
  unfold updn
  by_cases c : i = q
  · rw [if_pos c]; exact ⟨by omega, fun k hk => by omega⟩
  · rw [if_neg c, hf i c]; exact hI.z i hi
end IV
theorem rfT_00 {P : Pn} {x w v : Int32} (h : rfT P x w v = 0) : (0 ≤ x.toInt ∧ x.toInt ≤ 2) ∧ ¬ (w = 1 ∧ ¬ (0 ≤ v.toInt ∧ v.toInt < P.2.2.2.1)) ∧ (0 ≤ w.toInt ∧ w.toInt ≤ 2) ∧ ¬ (w = 0 ∧ ¬ (-9999 ≤ v.toInt ∧ v.toInt ≤ 9999)) ∧ ¬ (w = 2 ∧ ¬ (0 ≤ v.toInt ∧ v.toInt ≤ 9)) := by
  unfold rfT at h
  by_cases c1 : ¬ (0 ≤ x.toInt ∧ x.toInt ≤ 2) ∨ (w = 1 ∧ ¬ (0 ≤ v.toInt ∧ v.toInt < P.2.2.2.1))
  · rw [if_pos c1] at h; exact absurd h (by decide)
  · rw [if_neg c1] at h
    by_cases c2 : ¬ (0 ≤ w.toInt ∧ w.toInt ≤ 2) ∨ (w = 0 ∧ ¬ (-9999 ≤ v.toInt ∧ v.toInt ≤ 9999)) ∨ (w = 2 ∧ ¬ (0 ≤ v.toInt ∧ v.toInt ≤ 9))
    · rw [if_pos c2] at h; exact absurd h (by decide)
    · rw [not_or] at c1 c2
      rw [not_or] at c2
      exact ⟨Decidable.of_not_not c1.1, c1.2, Decidable.of_not_not c2.1, c2.2.1, c2.2.2⟩
theorem thc_okk {P : Pn} {x w v : Int32} (hn : P.2.2.2.1 ≤ 8) (h : rfT P x w v = 0) : okT (thc w v) := by
  obtain ⟨-, a1, a2, a3, a4⟩ := rfT_00 h
  unfold okT thc
  have e0 : w = 0 ↔ w.toInt = 0 := by rw [i_eq]; exact Iff.rfl
  have e1 : w = 1 ↔ w.toInt = 1 := by rw [i_eq]; exact Iff.rfl
  have e2 : w = 2 ↔ w.toInt = 2 := by rw [i_eq]; exact Iff.rfl
  rw [e1] at a1
  rw [e0] at a3
  rw [e2] at a4
  rcases (show w.toInt = 0 ∨ w.toInt = 1 ∨ w.toInt = 2 by omega) with z | z | z <;> rw [z] at a1 a3 a4 ⊢ <;> omega
theorem rfS_00 {nz : Nat → Nat} {x i j : Int32} (h : rfS nz x i j = 0) : (0 ≤ x.toInt ∧ x.toInt ≤ 2) ∧ nz x.toInt.toNat ≠ 0 ∧ 0 ≤ i.toInt ∧ j.toInt ≤ (nz x.toInt.toNat : Int) - 1 ∧ i.toInt ≤ j.toInt := by
  unfold rfS at h
  by_cases c1 : ¬ (0 ≤ x.toInt ∧ x.toInt ≤ 2)
  · rw [if_pos c1] at h; exact absurd h (by decide)
  · rw [if_neg c1] at h
    by_cases c2 : nz x.toInt.toNat = 0
    · rw [if_pos c2] at h; exact absurd h (by decide)
    · rw [if_neg c2] at h
      by_cases c3 : i.toInt < 0 ∨ (nz x.toInt.toNat : Int) - 1 < j.toInt
      · rw [if_pos c3] at h; exact absurd h (by decide)
      · rw [if_neg c3] at h
        by_cases c4 : j.toInt < i.toInt
        · rw [if_pos c4] at h; exact absurd h (by decide)
        · exact ⟨Decidable.of_not_not c1, c2, by omega, by omega, by omega⟩
theorem rfP_0 {nz : Nat → Nat} {x k y i j : Int32} (h : rfP nz x k y i j = 0) : (0 ≤ x.toInt ∧ x.toInt ≤ 2) ∧ (0 ≤ y.toInt ∧ y.toInt ≤ 2) ∧ nz x.toInt.toNat ≠ 0 ∧ nz y.toInt.toNat ≠ 0 ∧ 0 ≤ i.toInt ∧ j.toInt ≤ (nz y.toInt.toNat : Int) - 1 ∧ 0 ≤ k.toInt ∧ k.toInt ≤ (nz x.toInt.toNat : Int) - 1 ∧ i.toInt ≤ j.toInt ∧ (nz x.toInt.toNat : Int) - 1 + (j.toInt - i.toInt) ≤ 12 := by
  unfold rfP at h
  by_cases c1 : ¬ (0 ≤ x.toInt ∧ x.toInt ≤ 2) ∨ ¬ (0 ≤ y.toInt ∧ y.toInt ≤ 2)
  · rw [if_pos c1] at h; exact absurd h (by decide)
  · rw [if_neg c1] at h
    by_cases c2 : nz x.toInt.toNat = 0 ∨ nz y.toInt.toNat = 0
    · rw [if_pos c2] at h; exact absurd h (by decide)
    · rw [if_neg c2] at h
      by_cases c3 : (i.toInt < 0 ∨ (nz y.toInt.toNat : Int) - 1 < j.toInt) ∨ ¬ (0 ≤ k.toInt ∧ k.toInt ≤ (nz x.toInt.toNat : Int) - 1)
      · rw [if_pos c3] at h; exact absurd h (by decide)
      · rw [if_neg c3] at h
        by_cases c4 : j.toInt < i.toInt
        · rw [if_pos c4] at h; exact absurd h (by decide)
        · rw [if_neg c4] at h
          by_cases c5 : 12 < (nz x.toInt.toNat : Int) - 1 + (j.toInt - i.toInt)
          · rw [if_pos c5] at h; exact absurd h (by decide)
          · refine ⟨by omega, by omega, by omega, by omega, by omega, by omega, by omega, by omega, by omega, by omega⟩
/-- both, alike -/
def JI (h : am_H) : Prop := ∃ (P : Pn) (σ : Hn) (u : Nat) (pa : Nat → Hn) (kp : Nat → Bool) (ke : Nat → Hn) (t : Nat → Nat) (n sn : Nat) (sF sT sK : Nat → Nat) (nz : Nat → Nat) (nt : Nat → Nat → Nat), CI h P σ u pa kp ke t n sn sF sT sK nz nt ∧ MI h P σ u pa kp ke t n sn sF sT sK nz nt ∧ IV P σ u pa kp ke t n sn sF sT sK nz nt
def FA (h h' : am_H) : Prop := h'.1 = h.1 ∧ h'.2.1 = h.2.1 ∧ ∀ k, 111 ≤ k → am_at h' k = am_at h k
theorem FA.rf {h : am_H} : FA h h := ⟨rfl, rfl, fun _ _ => rfl⟩
theorem FA.tr {h h' h'' : am_H} (h1 : FA h h') (h2 : FA h' h'') : FA h h'' := ⟨h2.1.trans h1.1, h2.2.1.trans h1.2.1, fun k hk => (h2.2.2 k hk).trans (h1.2.2 k hk)⟩
def JS (d : Nat) (h : am_H) (k1 k2 : Nat) (as : List Value) : Prop := ∃ (v : Int32) (h1 h2 : am_H), am_cal (d + 8) k1 (.ref 0 :: as) h = some (some (.int v), h1) ∧ am_is (am_at h1 87) 8 = true ∧ (∀ k, 87 ≤ k → am_at h1 k = am_at h k) ∧ am_cal (d + 8) k2 (.ref 87 :: as) h1 = some (some (.int v), h2) ∧ JI h2 ∧ FA h h2
theorem JI.is {h : am_H} (hJ : JI h) : am_is (am_at h 0) 7 = true := by
  obtain ⟨P, σ, u, pa, kp, ke, t, n, sn, sF, sT, sK, nz, nt, hC, hM, hI⟩ := hJ
  exact hC.fl.2.2.2.2.2.2.2.2
section J
variable {d : Nat} {h : am_H} {k1 k2 : Nat} {as : List Value} {P : Pn} {σ : Hn} {u : Nat} {pa : Nat → Hn} {kp : Nat → Bool} {ke : Nat → Hn} {t : Nat → Nat} {n sn : Nat} {sF sT sK : Nat → Nat} {nz : Nat → Nat} {nt : Nat → Nat → Nat}
theorem MI.is (hM : MI h P σ u pa kp ke t n sn sF sT sK nz nt) : am_is (am_at h 87) 8 = true := by
  obtain ⟨fi, be, rF, rP, cl, dg, h1⟩ := hM.1
  exact (md_fl h1).2.2.2.2.2.2.2.2.2.2.2.2
theorem JS.go {P' : Pn} {σ' : Hn} {u' : Nat} {pa' : Nat → Hn} {kp' : Nat → Bool} {ke' : Nat → Hn} {t' : Nat → Nat} {n' sn' : Nat} {sF' sT' sK' : Nat → Nat} {nz' : Nat → Nat} {nt' : Nat → Nat → Nat} (hM : MI h P σ u pa kp ke t n sn sF sT sK nz nt) {v : Int32} {h1 : am_H} (e1 : am_cal (d + 8) k1 (.ref 0 :: as) h = some (some (.int v), h1)) (hC1 : CI h1 P' σ' u' pa' kp' ke' t' n' sn' sF' sT' sK' nz' nt') (hF : FC h h1) (hn : MI h1 P σ u pa kp ke t n sn sF sT sK nz nt → ∃ h2, am_cal (d + 8) k2 (.ref 87 :: as) h1 = some (some (.int v), h2) ∧ MI h2 P' σ' u' pa' kp' ke' t' n' sn' sF' sT' sK' nz' nt' ∧ FM h1 h2) (hI : IV P' σ' u' pa' kp' ke' t' n' sn' sF' sT' sK' nz' nt') : JS d h k1 k2 as := by
  have hM1 : MI h1 P σ u pa kp ke t n sn sF sT sK nz nt := hM.keep (fun k h1 _ => hF.2.2 k h1)
  obtain ⟨h2, e2, M2, F2⟩ := hn hM1
  exact ⟨v, h1, h2, e1, hM1.is, hF.2.2, e2, ⟨P', σ', u', pa', kp', ke', t', n', sn', sF', sT', sK', nz', nt', hC1.keepM F2.2.2, M2, hI⟩, F2.1.trans hF.1, F2.2.1.trans hF.2.1, fun k hk => (F2.2.2 k (by omega)).trans (hF.2.2 k (by omega))⟩
theorem JS.same (hC : CI h P σ u pa kp ke t n sn sF sT sK nz nt) (hM : MI h P σ u pa kp ke t n sn sF sT sK nz nt) (hI : IV P σ u pa kp ke t n sn sF sT sK nz nt) {v : Int32} (e1 : am_cal (d + 8) k1 (.ref 0 :: as) h = some (some (.int v), h)) (e2 : am_cal (d + 8) k2 (.ref 87 :: as) h = some (some (.int v), h)) : JS d h k1 k2 as :=
  ⟨v, h, h, e1, hM.is, fun _ _ => rfl, e2, ⟨P, σ, u, pa, kp, ke, t, n, sn, sF, sT, sK, nz, nt, hC, hM, hI⟩, FA.rf⟩
theorem CI.kpF (hC : CI h P σ u pa kp ke t n sn sF sT sK nz nt) (hk : ∀ k, k < 2 → kp k = false) : CI h P σ u pa (fun _ => false) ke t n sn sF sT sK nz nt := by
  obtain ⟨h1, h2, h3, h4, ⟨nx, p1, p2, p3, p4, p5, p6, p7, p8, p9, p10⟩, h6⟩ := hC
  refine ⟨h1, h2, h3, h4, ⟨nx, p1, p2, p3, ?_, p5, p6, p7, p8, p9, fun k _ z => Bool.noConfusion z⟩, h6⟩
  rw [p4]
  unfold AZ
  refine congrArg (fun z => some (.inl (1, 2, .inl z) : va_E)) (funext fun k => ?_)
  by_cases c : k < 2
  · rw [hk k c]
  · rw [if_neg (fun z => c z.1), if_neg (fun z => c z.1)]
end J
