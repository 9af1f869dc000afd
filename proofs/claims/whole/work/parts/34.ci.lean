/-! the class's object as a whole -/
def ride0 : va_E := .inr (7, [.ref 1, .ref 5, .ref 9, .ref 53, .ref 59, .ref 66, .ref 79, .ref 80])
def VO (P : Pn) (σ : Hn) (Φ : Fo) : Prop := Φ.2.2.1 = 0 ∨ (Φ.2.2.1 = 1 ∧ ∃ be0 f0 : Nat → Nat, Φ.1 = (upN P σ f0 8).1 ∧ Φ.2.1 = (ordN P σ (upN P σ f0 8).1 720 489 be0 (upN P σ f0 8).2).1 ∧ Φ.2.2.2.1 = (ordN P σ (upN P σ f0 8).1 720 489 be0 (upN P σ f0 8).2).2.1)
def FO (h : am_H) (P : Pn) (σ : Hn) (Φ : Fo) : Prop := am_at h 59 = some (fore0 59 5 62 Φ) ∧ am_at h 60 = some (AI 6 (fun i => nI (Φ.2.2.2.1 i))) ∧ am_at h 61 = some (AI 6 (fun i => nI (Φ.2.2.2.2 i))) ∧ RawAt h 62 1 ∧ (∀ i, i < 6 → Φ.2.2.2.2 i < 8) ∧ VO P σ Φ
def NS (h : am_H) (nz : Nat → Nat) (nt : Nat → Nat → Nat) : Prop := am_at h 79 = some (AR 4 3 (fun i => 81 + 2 * i)) ∧ (∃ g : Nat → Nat, am_at h 80 = some (AI 12 (fun k => nI (g k)))) ∧ ∀ i, i < 3 → ∃ (s : Nat) (f : Nat → Nat), NoteAt h (81 + 2 * i) (if nz i = 0 then 1 else 0) s f ∧ (nz i ≠ 0 → s + 1 = nz i ∧ ∀ k, k < s → f k = nt i k)
def CI (h : am_H) (P : Pn) (σ : Hn) (u : Nat) (pa : Nat → Hn) (kp : Nat → Bool) (ke : Nat → Hn) (t : Nat → Nat) (n sn : Nat) (sF sT sK : Nat → Nat) (nz : Nat → Nat) (nt : Nat → Nat → Nat) : Prop :=
  Stt h ∧ am_at h 0 = some ride0 ∧ PlanAt h 1 P ∧ HouseAt h 5 1 σ ∧ (∃ nx, PS h u nx pa kp ke) ∧ (∃ c b e D, RX h 53 t n c b e D ∧ OKD D) ∧ (∃ Φ, FO h P σ Φ) ∧ (∃ g, SG h 66 sn sF sT sK g) ∧ NS h nz nt
def HOK (P : Pn) (σ : Hn) : Prop := OKR P σ σ.1 ∧ σ.1 ≤ 999 ∧ σ.2.1 < 2 ^ 14
def okT (c : Nat) : Prop := c < 300000 ∧ 40001 ≤ c % 100000 ∧ c % 100000 ≤ 59999
def IV (P : Pn) (σ : Hn) (u : Nat) (pa : Nat → Hn) (kp : Nat → Bool) (ke : Nat → Hn) (t : Nat → Nat) (n sn : Nat) (sF sT sK : Nat → Nat) (nz : Nat → Nat) (nt : Nat → Nat → Nat) : Prop :=
  OKD P ∧ HOK P σ ∧ u ≤ 8 ∧ (∀ i, i < u → HOK P (pa i)) ∧ (∀ k, k < 2 → kp k = true → HOK P (ke k)) ∧ (∀ k, t k < 256) ∧ n ≤ 200 ∧ sn ≤ 6 ∧ (∀ s, s < sn → sF s < P.1 ∧ sT s < P.1 ∧ sF s ≠ sT s ∧ 1 ≤ sK s ∧ sK s ≤ 60) ∧ ∀ i, i < 3 → nz i ≤ 13 ∧ ∀ k, k + 1 < nz i → okT (nt i k)
/-- only the class's own cells were written -/
def FC (h h' : am_H) : Prop := h'.1 = h.1 ∧ h'.2.1 = h.2.1 ∧ ∀ k, 87 ≤ k → am_at h' k = am_at h k
theorem FC.rf {h : am_H} : FC h h := ⟨rfl, rfl, fun _ _ => rfl⟩
theorem FC.tr {h h' h'' : am_H} (h1 : FC h h') (h2 : FC h' h'') : FC h h'' := ⟨h2.1.trans h1.1, h2.2.1.trans h1.2.1, fun k hk => (h2.2.2 k hk).trans (h1.2.2 k hk)⟩
theorem FC.set {h : am_H} {a : Nat} {c : va_E} (ha : a < 87) : FC h (am_set h a c) := ⟨rfl, rfl, fun k hk => at_set_ne (by omega)⟩
theorem FC.pH {h : am_H} {a b : Nat} {σ : Hn} (ha : a + 3 < 87) : FC h (pH h a b σ) := ⟨rfl, rfl, fun k hk => at_pH_ne (by omega)⟩
theorem FC.pP {h : am_H} {b : Nat} {P : Pn} (hb : b + 3 < 87) : FC h (pP h b P) := ⟨rfl, rfl, fun k hk => at_pP_ne (by omega)⟩
theorem FO.keep {h h' : am_H} {P : Pn} {σ : Hn} {Φ : Fo} (hF : FO h P σ Φ) (hk : ∀ k, 59 ≤ k → k ≤ 65 → am_at h' k = am_at h k) : FO h' P σ Φ := by
  obtain ⟨h1, h2, h3, h4, h5, h6⟩ := hF
  exact ⟨by rw [hk _ (by omega) (by omega)]; exact h1, by rw [hk _ (by omega) (by omega)]; exact h2, by rw [hk _ (by omega) (by omega)]; exact h3, h4.keep (fun k _ _ => hk k (by omega) (by omega)), h5, h6⟩
theorem NS.keep {h h' : am_H} {nz : Nat → Nat} {nt : Nat → Nat → Nat} (hN : NS h nz nt) (hk : ∀ k, 79 ≤ k → k ≤ 86 → am_at h' k = am_at h k) : NS h' nz nt := by
  obtain ⟨h1, ⟨g, h2⟩, h3⟩ := hN
  refine ⟨by rw [hk _ (by omega) (by omega)]; exact h1, ⟨g, by rw [hk _ (by omega) (by omega)]; exact h2⟩, fun i hi => ?_⟩
  obtain ⟨s, f, h4, h5⟩ := h3 i hi
  exact ⟨s, f, h4.keep (fun k _ _ => hk k (by omega) (by omega)), h5⟩
theorem RX.keep {h h' : am_H} {v n c b e : Nat} {t : Nat → Nat} {D : Pn} (hX : RX h v t n c b e D) (hk : ∀ k, (v ≤ k ∧ k ≤ v + 5) ∨ 1000000 ≤ k → am_at h' k = am_at h k) : RX h' v t n c b e D := by
  obtain ⟨⟨h1, h2, h3, h4, h5, h6⟩, hp⟩ := hX
  exact ⟨⟨h1.keep (fun k hk' => hk k (Or.inr hk')), by rw [hk _ (by omega)]; exact h2, by rw [hk _ (by omega)]; exact h3, h4, h5, h6⟩, hp.keep (fun k _ _ => hk k (by omega))⟩
theorem SG.keep {h h' : am_H} {v n : Nat} {F T K : Nat → Nat} {g : Nat → Int32} (hS : SG h v n F T K g) (hk : ∀ k, (v ≤ k ∧ k ≤ v + 12) ∨ 1000000 ≤ k → am_at h' k = am_at h k) : SG h' v n F T K g := by
  obtain ⟨h1, h2, h3, h4, h5, ⟨D, h6, h6'⟩, h7, h8, h9⟩ := hS
  exact ⟨h1.keep (fun k hk' => hk k (Or.inr hk')), by rw [hk _ (by omega)]; exact h2, by rw [hk _ (by omega)]; exact h3, by rw [hk _ (by omega)]; exact h4, by rw [hk _ (by omega)]; exact h5, ⟨D, h6.keep (fun k _ _ => hk k (by omega)), h6'⟩, h7.keep (fun k _ _ => hk k (by omega)), by rw [hk _ (by omega)]; exact h8, h9⟩
section CI
variable {d : Nat} {h : am_H} {P : Pn} {σ : Hn} {u : Nat} {pa : Nat → Hn} {kp : Nat → Bool} {ke : Nat → Hn} {t : Nat → Nat} {n sn : Nat} {sF sT sK : Nat → Nat} {nz : Nat → Nat} {nt : Nat → Nat → Nat}
theorem CI.fl (hC : CI h P σ u pa kp ke t n sn sF sT sK nz nt) : am_fld (am_at h 0) 7 0 = some (.ref 1) ∧ am_fld (am_at h 0) 7 1 = some (.ref 5) ∧ am_fld (am_at h 0) 7 2 = some (.ref 9) ∧ am_fld (am_at h 0) 7 3 = some (.ref 53) ∧ am_fld (am_at h 0) 7 4 = some (.ref 59) ∧ am_fld (am_at h 0) 7 5 = some (.ref 66) ∧ am_fld (am_at h 0) 7 6 = some (.ref 79) ∧ am_fld (am_at h 0) 7 7 = some (.ref 80) ∧ am_is (am_at h 0) 7 = true := by
  rw [hC.2.1]; exact ⟨rfl, rfl, rfl, rfl, rfl, rfl, rfl, rfl, rfl⟩
theorem CI.fs (hC : CI h P σ u pa kp ke t n sn sF sT sK nz nt) {Φ : Fo} (hF : FO h P σ Φ) : FS h 59 5 62 1 P σ Φ := ⟨hC.1, hC.2.2.1, hC.2.2.2.1, hF.2.2.2.1, hF.1, ⟨by decide, by decide, by decide, by decide⟩, hF.2.1, hF.2.2.1⟩
/-- only the reader was written -/
theorem CI.rd (hC : CI h P σ u pa kp ke t n sn sF sT sK nz nt) {h' : am_H} {t' : Nat → Nat} {n' : Nat} (hX : ∃ c b e D, RX h' 53 t' n' c b e D ∧ OKD D) (hk : ∀ k, (k < 53 ∨ 58 < k) → am_at h' k = am_at h k) : CI h' P σ u pa kp ke t' n' sn sF sT sK nz nt := by
  obtain ⟨h1, h2, h3, h4, ⟨nx, h5⟩, -, ⟨Φ, h7⟩, ⟨g, h8⟩, h9⟩ := hC
  exact ⟨h1.keep (fun k _ => hk k (by omega)), by rw [hk _ (by omega)]; exact h2, h3.keep (fun k _ _ => hk k (by omega)), h4.keep (fun k _ _ => hk k (by omega)), ⟨nx, h5.keep (fun k _ _ => hk k (by omega))⟩, hX, ⟨Φ, h7.keep (fun k _ _ => hk k (by omega))⟩, ⟨g, h8.keep (fun k _ => hk k (by omega))⟩, h9.keep (fun k _ _ => hk k (by omega))⟩
/-- only the foresight was written -/
theorem CI.fo (hC : CI h P σ u pa kp ke t n sn sF sT sK nz nt) {h' : am_H} (hX : ∃ Φ, FO h' P σ Φ) (hk : ∀ k, (k < 59 ∨ 65 < k) → am_at h' k = am_at h k) : CI h' P σ u pa kp ke t n sn sF sT sK nz nt := by
  obtain ⟨h1, h2, h3, h4, ⟨nx, h5⟩, ⟨c, b, e, D, h6, hD⟩, -, ⟨g, h8⟩, h9⟩ := hC
  exact ⟨h1.keep (fun k _ => hk k (by omega)), by rw [hk _ (by omega)]; exact h2, h3.keep (fun k _ _ => hk k (by omega)), h4.keep (fun k _ _ => hk k (by omega)), ⟨nx, h5.keep (fun k _ _ => hk k (by omega))⟩, ⟨c, b, e, D, h6.keep (fun k _ => hk k (by omega)), hD⟩, hX, ⟨g, h8.keep (fun k _ => hk k (by omega))⟩, h9.keep (fun k _ _ => hk k (by omega))⟩
/-- only the sightings were written -/
theorem CI.sg (hC : CI h P σ u pa kp ke t n sn sF sT sK nz nt) {h' : am_H} {sn' : Nat} {sF' sT' sK' : Nat → Nat} (hX : ∃ g, SG h' 66 sn' sF' sT' sK' g) (hk : ∀ k, (k < 66 ∨ 78 < k) → am_at h' k = am_at h k) : CI h' P σ u pa kp ke t n sn' sF' sT' sK' nz nt := by
  obtain ⟨h1, h2, h3, h4, ⟨nx, h5⟩, ⟨c, b, e, D, h6, hD⟩, ⟨Φ, h7⟩, -, h9⟩ := hC
  exact ⟨h1.keep (fun k _ => hk k (by omega)), by rw [hk _ (by omega)]; exact h2, h3.keep (fun k _ _ => hk k (by omega)), h4.keep (fun k _ _ => hk k (by omega)), ⟨nx, h5.keep (fun k _ _ => hk k (by omega))⟩, ⟨c, b, e, D, h6.keep (fun k _ => hk k (by omega)), hD⟩, ⟨Φ, h7.keep (fun k _ _ => hk k (by omega))⟩, hX, h9.keep (fun k _ _ => hk k (by omega))⟩
/-- only the notes were written -/
theorem CI.ns (hC : CI h P σ u pa kp ke t n sn sF sT sK nz nt) {h' : am_H} {nz' : Nat → Nat} {nt' : Nat → Nat → Nat} (hX : NS h' nz' nt') (hk : ∀ k, (k < 79 ∨ 86 < k) → am_at h' k = am_at h k) : CI h' P σ u pa kp ke t n sn sF sT sK nz' nt' := by
  obtain ⟨h1, h2, h3, h4, ⟨nx, h5⟩, ⟨c, b, e, D, h6, hD⟩, ⟨Φ, h7⟩, ⟨g, h8⟩, -⟩ := hC
  exact ⟨h1.keep (fun k _ => hk k (by omega)), by rw [hk _ (by omega)]; exact h2, h3.keep (fun k _ _ => hk k (by omega)), h4.keep (fun k _ _ => hk k (by omega)), ⟨nx, h5.keep (fun k _ _ => hk k (by omega))⟩, ⟨c, b, e, D, h6.keep (fun k _ => hk k (by omega)), hD⟩, ⟨Φ, h7.keep (fun k _ _ => hk k (by omega))⟩, ⟨g, h8.keep (fun k _ => hk k (by omega))⟩, hX⟩
/-- house, past and foresight were written -/
theorem CI.hp (hC : CI h P σ u pa kp ke t n sn sF sT sK nz nt) {h' : am_H} {σ' : Hn} {u' : Nat} {pa' ke' : Nat → Hn} {kp' : Nat → Bool} (hH : HouseAt h' 5 1 σ') (hP : ∃ nx, PS h' u' nx pa' kp' ke') (hX : ∃ Φ, FO h' P σ' Φ) (hk : ∀ k, (k < 5 ∨ (52 < k ∧ k < 59) ∨ 65 < k) → am_at h' k = am_at h k) : CI h' P σ' u' pa' kp' ke' t n sn sF sT sK nz nt := by
  obtain ⟨h1, h2, h3, h4, -, ⟨c, b, e, D, h6, hD⟩, -, ⟨g, h8⟩, h9⟩ := hC
  exact ⟨h1.keep (fun k _ => hk k (by omega)), by rw [hk _ (by omega)]; exact h2, h3.keep (fun k _ _ => hk k (by omega)), hH, hP, ⟨c, b, e, D, h6.keep (fun k _ => hk k (by omega)), hD⟩, hX, ⟨g, h8.keep (fun k _ => hk k (by omega))⟩, h9.keep (fun k _ _ => hk k (by omega))⟩
end CI
