/-! the model's object as a whole -/
def md0 (u n sn fi be rF rP cl dg : Int32) : va_E := .inr (8, [.ref 88, .int u, .ref 89, .ref 90, .int n, .int sn, .ref 91, .ref 92, .ref 93, .ref 94, .ref 95, .ref 96, .int fi, .int be, .int rF, .int rP, .int cl, .int dg, .ref 97, .ref 98, .ref 99, .ref 100, .ref 101, .ref 102, .ref 103, .ref 104, .ref 105, .ref 106, .ref 107, .ref 108, .ref 109, .ref 110])
def MRow (f : Nat → Int32) (P : Pn) (σ : Hn) (u : Nat) (pa : Nat → Hn) (kp : Nat → Bool) (ke : Nat → Hn) : Prop := RowP f 0 P ∧ RowH f 0 σ ∧ RowP f 53 P ∧ RowH f 53 (0, P.2.2.1, (fun _ => 0), (fun _ => 0)) ∧ (∀ i, i < u → RowH f (106 + 26 * i) (pa i)) ∧ ∀ k, k < 2 → kp k = true → RowH f (314 + 26 * k) (ke k)
def MTx (h : am_H) (t sF sT sK : Nat → Nat) : Prop := am_at h 90 = some (AI 200 (fun k => nI (t k))) ∧ am_at h 91 = some (AI 6 (fun k => nI (sF k))) ∧ am_at h 92 = some (AI 6 (fun k => nI (sT k))) ∧ am_at h 93 = some (AI 6 (fun k => nI (sK k)))
def MNo (h : am_H) (nz : Nat → Nat) (nt : Nat → Nat → Nat) : Prop := am_at h 94 = some (AI 3 (fun i => cI (nz i + 1))) ∧ (∃ g1 g2 : Nat → Int32, am_at h 95 = some (AI 36 g1) ∧ am_at h 96 = some (AI 36 g2) ∧ ∀ i, i < 3 → ∀ k, k + 1 < nz i → g1 (12 * i + k) = nI (nt i k / 100000) ∧ g2 (12 * i + k) = nI (nt i k % 100000) - 50000) ∧ ∃ g3 g4 : Nat → Int32, am_at h 109 = some (AI 12 g3) ∧ am_at h 110 = some (AI 12 g4)
def MSc (h : am_H) : Prop := (∃ g : Nat → Int32, am_at h 97 = some (AI 2 g)) ∧ (∀ w, w < 8 → am_at h (98 + (w + 3) % 8) = some (AI (wdN w).length (fun k => nI ((wdN w).getD k 0)))) ∧ am_at h 106 = some (AI 8 (fun i => nI i)) ∧ (∃ g : Nat → Int32, am_at h 107 = some (AI 8 g)) ∧ ∃ g : Nat → Int32, am_at h 108 = some (AI 8 g)
def MI (h : am_H) (P : Pn) (σ : Hn) (u : Nat) (pa : Nat → Hn) (kp : Nat → Bool) (ke : Nat → Hn) (t : Nat → Nat) (n sn : Nat) (sF sT sK : Nat → Nat) (nz : Nat → Nat) (nt : Nat → Nat → Nat) : Prop :=
  (∃ fi be rF rP cl dg : Int32, am_at h 87 = some (md0 (nI u) (nI n) (nI sn) fi be rF rP cl dg)) ∧ (∃ f, am_at h 88 = some (AI 392 f) ∧ MRow f P σ u pa kp ke) ∧ am_at h 89 = some (AZ 2 kp) ∧ MTx h t sF sT sK ∧ MNo h nz nt ∧ MSc h
def FM (h h' : am_H) : Prop := h'.1 = h.1 ∧ h'.2.1 = h.2.1 ∧ ∀ k, (k < 87 ∨ 110 < k) → am_at h' k = am_at h k
theorem FM.rf {h : am_H} : FM h h := ⟨rfl, rfl, fun _ _ => rfl⟩
theorem FM.tr {h h' h'' : am_H} (h1 : FM h h') (h2 : FM h' h'') : FM h h'' := ⟨h2.1.trans h1.1, h2.2.1.trans h1.2.1, fun k hk => (h2.2.2 k hk).trans (h1.2.2 k hk)⟩
theorem FM.set {h : am_H} {a : Nat} {c : va_E} (h1 : 87 ≤ a) (h2 : a ≤ 110) : FM h (am_set h a c) := ⟨rfl, rfl, fun k hk => at_set_ne (by omega)⟩
theorem MTx.keep {h h' : am_H} {t sF sT sK : Nat → Nat} (hT : MTx h t sF sT sK) (hk : ∀ k, 90 ≤ k → k ≤ 93 → am_at h' k = am_at h k) : MTx h' t sF sT sK := by
  obtain ⟨h1, h2, h3, h4⟩ := hT
  exact ⟨by rw [hk _ (by omega) (by omega)]; exact h1, by rw [hk _ (by omega) (by omega)]; exact h2, by rw [hk _ (by omega) (by omega)]; exact h3, by rw [hk _ (by omega) (by omega)]; exact h4⟩
theorem MNo.keep {h h' : am_H} {nz : Nat → Nat} {nt : Nat → Nat → Nat} (hN : MNo h nz nt) (hk : ∀ k, (94 ≤ k ∧ k ≤ 96) ∨ k = 109 ∨ k = 110 → am_at h' k = am_at h k) : MNo h' nz nt := by
  obtain ⟨h1, ⟨g1, g2, h2, h3, h4⟩, g3, g4, h5, h6⟩ := hN
  exact ⟨by rw [hk _ (by omega)]; exact h1, ⟨g1, g2, by rw [hk _ (by omega)]; exact h2, by rw [hk _ (by omega)]; exact h3, h4⟩, g3, g4, by rw [hk _ (by omega)]; exact h5, by rw [hk _ (by omega)]; exact h6⟩
theorem MSc.keep {h h' : am_H} (hS : MSc h) (hk : ∀ k, 97 ≤ k → k ≤ 108 → am_at h' k = am_at h k) : MSc h' := by
  obtain ⟨⟨g, h1⟩, h2, h3, ⟨g4, h4⟩, g5, h5⟩ := hS
  exact ⟨⟨g, by rw [hk _ (by omega) (by omega)]; exact h1⟩, fun w hw => by rw [hk _ (by omega) (by omega)]; exact h2 w hw, by rw [hk _ (by omega) (by omega)]; exact h3, ⟨g4, by rw [hk _ (by omega) (by omega)]; exact h4⟩, g5, by rw [hk _ (by omega) (by omega)]; exact h5⟩
section MI
variable {d : Nat} {h : am_H} {P : Pn} {σ : Hn} {u : Nat} {pa : Nat → Hn} {kp : Nat → Bool} {ke : Nat → Hn} {t : Nat → Nat} {n sn : Nat} {sF sT sK : Nat → Nat} {nz : Nat → Nat} {nt : Nat → Nat → Nat}
theorem MI.keep {h' : am_H} (hM : MI h P σ u pa kp ke t n sn sF sT sK nz nt) (hk : ∀ k, 87 ≤ k → k ≤ 110 → am_at h' k = am_at h k) : MI h' P σ u pa kp ke t n sn sF sT sK nz nt := by
  obtain ⟨⟨fi, be, rF, rP, cl, dg, h1⟩, ⟨f, h2, h2'⟩, h3, h4, h5, h6⟩ := hM
  exact ⟨⟨fi, be, rF, rP, cl, dg, by rw [hk _ (by omega) (by omega)]; exact h1⟩, ⟨f, by rw [hk _ (by omega) (by omega)]; exact h2, h2'⟩, by rw [hk _ (by omega) (by omega)]; exact h3, h4.keep (fun k _ _ => hk k (by omega) (by omega)), h5.keep (fun k _ => hk k (by omega) (by omega)), h6.keep (fun k _ _ => hk k (by omega) (by omega))⟩
theorem CI.keepM {h' : am_H} (hC : CI h P σ u pa kp ke t n sn sF sT sK nz nt) (hk : ∀ k, (k < 87 ∨ 110 < k) → am_at h' k = am_at h k) : CI h' P σ u pa kp ke t n sn sF sT sK nz nt := by
  obtain ⟨h1, h2, h3, h4, ⟨nx, h5⟩, ⟨c, b, e, D, h6, hD⟩, ⟨Φ, h7⟩, ⟨g, h8⟩, h9⟩ := hC
  exact ⟨h1.keep (fun k _ => hk k (by omega)), by rw [hk _ (by omega)]; exact h2, h3.keep (fun k _ _ => hk k (by omega)), h4.keep (fun k _ _ => hk k (by omega)), ⟨nx, h5.keep (fun k _ _ => hk k (by omega))⟩, ⟨c, b, e, D, h6.keep (fun k _ => hk k (by omega)), hD⟩, ⟨Φ, h7.keep (fun k _ _ => hk k (by omega))⟩, ⟨g, h8.keep (fun k _ => hk k (by omega))⟩, h9.keep (fun k _ _ => hk k (by omega))⟩
theorem md_fl {u n sn fi be rF rP cl dg : Int32} (h87 : am_at h 87 = some (md0 u n sn fi be rF rP cl dg)) : am_fld (am_at h 87) 8 0 = some (.ref 88) ∧ am_fld (am_at h 87) 8 1 = some (.int u) ∧ am_fld (am_at h 87) 8 2 = some (.ref 89) ∧ am_fld (am_at h 87) 8 3 = some (.ref 90) ∧ am_fld (am_at h 87) 8 4 = some (.int n) ∧ am_fld (am_at h 87) 8 5 = some (.int sn) ∧ am_fld (am_at h 87) 8 6 = some (.ref 91) ∧ am_fld (am_at h 87) 8 7 = some (.ref 92) ∧ am_fld (am_at h 87) 8 8 = some (.ref 93) ∧ am_fld (am_at h 87) 8 9 = some (.ref 94) ∧ am_fld (am_at h 87) 8 10 = some (.ref 95) ∧ am_fld (am_at h 87) 8 11 = some (.ref 96) ∧ am_is (am_at h 87) 8 = true := by
  rw [h87]; exact ⟨rfl, rfl, rfl, rfl, rfl, rfl, rfl, rfl, rfl, rfl, rfl, rfl, rfl⟩
theorem md_fl2 {u n sn fi be rF rP cl dg : Int32} (h87 : am_at h 87 = some (md0 u n sn fi be rF rP cl dg)) : am_fld (am_at h 87) 8 12 = some (.int fi) ∧ am_fld (am_at h 87) 8 13 = some (.int be) ∧ am_fld (am_at h 87) 8 14 = some (.int rF) ∧ am_fld (am_at h 87) 8 15 = some (.int rP) ∧ am_fld (am_at h 87) 8 16 = some (.int cl) ∧ am_fld (am_at h 87) 8 17 = some (.int dg) ∧ am_fld (am_at h 87) 8 18 = some (.ref 97) ∧ am_fld (am_at h 87) 8 27 = some (.ref 106) ∧ am_fld (am_at h 87) 8 28 = some (.ref 107) ∧ am_fld (am_at h 87) 8 29 = some (.ref 108) ∧ am_fld (am_at h 87) 8 30 = some (.ref 109) ∧ am_fld (am_at h 87) 8 31 = some (.ref 110) := by
  rw [h87]; exact ⟨rfl, rfl, rfl, rfl, rfl, rfl, rfl, rfl, rfl, rfl, rfl, rfl⟩
theorem MI.mb (hM : MI h P σ u pa kp ke t n sn sF sT sK nz nt) {f : Nat → Int32} (h88 : am_at h 88 = some (AI 392 f)) : MB h f (fun i => i) := by
  obtain ⟨fi, be, rF, rP, cl, dg, h1⟩ := hM.1
  obtain ⟨k0, -, -, -, -, -, -, -, -, -, -, -, k12⟩ := md_fl h1
  obtain ⟨-, -, -, -, -, -, -, k7, -⟩ := md_fl2 h1
  exact ⟨k0, k7, k12, h88, hM.2.2.2.2.2.2.2.1⟩
/-- only the row was written -/
theorem MI.row (hM : MI h P σ u pa kp ke t n sn sF sT sK nz nt) {f' : Nat → Int32} {σ' : Hn} (hR : MRow f' P σ' u pa kp ke) : MI (am_set h 88 (AI 392 f')) P σ' u pa kp ke t n sn sF sT sK nz nt := by
  obtain ⟨⟨fi, be, rF, rP, cl, dg, h1⟩, ⟨f, h2, h2'⟩, h3, h4, h5, h6⟩ := hM
  exact ⟨⟨fi, be, rF, rP, cl, dg, by rw [at_set_ne (by decide)]; exact h1⟩, ⟨f', at_set_eq, hR⟩, by rw [at_set_ne (by decide)]; exact h3, h4.keep (fun k _ _ => at_set_ne (by omega)), h5.keep (fun k _ => at_set_ne (by omega)), h6.keep (fun k _ _ => at_set_ne (by omega))⟩
theorem RowH.rs {f f' : Nat → Int32} {b c : Nat} {σ : Hn} (hR : RowH f c σ) (hr : RS f f' b) (hbc : c + 26 ≤ b ∨ b + 26 ≤ c) : RowH f' c σ := by
  refine ⟨fun p hp => ?_, by rw [hr _ (by omega)]; exact hR.2.1, by rw [hr _ (by omega)]; exact hR.2.2⟩
  obtain ⟨a1, a2, a3⟩ := hR.1 p hp
  exact ⟨by rw [hr _ (by omega)]; exact a1, by rw [hr _ (by omega)]; exact a2, by rw [hr _ (by omega)]; exact a3⟩
theorem RowP.rs2 {f f' : Nat → Int32} {b c : Nat} {P : Pn} (hP : RowP f c P) (hn : P.2.2.2.1 ≤ 8) (hr : RS f f' b) (hbc : c + 53 ≤ b ∨ b ≤ c) : RowP f' c P := by
  obtain ⟨h1, h2, h3, h4⟩ := hP
  refine ⟨by rw [hr _ (by omega)]; exact h1, by rw [hr _ (by omega)]; exact h2, by rw [hr _ (by omega)]; exact h3, fun p hp => ?_⟩
  obtain ⟨a1, a2, a3⟩ := h4 p hp
  exact ⟨by rw [hr _ (by omega)]; exact a1, by rw [hr _ (by omega)]; exact a2, by rw [hr _ (by omega)]; exact a3⟩
/-- the house itself was changed -/
theorem MRow.now {f f' : Nat → Int32} {σ' : Hn} (hR : MRow f P σ u pa kp ke) (hn : P.2.2.2.1 ≤ 8) (hu : u ≤ 8) (h1 : RowH f' 0 σ') (hr : RS f f' 0) : MRow f' P σ' u pa kp ke := by
  obtain ⟨r1, r2, r3, r4, r5, r6⟩ := hR
  exact ⟨r1.rs hn (Or.inl rfl) hr, h1, r3.rs2 hn hr (by omega), r4.rs hr (by omega), fun i hi => (r5 i hi).rs hr (by omega), fun k hk hq => (r6 k hk hq).rs hr (by omega)⟩
/-- what is tried was changed -/
theorem MRow.tried {f f' : Nat → Int32} (hR : MRow f P σ u pa kp ke) (hn : P.2.2.2.1 ≤ 8) (hu : u ≤ 8) (hr : RS f f' 366) : MRow f' P σ u pa kp ke := by
  obtain ⟨r1, r2, r3, r4, r5, r6⟩ := hR
  exact ⟨r1.rs hn (Or.inr (by omega)) hr, r2.rs hr (by omega), r3.rs2 hn hr (by omega), r4.rs hr (by omega), fun i hi => (r5 i hi).rs hr (by omega), fun k hk hq => (r6 k hk hq).rs hr (by omega)⟩
end MI
