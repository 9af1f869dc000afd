/-! the model: a house in its row -/
def RS (f f' : Nat → Int32) (b : Nat) : Prop := ∀ k, (k < b ∨ b + 26 ≤ k) → f' k = f k
theorem RS.rf {f : Nat → Int32} {b : Nat} : RS f f b := fun _ _ => rfl
theorem RS.tr {f f' f'' : Nat → Int32} {b : Nat} (h1 : RS f f' b) (h2 : RS f' f'' b) : RS f f'' b := fun k hk => (h2 k hk).trans (h1 k hk)
theorem RowP.rs {f f' : Nat → Int32} {b : Nat} {P : Pn} (hP : RowP f 0 P) (hn : P.2.2.2.1 ≤ 8) (hb : b = 0 ∨ 53 ≤ b) (hr : RS f f' b) : RowP f' 0 P := by
  obtain ⟨h1, h2, h3, h4⟩ := hP
  refine ⟨by rw [hr _ (by omega)]; exact h1, by rw [hr _ (by omega)]; exact h2, by rw [hr _ (by omega)]; exact h3, fun p hp => ?_⟩
  obtain ⟨a1, a2, a3⟩ := h4 p hp
  exact ⟨by rw [hr _ (by omega)]; exact a1, by rw [hr _ (by omega)]; exact a2, by rw [hr _ (by omega)]; exact a3⟩
theorem RowH.put {f : Nat → Int32} {b : Nat} {σ : Hn} (hR : RowH f b σ) {p x : Nat} (hp : p < 8) : RowH (upd (upd (upd f (b + p) (sI x)) (b + 8 + p) (cI x)) (b + 16 + p) (nI 0)) b (putN σ p x) ∧ RS f (upd (upd (upd f (b + p) (sI x)) (b + 8 + p) (cI x)) (b + 16 + p) (nI 0)) b := by
  refine ⟨⟨fun q hq => ?_, ?_, ?_⟩, fun k hk => by rw [pk_un (by omega), pk_un (by omega), pk_un (by omega)]⟩
  · obtain ⟨a1, a2, a3⟩ := hR.1 q hq
    unfold putN updn
    simp only
    by_cases e : q = p
    · subst e
      rw [if_pos rfl, if_pos rfl]
      exact ⟨by rw [pk_un (by omega), pk_un (by omega), pk_us], by rw [pk_un (by omega), pk_us], pk_us⟩
    · rw [if_neg e, if_neg e]
      exact ⟨by rw [pk_un (by omega), pk_un (by omega), pk_un (by omega)]; exact a1, by rw [pk_un (by omega), pk_un (by omega), pk_un (by omega)]; exact a2, by rw [pk_un (by omega), pk_un (by omega), pk_un (by omega)]; exact a3⟩
  · rw [pk_un (by omega), pk_un (by omega), pk_un (by omega)]; exact hR.2.1
  · rw [pk_un (by omega), pk_un (by omega), pk_un (by omega)]; exact hR.2.2
section MO
variable {d : Nat} {h : am_H} {f : Nat → Int32} {L : Nat → Nat} {P : Pn} {σ : Hn} {b : Nat}
theorem m_isPerson (hM : MB h f L) (hP : RowP f 0 P) (hn : P.2.2.2.1 ≤ 8) (x : Int32) : am_cal (d + 2) 148 [.ref 87, .int x] h = some (some (.int (if 0 ≤ x.toInt ∧ x.toInt < P.2.2.2.1 then 1 else 0)), h) := by
  obtain ⟨m0, m1, m2, m3, m4⟩ := hM
  have h28 := hP.2.2.1
  rw [Nat.zero_add] at h28
  have e28 : (28 : Int32) = nI 28 := by decide +kernel
  have e1 : (nI P.2.2.2.1 - 1).toInt = (P.2.2.2.1 : Int) - 1 := by rw [show (1 : Int32) = nI 1 by decide +kernel, i_sub (by omega) (by omega)]; rfl
  refine (b_148 _ _ _).trans ?_; show am_ev _ 148 0 [some (.ref 87), some (.int x)] [] _ = _
  simp only [e_148_0, e_148_1, e_148_2, e_148_3, e_148_4, e_148_7, e_148_9, e_148_10, e_148_11, e_148_12, e_148_13, lg_n, lg_i, lg_r, wd_nil, am_wd_i, am_wd_r, am_wd_l, am_gk_s, am_fld_s, List.getElem?_cons_zero, List.getElem?_cons_succ, am_bk_v, am_bk_n, bo_0, bo_1, am_pk_s, List.length_cons, List.length_nil, Nat.zero_add, List.set_cons_zero, List.set_cons_succ, Nat.reduceAdd, Nat.reduceLeDiff, Nat.reduceLT, m0, m3, e28, ak_AI (show 28 < 392 by decide) (show 392 < 2 ^ 31 by decide), h28, m_in, l_in32, e1, show (0 : Int64).toInt = 0 from rfl]
  by_cases hc : 0 ≤ x.toInt ∧ x.toInt ≤ (P.2.2.2.1 : Int) - 1
  · rw [if_pos hc, if_pos (show 0 ≤ x.toInt ∧ x.toInt < P.2.2.2.1 by omega)]
    exact e_148_16 bo_1
  · rw [if_neg hc, if_neg (show ¬ (0 ≤ x.toInt ∧ x.toInt < P.2.2.2.1) by omega)]
    exact e_148_16 bo_0
theorem m_placeOfM (hM : MB h f L) (hP : RowP f 0 P) (hR : RowH f b σ) (hb : b ≤ 366) (hf : 1 ≤ P.1 ∧ P.1 < 2 ^ 20) (hs : σ.1 < 2 ^ 28) {c : Nat} (hc : c < 2 ^ 28) : am_cal (d + 2) 150 [.ref 87, .int (nI b), .int (nI c)] h = some (some (.int (nI (plc P.1 σ.1 c))), h) := by
  have hpl := m_places (d := d) hM hP
  obtain ⟨m0, m1, m2, m3, m4⟩ := hM
  have e25 : (25 : Int32) = nI 25 := by decide +kernel
  have h25 := hR.2.2
  refine (b_150 _ _ _).trans ?_; show am_ev _ 150 0 [some (.ref 87), some (.int (nI b)), some (.int (nI c))] [] _ = _
  simp only [e_150_0, e_150_1, e_150_2, e_150_5, e_150_6, e_150_8, e_150_9, e_150_10, e_150_11, e_150_12, e_150_15, e_150_16, lg_n, lg_i, lg_r, wd_nil, am_wd_i, am_wd_r, am_wd_l, am_gk_s, am_fld_s, List.getElem?_cons_zero, List.getElem?_cons_succ, am_bk_v, am_bk_n, bo_0, bo_1, am_pk_s, List.length_cons, List.length_nil, Nat.zero_add, List.set_cons_zero, List.set_cons_succ, Nat.reduceAdd, Nat.reduceLeDiff, Nat.reduceLT, m0, m2, m3, e25, nI_add, ak_AI (show b + 25 < 392 by omega) (show 392 < 2 ^ 31 by decide), h25, hpl, if_neg (nI_ne0 (show 0 < 2 * P.1 by omega) (show 2 * P.1 < 2 ^ 31 by omega)), pk_rem (show c + σ.1 < 2 ^ 31 by omega) (show 0 < 2 * P.1 by omega) (show 2 * P.1 < 2 ^ 31 by omega)]
  rfl
theorem m_floorOfM (hM : MB h f L) (hP : RowP f 0 P) (hR : RowH f b σ) (hb : b ≤ 366) (hf : 1 ≤ P.1 ∧ P.1 < 2 ^ 20) (hs : σ.1 < 2 ^ 28) {c : Nat} (hc : c < 2 ^ 28) : am_cal (d + 3) 151 [.ref 87, .int (nI b), .int (nI c)] h = some (some (.int (nI (flr P.1 (plc P.1 σ.1 c)))), h) := by
  have hpl := m_places (d := d + 1) hM hP
  have hpo := m_placeOfM (d := d) hM hP hR hb hf hs hc
  obtain ⟨m0, m1, m2, m3, m4⟩ := hM
  have e26 : (26 : Int32) = nI 26 := by decide +kernel
  have h26 := hP.1
  rw [Nat.zero_add] at h26
  have hlt : plc P.1 σ.1 c < 2 * P.1 := Nat.mod_lt _ (by omega)
  generalize plc P.1 σ.1 c = p at *
  refine (b_151 _ _ _).trans ?_; show am_ev _ 151 0 [some (.ref 87), some (.int (nI b)), some (.int (nI c)), none] [] _ = _
  simp only [e_151_0, e_151_1, e_151_2, e_151_3, e_151_6, e_151_7, e_151_8, e_151_9, e_151_12, e_151_14, e_151_15, e_151_18, e_151_19, e_151_22, e_151_23, e_151_26, e_151_27, e_151_28, e_151_29, e_151_30, lg_n, lg_i, lg_r, wd_nil, am_wd_i, am_wd_r, am_wd_l, am_gk_s, am_fld_s, List.getElem?_cons_zero, List.getElem?_cons_succ, am_bk_v, am_bk_n, bo_0, bo_1, am_pk_s, List.length_cons, List.length_nil, Nat.zero_add, List.set_cons_zero, List.set_cons_succ, Nat.reduceAdd, Nat.reduceLeDiff, Nat.reduceLT, m0, m2, m3, hpo, e26, ak_AI (show 26 < 392 by decide) (show 392 < 2 ^ 31 by decide), h26, hpl, nI_leI (show P.1 < 2 ^ 31 by omega) (show p < 2 ^ 31 by omega)]
  unfold flr
  by_cases hcf : p < P.1
  · rw [if_neg (show ¬ P.1 ≤ p by omega), if_pos hcf]
  · rw [if_pos (show P.1 ≤ p by omega), if_neg hcf, show (1 : Int32) = nI 1 by decide +kernel, pk_sub (by omega), pk_sub (by omega)]
theorem m_cabinAtM (hM : MB h f L) (hP : RowP f 0 P) (hR : RowH f b σ) (hb : b ≤ 366) (hf : 1 ≤ P.1 ∧ P.1 < 2 ^ 20) (hs : σ.1 < 2 ^ 28) {r : Nat} (hr : r < P.1) (up : Bool) : am_cal (d + 2) 152 [.ref 87, .int (nI b), .int (nI r), .int (if up then 1 else 0)] h = some (some (.int (nI (cabA P.1 σ.1 (if up then r else 2 * P.1 - 1 - r)))), h) := by
  have hpl := m_places (d := d) hM hP
  obtain ⟨m0, m1, m2, m3, m4⟩ := hM
  have e25 : (25 : Int32) = nI 25 := by decide +kernel
  have h25 := hR.2.2
  have hsub : nI (2 * P.1) - 1 - nI r = nI (2 * P.1 - 1 - r) := by rw [show (1 : Int32) = nI 1 by decide +kernel, pk_sub (by omega), pk_sub (by omega)]
  refine (b_152 _ _ _).trans ?_; show am_ev _ 152 0 [some (.ref 87), some (.int (nI b)), some (.int (nI r)), some (.int (if up then 1 else 0)), none] [] _ = _
  cases up with
  | true =>
    simp only [e_152_0, e_152_1, e_152_4, e_152_5, e_152_8, e_152_9, e_152_12, e_152_13, e_152_14, e_152_15, e_152_16, e_152_18, e_152_20, e_152_21, e_152_24, e_152_25, e_152_27, e_152_28, e_152_29, e_152_30, e_152_31, e_152_34, e_152_35, e_152_36, e_152_39, e_152_40, e_152_41, e_152_44, e_152_45, lg_n, lg_i, lg_r, wd_nil, am_wd_i, am_wd_r, am_wd_l, am_gk_s, am_fld_s, List.getElem?_cons_zero, List.getElem?_cons_succ, am_bk_v, am_bk_n, bo_0, bo_1, am_pk_s, List.length_cons, List.length_nil, Nat.zero_add, List.set_cons_zero, List.set_cons_succ, Nat.reduceAdd, Nat.reduceLeDiff, Nat.reduceLT, if_true, one_ne, if_false, m0, m2, m3, e25, nI_add, ak_AI (show b + 25 < 392 by omega) (show 392 < 2 ^ 31 by decide), h25, hpl, if_neg (nI_ne0 (show 0 < 2 * P.1 by omega) (show 2 * P.1 < 2 ^ 31 by omega)), jmod (show r < 2 ^ 29 by omega) (show σ.1 < 2 ^ 29 by omega) (show 0 < 2 * P.1 ∧ 2 * P.1 < 2 ^ 29 by omega)]
    rfl
  | false =>
    simp only [e_152_0, e_152_1, e_152_4, e_152_5, e_152_8, e_152_9, e_152_12, e_152_13, e_152_14, e_152_15, e_152_16, e_152_18, e_152_20, e_152_21, e_152_24, e_152_25, e_152_27, e_152_28, e_152_29, e_152_30, e_152_31, e_152_34, e_152_35, e_152_36, e_152_39, e_152_40, e_152_41, e_152_44, e_152_45, lg_n, lg_i, lg_r, wd_nil, am_wd_i, am_wd_r, am_wd_l, am_gk_s, am_fld_s, List.getElem?_cons_zero, List.getElem?_cons_succ, am_bk_v, am_bk_n, bo_0, bo_1, am_pk_s, List.length_cons, List.length_nil, Nat.zero_add, List.set_cons_zero, List.set_cons_succ, Nat.reduceAdd, Nat.reduceLeDiff, Nat.reduceLT, Bool.false_eq_true, if_true, if_false, m0, m2, m3, e25, nI_add, ak_AI (show b + 25 < 392 by omega) (show 392 < 2 ^ 31 by decide), h25, hpl, hsub, if_neg (nI_ne0 (show 0 < 2 * P.1 by omega) (show 2 * P.1 < 2 ^ 31 by omega)), jmod (show 2 * P.1 - 1 - r < 2 ^ 29 by omega) (show σ.1 < 2 ^ 29 by omega) (show 0 < 2 * P.1 ∧ 2 * P.1 < 2 ^ 29 by omega)]
    rfl
theorem m_takes {k : Nat} (hk : k < 5) : am_cal (d + 1) 153 [.int (nI k)] h = some (some (.int (nI (ktak k))), h) := by
  refine (b_153 _ _ _).trans ?_; show am_ev _ 153 0 [some (.int (nI k))] [] _ = _
  have e2 : (2 : Int32) = nI 2 := by decide +kernel
  have e1 : (1 : Int32) = nI 1 := by decide +kernel
  unfold ktak
  by_cases h2 : k = 2
  · subst h2; simp only [e_153_0, e_153_1, e_153_2, e_153_5, e_153_6, e_153_9, e_153_10, lg_n, lg_i, lg_r, wd_nil, am_wd_i, am_wd_r, am_wd_l, am_gk_s, am_fld_s, List.getElem?_cons_zero, List.getElem?_cons_succ, am_bk_v, am_bk_n, bo_0, bo_1, am_pk_s, List.length_cons, List.length_nil, Nat.zero_add, List.set_cons_zero, List.set_cons_succ, Nat.reduceAdd, Nat.reduceLeDiff, Nat.reduceLT, e2, eq_self, if_true]
  · have : ¬ nI k = 2 := by rw [e2, nI_eq (by omega) (by decide)]; exact h2
    simp only [e_153_0, e_153_1, e_153_2, e_153_5, e_153_6, e_153_9, e_153_10, lg_n, lg_i, lg_r, wd_nil, am_wd_i, am_wd_r, am_wd_l, am_gk_s, am_fld_s, List.getElem?_cons_zero, List.getElem?_cons_succ, am_bk_v, am_bk_n, bo_0, bo_1, am_pk_s, List.length_cons, List.length_nil, Nat.zero_add, List.set_cons_zero, List.set_cons_succ, Nat.reduceAdd, Nat.reduceLeDiff, Nat.reduceLT, this, h2, if_false, e1]
theorem l_ridersM (hM : MB h f L) (hP : RowP f 0 P) (hR : RowH f b σ) (hb : b ≤ 366) (oP : OKP P) (oH : OKH P σ) {c : Nat} (hc : c < 2 ^ 28) : ∀ j p, p + j = P.2.2.2.1 → am_ev d 154 5 [some (.ref 87), some (.int (nI b)), some (.int (nI c)), some (.int (nI (bitsN (fun q => σ.2.2.1 q == c + 2) p))), some (.int (nI p))] [] h = some (some (.int (nI (bitsN (fun q => σ.2.2.1 q == c + 2) P.2.2.2.1))), h) := by
  obtain ⟨m0, m1, m2, m3, m4⟩ := hM
  have h28 := hP.2.2.1
  rw [Nat.zero_add] at h28
  have e28 : (28 : Int32) = nI 28 := by decide +kernel
  have e8 : (8 : Int32) = nI 8 := by decide +kernel
  have hn := oP.2.2.2.1
  intro j
  induction j with
  | zero =>
    intro p hp
    have : p = P.2.2.2.1 := by omega
    subst this
    rw [e_154_5]
    simp only [e_154_7, e_154_8, e_154_11, e_154_13, e_154_14, e_154_65, e_154_66, lg_n, lg_i, lg_r, wd_nil, am_wd_i, am_wd_r, am_wd_l, am_gk_s, am_fld_s, List.getElem?_cons_zero, List.getElem?_cons_succ, am_bk_v, am_bk_n, bo_0, bo_1, am_pk_s, List.length_cons, List.length_nil, Nat.zero_add, List.set_cons_zero, List.set_cons_succ, Nat.reduceAdd, Nat.reduceLeDiff, Nat.reduceLT, m0, m3, e28, ak_AI (show 28 < 392 by decide) (show 392 < 2 ^ 31 by decide), h28, nI_leI (show P.2.2.2.1 < 2 ^ 31 by omega) (show P.2.2.2.1 < 2 ^ 31 by omega), Nat.le_refl, if_true]
  | succ j ih =>
    intro p hp
    have hx := oH.2 p (by omega)
    obtain ⟨a1, a2, a3⟩ := hR.1 p (by omega)
    have this := ih (p + 1) (by omega)
    rw [bitsN] at this
    rw [← this]
    have hi := sc_iff hx.1 hc
    rw [e_154_5]
    simp only [e_154_7, e_154_8, e_154_11, e_154_13, e_154_14, e_154_17, e_154_18, e_154_19, e_154_22, e_154_23, e_154_24, e_154_25, e_154_27, e_154_28, e_154_29, e_154_30, e_154_33, e_154_34, e_154_37, e_154_38, e_154_40, e_154_41, e_154_43, e_154_44, e_154_45, e_154_46, e_154_49, e_154_50, e_154_52, e_154_53, e_154_56, e_154_57, e_154_58, e_154_59, e_154_62, lg_n, lg_i, lg_r, wd_nil, am_wd_i, am_wd_r, am_wd_l, am_gk_s, am_fld_s, List.getElem?_cons_zero, List.getElem?_cons_succ, am_bk_v, am_bk_n, bo_0, bo_1, am_pk_s, List.length_cons, List.length_nil, Nat.zero_add, List.set_cons_zero, List.set_cons_succ, Nat.reduceAdd, Nat.reduceLeDiff, Nat.reduceLT, m0, m3, e28, e8, Int32.add_zero, nI_add, ak_AI (show 28 < 392 by decide) (show 392 < 2 ^ 31 by decide), ak_AI (show b + p < 392 by omega) (show 392 < 2 ^ 31 by decide), ak_AI (show b + 8 + p < 392 by omega) (show 392 < 2 ^ 31 by decide), h28, a1, a2, nI_leI (show P.2.2.2.1 < 2 ^ 31 by omega) (show p < 2 ^ 31 by omega), if_neg (show ¬ P.2.2.2.1 ≤ p by omega), sh1 p (by omega), Int32.or_zero, fa_or, nI_1]
    by_cases h1 : sI (σ.2.2.1 p) = 1
    · by_cases h2 : cI (σ.2.2.1 p) = nI c
      · have h3 := hi.1 ⟨h1, h2⟩
        rw [if_pos h1, if_pos h2]; simp [h3]
      · have h3 : ¬ σ.2.2.1 p = c + 2 := fun e => h2 (hi.2 e).2
        simp [h1, h2, h3]
    · have h3 : ¬ σ.2.2.1 p = c + 2 := fun e => h1 (hi.2 e).1
      simp [h1, h3]
theorem m_ridersM (hM : MB h f L) (hP : RowP f 0 P) (hR : RowH f b σ) (hb : b ≤ 366) (oP : OKP P) (oH : OKH P σ) {c : Nat} (hc : c < 2 ^ 28) : am_cal (d + 1) 154 [.ref 87, .int (nI b), .int (nI c)] h = some (some (.int (nI (bitsN (fun q => σ.2.2.1 q == c + 2) P.2.2.2.1))), h) := by
  refine (b_154 _ _ _).trans ?_; show am_ev _ 154 0 [some (.ref 87), some (.int (nI b)), some (.int (nI c)), none, none] [] _ = _
  simp only [e_154_0, e_154_1, e_154_2, e_154_3, lg_n, lg_i, lg_r, wd_nil, am_wd_i, am_wd_r, am_wd_l, am_gk_s, am_fld_s, List.getElem?_cons_zero, List.getElem?_cons_succ, am_bk_v, am_bk_n, bo_0, bo_1, am_pk_s, List.length_cons, List.length_nil, Nat.zero_add, List.set_cons_zero, List.set_cons_succ, Nat.reduceAdd, Nat.reduceLeDiff, Nat.reduceLT]
  exact l_ridersM hM hP hR hb oP oH hc P.2.2.2.1 0 (by omega)
theorem l_roomM (hM : MB h f L) (hP : RowP f 0 P) (hR : RowH f b σ) (hb : b ≤ 366) (oP : OKP P) (oH : OKH P σ) {c : Nat} (hc : c < 2 ^ 28) : ∀ j p, p + j = P.2.2.2.1 → am_ev (d + 1) 155 11 [some (.ref 87), some (.int (nI b)), some (.int (nI c)), some (.int (nI P.2.1 - nI (usedN P.2.2.2.2.1 σ.2.2.1 c p))), some (.int (nI p))] [] h = some (some (.int (nI P.2.1 - nI (usedN P.2.2.2.2.1 σ.2.2.1 c P.2.2.2.1))), h) := by
  obtain ⟨m0, m1, m2, m3, m4⟩ := hM
  have h28 := hP.2.2.1
  rw [Nat.zero_add] at h28
  have e28 : (28 : Int32) = nI 28 := by decide +kernel
  have e29 : (29 : Int32) = nI 29 := by decide +kernel
  have e8 : (8 : Int32) = nI 8 := by decide +kernel
  have hn := oP.2.2.2.1
  intro j
  induction j with
  | zero =>
    intro p hp
    have : p = P.2.2.2.1 := by omega
    subst this
    rw [e_155_11]
    simp only [e_155_13, e_155_14, e_155_17, e_155_19, e_155_20, e_155_80, e_155_81, lg_n, lg_i, lg_r, wd_nil, am_wd_i, am_wd_r, am_wd_l, am_gk_s, am_fld_s, List.getElem?_cons_zero, List.getElem?_cons_succ, am_bk_v, am_bk_n, bo_0, bo_1, am_pk_s, List.length_cons, List.length_nil, Nat.zero_add, List.set_cons_zero, List.set_cons_succ, Nat.reduceAdd, Nat.reduceLeDiff, Nat.reduceLT, m0, m3, e28, ak_AI (show 28 < 392 by decide) (show 392 < 2 ^ 31 by decide), h28, nI_leI (show P.2.2.2.1 < 2 ^ 31 by omega) (show P.2.2.2.1 < 2 ^ 31 by omega), Nat.le_refl, if_true]
  | succ j ih =>
    intro p hp
    have hx := oH.2 p (by omega)
    obtain ⟨a1, a2, a3⟩ := hR.1 p (by omega)
    obtain ⟨c1, c2, c3⟩ := hP.2.2.2 p (by omega)
    rw [Nat.zero_add] at c1
    have hk := oP.2.2.2.2.1 p (by omega)
    have this := ih (p + 1) (by omega)
    rw [usedN] at this
    rw [← this]
    have hi := sc_iff hx.1 hc
    have sz : ∀ x : Int32, x - 0 = x := fun x => by apply Int32.toBitVec_inj.1; simp
    rw [e_155_11]
    simp only [e_155_13, e_155_14, e_155_17, e_155_19, e_155_20, e_155_23, e_155_24, e_155_25, e_155_28, e_155_29, e_155_30, e_155_31, e_155_33, e_155_34, e_155_35, e_155_36, e_155_39, e_155_40, e_155_43, e_155_44, e_155_46, e_155_47, e_155_49, e_155_50, e_155_51, e_155_52, e_155_55, e_155_56, e_155_59, e_155_61, e_155_63, e_155_64, e_155_65, e_155_68, e_155_71, e_155_72, e_155_73, e_155_74, e_155_77, lg_n, lg_i, lg_r, wd_nil, am_wd_i, am_wd_r, am_wd_l, am_gk_s, am_fld_s, List.getElem?_cons_zero, List.getElem?_cons_succ, am_bk_v, am_bk_n, bo_0, bo_1, am_pk_s, List.length_cons, List.length_nil, Nat.zero_add, List.set_cons_zero, List.set_cons_succ, Nat.reduceAdd, Nat.reduceLeDiff, Nat.reduceLT, m0, m3, e28, e29, e8, Int32.add_zero, nI_add, ak_AI (show 28 < 392 by decide) (show 392 < 2 ^ 31 by decide), ak_AI (show b + p < 392 by omega) (show 392 < 2 ^ 31 by decide), ak_AI (show b + 8 + p < 392 by omega) (show 392 < 2 ^ 31 by decide), ak_AI (show 29 + p < 392 by omega) (show 392 < 2 ^ 31 by decide), h28, a1, a2, c1, m_takes hk, nI_leI (show P.2.2.2.1 < 2 ^ 31 by omega) (show p < 2 ^ 31 by omega), if_neg (show ¬ P.2.2.2.1 ≤ p by omega), sz, sub_sub32, nI_1]
    by_cases h1 : sI (σ.2.2.1 p) = 1
    · by_cases h2 : cI (σ.2.2.1 p) = nI c
      · have h3 := hi.1 ⟨h1, h2⟩
        rw [if_pos h1, if_pos h2]; simp [h3, nI_add]
      · have h3 : ¬ σ.2.2.1 p = c + 2 := fun e => h2 (hi.2 e).2
        simp [h1, h2, h3]
    · have h3 : ¬ σ.2.2.1 p = c + 2 := fun e => h1 (hi.2 e).1
      simp [h1, h3]
theorem m_roomM (hM : MB h f L) (hP : RowP f 0 P) (hR : RowH f b σ) (hb : b ≤ 366) (oP : OKP P) (oH : OKH P σ) {c : Nat} (hc : c < 2 ^ 28) : am_cal (d + 2) 155 [.ref 87, .int (nI b), .int (nI c)] h = some (some (.int (nI P.2.1 - nI (usedN P.2.2.2.2.1 σ.2.2.1 c P.2.2.2.1))), h) := by
  have hl := l_roomM (d := d) hM hP hR hb oP oH hc P.2.2.2.1 0 (by omega)
  rw [usedN, nI_0, show nI P.2.1 - 0 = nI P.2.1 by apply Int32.toBitVec_inj.1; simp] at hl
  obtain ⟨m0, m1, m2, m3, m4⟩ := hM
  have h27 := hP.2.1
  rw [Nat.zero_add] at h27
  have e27 : (27 : Int32) = nI 27 := by decide +kernel
  refine (b_155 _ _ _).trans ?_; show am_ev _ 155 0 [some (.ref 87), some (.int (nI b)), some (.int (nI c)), none, none] [] _ = _
  simp only [e_155_0, e_155_1, e_155_4, e_155_6, e_155_7, e_155_8, e_155_9, lg_n, lg_i, lg_r, wd_nil, am_wd_i, am_wd_r, am_wd_l, am_gk_s, am_fld_s, List.getElem?_cons_zero, List.getElem?_cons_succ, am_bk_v, am_bk_n, bo_0, bo_1, am_pk_s, List.length_cons, List.length_nil, Nat.zero_add, List.set_cons_zero, List.set_cons_succ, Nat.reduceAdd, Nat.reduceLeDiff, Nat.reduceLT, m0, m3, e27, ak_AI (show 27 < 392 by decide) (show 392 < 2 ^ 31 by decide), h27]
  exact hl
theorem m_fitsM (hM : MB h f L) (hP : RowP f 0 P) (hR : RowH f b σ) (hb : b ≤ 366) (oP : OKP P) (oH : OKH P σ) (hS : σ.2.1 < 2 ^ 31) {p c : Nat} (hp : p < P.2.2.2.1) (hc : c < 31) : am_cal (d + 3) 157 [.ref 87, .int (nI b), .int (nI p), .int (nI c)] h = some (some (.int (if fitsN P σ (P.2.2.2.2.1 p) c then 1 else 0)), h) := by
  have hro := m_roomM (d := d) hM hP hR hb oP oH (show c < 2 ^ 28 by omega)
  have hri := m_ridersM (d := d + 1) hM hP hR hb oP oH (show c < 2 ^ 28 by omega)
  obtain ⟨m0, m1, m2, m3, m4⟩ := hM
  obtain ⟨c1, c2, c3⟩ := hP.2.2.2 p hp
  rw [Nat.zero_add] at c1
  have hn := oP.2.2.2.1
  have hk := oP.2.2.2.2.1 p (by omega)
  have e29 : (29 : Int32) = nI 29 := by decide +kernel
  have e24 : (24 : Int32) = nI 24 := by decide +kernel
  have hu := usedN_le P.2.2.2.2.1 σ.2.2.1 c P.2.2.2.1
  have ht : ktak (P.2.2.2.2.1 p) ≤ 2 := by unfold ktak; split <;> omega
  have hbl := bitsN_lt (fun q => σ.2.2.1 q == c + 2) P.2.2.2.1
  have hb2 : 2 ^ P.2.2.2.1 ≤ 2 ^ 8 := Nat.pow_le_pow_right (by decide) hn
  have hP2 := oP.2.2.1
  have hk1 : nI (P.2.2.2.2.1 p) = 1 ↔ P.2.2.2.2.1 p = 1 := by rw [show (1 : Int32) = nI 1 by decide +kernel, nI_eq (by omega) (by decide)]
  refine (b_157 _ _ _).trans ?_; show am_ev _ 157 0 [some (.ref 87), some (.int (nI b)), some (.int (nI p)), some (.int (nI c)), none] [] _ = _
  simp only [e_157_0, e_157_1, e_157_4, e_157_6, e_157_7, e_157_8, e_157_9, e_157_11, e_157_12, e_157_15, e_157_16, e_157_18, e_157_19, e_157_20, e_157_21, e_157_24, e_157_27, e_157_28, e_157_29, e_157_30, e_157_33, e_157_35, e_157_38, e_157_41, e_157_43, e_157_44, e_157_47, e_157_48, e_157_49, e_157_50, e_157_53, e_157_56, e_157_57, e_157_60, e_157_61, lg_n, lg_i, lg_r, wd_nil, am_wd_i, am_wd_r, am_wd_l, am_gk_s, am_fld_s, List.getElem?_cons_zero, List.getElem?_cons_succ, am_bk_v, am_bk_n, bo_0, bo_1, am_pk_s, List.length_cons, List.length_nil, Nat.zero_add, List.set_cons_zero, List.set_cons_succ, Nat.reduceAdd, Nat.reduceLeDiff, Nat.reduceLT, m0, m2, m3, e29, e24, nI_add, ak_AI (show 29 + p < 392 by omega) (show 392 < 2 ^ 31 by decide), ak_AI (show b + 24 < 392 by omega) (show 392 < 2 ^ 31 by decide), c1, hR.2.1, m_has hS hc, hro, hri, m_takes hk, z_if, i_lt, i_sub (show P.2.1 < 2 ^ 30 by omega) (show usedN P.2.2.2.2.1 σ.2.2.1 c P.2.2.2.1 < 2 ^ 30 by omega), nI_toInt (show ktak (P.2.2.2.2.1 p) < 2 ^ 31 by omega), z_nI (show bitsN (fun q => σ.2.2.1 q == c + 2) P.2.2.2.1 < 2 ^ 31 by omega), hk1]
  unfold fitsN
  have e1 : ((P.2.1 : Int) - (usedN P.2.2.2.2.1 σ.2.2.1 c P.2.2.2.1 : Nat) < (ktak (P.2.2.2.2.1 p) : Nat)) ↔ ¬ usedN P.2.2.2.2.1 σ.2.2.1 c P.2.2.2.1 + ktak (P.2.2.2.2.1 p) ≤ P.2.1 := by omega
  simp only [e1]
  by_cases t1 : σ.2.1.testBit c = true
  · simp [t1]
  · by_cases t2 : usedN P.2.2.2.2.1 σ.2.2.1 c P.2.2.2.1 + ktak (P.2.2.2.2.1 p) ≤ P.2.1
    · by_cases t3 : P.2.2.2.2.1 p = 1
      · by_cases t4 : bitsN (fun q => σ.2.2.1 q == c + 2) P.2.2.2.1 = 0 <;> simp [t1, t2, t3, t4] <;> simp [← t3, t2]
      · simp [t1, t2, t3]
    · simp [t1, t2]
theorem m_looksUp {k : Nat} (hk : k < 5) (u : Bool) : am_cal (d + 1) 156 [.int (nI k), .int (if u then 1 else 0)] h = some (some (.int (if (decide (k = 3) || u) then 1 else 0)), h) := by
  have e3 : nI k = 3 ↔ k = 3 := by rw [show (3 : Int32) = nI 3 by decide +kernel, nI_eq (by omega) (by decide)]
  refine (b_156 _ _ _).trans ?_; show am_ev _ 156 0 [some (.int (nI k)), some (.int (if u then 1 else 0))] [] _ = _
  simp only [e_156_0, e_156_1, e_156_2, e_156_5, e_156_6, e_156_9, e_156_10, e_156_13, e_156_14, lg_n, lg_i, lg_r, wd_nil, am_wd_i, am_wd_r, am_wd_l, am_gk_s, am_fld_s, List.getElem?_cons_zero, List.getElem?_cons_succ, am_bk_v, am_bk_n, bo_0, bo_1, am_pk_s, List.length_cons, List.length_nil, Nat.zero_add, List.set_cons_zero, List.set_cons_succ, Nat.reduceAdd, Nat.reduceLeDiff, Nat.reduceLT, e3]
  by_cases h3 : k = 3
  · cases u <;> simp [h3]
  · cases u <;> simp [h3]
theorem m_looksM (hM : MB h f L) (hP : RowP f 0 P) (hR : RowH f b σ) (hb : b ≤ 366) (oP : OKP P) (oH : OKH P σ) (hS : σ.2.1 < 2 ^ 31) (hf : P.1 ≤ 15) {p : Nat} (hp : p < P.2.2.2.1) (hx : σ.2.2.1 p = 0) : ∃ f', am_cal (d + 4) 158 [.ref 87, .int (nI b), .int (nI p)] h = some (none, am_set h 88 (AI 392 f')) ∧ RowH f' b (lookN1 P σ p) ∧ RS f f' b := by
  have hn := oP.2.2.2.1
  have hp8 : p < 8 := by omega
  have hk := oP.2.2.2.2.1 p hp8
  obtain ⟨hfr, hto⟩ := oP.2.2.2.2.2 p hp
  have hPf : 1 ≤ P.1 ∧ P.1 < 2 ^ 20 := ⟨oP.1, oP.2.1⟩
  obtain ⟨c1, c2, c3⟩ := hP.2.2.2 p hp
  rw [Nat.zero_add] at c1 c2 c3
  have e29 : (29 : Int32) = nI 29 := by decide +kernel
  have e37 : (37 : Int32) = nI 37 := by decide +kernel
  have e45 : (45 : Int32) = nI 45 := by decide +kernel
  have e8 : (8 : Int32) = nI 8 := by decide +kernel
  have e16 : (16 : Int32) = nI 16 := by decide +kernel
  have hca := fun up => m_cabinAtM (d := d + 1) hM hP hR hb hPf oH.1 hfr up
  have hcl : ∀ q, cabA P.1 σ.1 q < 31 := fun q => by have := cabA_lt (f := P.1) (s := σ.1) (p := q) oP.1; omega
  have hfi := fun q => m_fitsM (d := d) hM hP hR hb oP oH hS hp (hcl q)
  have hlu := m_looksUp (d := d + 2) (h := h) hk
  have hle := nI_leI (show P.2.2.2.2.2.2 p < 2 ^ 31 by omega) (show P.2.2.2.2.2.1 p < 2 ^ 31 by omega)
  obtain ⟨m0, m1, m2, m3, m4⟩ := hM
  obtain ⟨U, hU⟩ : ∃ U : Bool, U = (decide (P.2.2.2.2.1 p = 3) || decide (P.2.2.2.2.2.1 p < P.2.2.2.2.2.2 p)) := ⟨_, rfl⟩
  have go1 : am_cal (d + 4) 158 [.ref 87, .int (nI b), .int (nI p)] h = am_ev (d + 3) 158 57 [some (.ref 87), some (.int (nI b)), some (.int (nI p)), some (.int (nI (P.2.2.2.2.1 p))), some (.int (nI (P.2.2.2.2.2.1 p))), some (.int (if U then 1 else 0)), some (.int (nI (cabA P.1 σ.1 (if U then P.2.2.2.2.2.1 p else 2 * P.1 - 1 - P.2.2.2.2.2.1 p)))), none, none] [] h := by
    refine (b_158 _ _ _).trans ?_; show am_ev _ 158 0 [some (.ref 87), some (.int (nI b)), some (.int (nI p)), none, none, none, none, none, none] [] _ = _
    by_cases hu : P.2.2.2.2.2.2 p ≤ P.2.2.2.2.2.1 p
    · have hl := hlu false
      rw [show (decide (P.2.2.2.2.1 p = 3) || false) = U by rw [hU, decide_eq_false (show ¬ P.2.2.2.2.2.1 p < P.2.2.2.2.2.2 p by omega)]] at hl
      simp only [Bool.false_eq_true, if_false] at hl
      simp only [e_158_0, e_158_1, e_158_4, e_158_6, e_158_7, e_158_8, e_158_9, e_158_10, e_158_11, e_158_14, e_158_16, e_158_17, e_158_18, e_158_19, e_158_21, e_158_22, e_158_23, e_158_26, e_158_28, e_158_29, e_158_30, e_158_31, e_158_33, e_158_36, e_158_37, e_158_40, e_158_41, e_158_44, e_158_46, e_158_47, e_158_48, e_158_50, e_158_52, e_158_55, lg_n, lg_i, lg_r, wd_nil, am_wd_i, am_wd_r, am_wd_l, am_gk_s, am_fld_s, List.getElem?_cons_zero, List.getElem?_cons_succ, am_bk_v, am_bk_n, bo_0, bo_1, am_pk_s, List.length_cons, List.length_nil, Nat.zero_add, List.set_cons_zero, List.set_cons_succ, Nat.reduceAdd, Nat.reduceLeDiff, Nat.reduceLT, m0, m2, m3, e29, e37, e45, nI_add, ak_AI (show 29 + p < 392 by omega) (show 392 < 2 ^ 31 by decide), ak_AI (show 37 + p < 392 by omega) (show 392 < 2 ^ 31 by decide), ak_AI (show 45 + p < 392 by omega) (show 392 < 2 ^ 31 by decide), c1, c2, c3, hle, if_pos hu, hl, hca U]
    · have hl := hlu true
      rw [show (decide (P.2.2.2.2.1 p = 3) || true) = U by rw [hU, decide_eq_true (show P.2.2.2.2.2.1 p < P.2.2.2.2.2.2 p by omega)]] at hl
      simp only [if_true] at hl
      simp only [e_158_0, e_158_1, e_158_4, e_158_6, e_158_7, e_158_8, e_158_9, e_158_10, e_158_11, e_158_14, e_158_16, e_158_17, e_158_18, e_158_19, e_158_21, e_158_22, e_158_23, e_158_26, e_158_28, e_158_29, e_158_30, e_158_31, e_158_33, e_158_36, e_158_37, e_158_40, e_158_41, e_158_44, e_158_46, e_158_47, e_158_48, e_158_50, e_158_52, e_158_55, lg_n, lg_i, lg_r, wd_nil, am_wd_i, am_wd_r, am_wd_l, am_gk_s, am_fld_s, List.getElem?_cons_zero, List.getElem?_cons_succ, am_bk_v, am_bk_n, bo_0, bo_1, am_pk_s, List.length_cons, List.length_nil, Nat.zero_add, List.set_cons_zero, List.set_cons_succ, Nat.reduceAdd, Nat.reduceLeDiff, Nat.reduceLT, m0, m2, m3, e29, e37, e45, nI_add, ak_AI (show 29 + p < 392 by omega) (show 392 < 2 ^ 31 by decide), ak_AI (show 37 + p < 392 by omega) (show 392 < 2 ^ 31 by decide), ak_AI (show 45 + p < 392 by omega) (show 392 < 2 ^ 31 by decide), c1, c2, c3, hle, if_neg hu, hl, hca U]
  have hch : choiceN P σ p = if fitsN P σ (P.2.2.2.2.1 p) (cabA P.1 σ.1 (if U then P.2.2.2.2.2.1 p else 2 * P.1 - 1 - P.2.2.2.2.2.1 p)) = true then cabA P.1 σ.1 (if U then P.2.2.2.2.2.1 p else 2 * P.1 - 1 - P.2.2.2.2.2.1 p) + 1 else if 3 ≤ P.2.2.2.2.1 p ∧ fitsN P σ (P.2.2.2.2.1 p) (cabA P.1 σ.1 (if U then 2 * P.1 - 1 - P.2.2.2.2.2.1 p else P.2.2.2.2.2.1 p)) = true then cabA P.1 σ.1 (if U then 2 * P.1 - 1 - P.2.2.2.2.2.1 p else P.2.2.2.2.2.1 p) + 1 else 0 := by
    unfold choiceN
    rw [if_pos ⟨hp, hx⟩]
    simp only
    have hk34 : (P.2.2.2.2.1 p = 3 ∨ P.2.2.2.2.1 p = 4) ↔ 3 ≤ P.2.2.2.2.1 p := by omega
    by_cases hu : P.2.2.2.2.1 p = 3 ∨ P.2.2.2.2.2.1 p < P.2.2.2.2.2.2 p
    · have : U = true := by rw [hU]; simpa using hu
      subst this
      simp only [if_pos hu, if_true, hk34]
    · have : U = false := by rw [hU]; simpa using hu
      rw [this]
      simp only [if_neg hu, Bool.false_eq_true, if_false, hk34]
  generalize hA : (if U then P.2.2.2.2.2.1 p else 2 * P.1 - 1 - P.2.2.2.2.2.1 p) = A at *
  generalize hB : (if U then 2 * P.1 - 1 - P.2.2.2.2.2.1 p else P.2.2.2.2.2.1 p) = B at *
  have hcB : am_cal (d + 3) 152 [.ref 87, .int (nI b), .int (nI (P.2.2.2.2.2.1 p)), .int (if (!U) then 1 else 0)] h = some (some (.int (nI (cabA P.1 σ.1 B))), h) := by
    have := hca (!U)
    rw [this, ← hB]
    cases U <;> rfl
  have e3 : (3 : Int32) = nI 3 := by decide +kernel
  have hk3 := nI_leI (show 3 < 2 ^ 31 by decide) (show P.2.2.2.2.1 p < 2 ^ 31 by omega)
  obtain ⟨O, hO⟩ : ∃ O, O = if 3 ≤ P.2.2.2.2.1 p then B else A := ⟨_, rfl⟩
  have go2 : am_ev (d + 3) 158 57 [some (.ref 87), some (.int (nI b)), some (.int (nI p)), some (.int (nI (P.2.2.2.2.1 p))), some (.int (nI (P.2.2.2.2.2.1 p))), some (.int (if U then 1 else 0)), some (.int (nI (cabA P.1 σ.1 A))), none, none] [] h = am_ev (d + 3) 158 86 [some (.ref 87), some (.int (nI b)), some (.int (nI p)), some (.int (nI (P.2.2.2.2.1 p))), some (.int (nI (P.2.2.2.2.2.1 p))), some (.int (if U then 1 else 0)), some (.int (nI (cabA P.1 σ.1 A))), some (.int (nI (cabA P.1 σ.1 O))), none] [] h := by
    by_cases hkk : 3 ≤ P.2.2.2.2.1 p
    · rw [if_pos hkk] at hO
      subst hO
      cases U with
      | true =>
        simp only [Bool.not_true, Bool.false_eq_true, if_false] at hcB
        simp only [e_158_57, e_158_58, e_158_59, e_158_62, e_158_64, e_158_67, e_158_68, e_158_69, e_158_71, e_158_73, e_158_76, e_158_77, e_158_80, e_158_81, e_158_84, lg_n, lg_i, lg_r, wd_nil, am_wd_i, am_wd_r, am_wd_l, am_gk_s, am_fld_s, List.getElem?_cons_zero, List.getElem?_cons_succ, am_bk_v, am_bk_n, bo_0, bo_1, am_pk_s, List.length_cons, List.length_nil, Nat.zero_add, List.set_cons_zero, List.set_cons_succ, Nat.reduceAdd, Nat.reduceLeDiff, Nat.reduceLT, e3, hk3, if_pos hkk, if_true, one_ne, if_false, m2, hcB]
      | false =>
        simp only [Bool.not_false, if_true] at hcB
        simp only [e_158_57, e_158_58, e_158_59, e_158_62, e_158_64, e_158_67, e_158_68, e_158_69, e_158_71, e_158_73, e_158_76, e_158_77, e_158_80, e_158_81, e_158_84, lg_n, lg_i, lg_r, wd_nil, am_wd_i, am_wd_r, am_wd_l, am_gk_s, am_fld_s, List.getElem?_cons_zero, List.getElem?_cons_succ, am_bk_v, am_bk_n, bo_0, bo_1, am_pk_s, List.length_cons, List.length_nil, Nat.zero_add, List.set_cons_zero, List.set_cons_succ, Nat.reduceAdd, Nat.reduceLeDiff, Nat.reduceLT, e3, hk3, if_pos hkk, if_true, Bool.false_eq_true, if_false, m2, hcB]
    · rw [if_neg hkk] at hO
      subst hO
      simp only [e_158_57, e_158_58, e_158_59, e_158_62, e_158_64, e_158_67, e_158_68, e_158_69, e_158_71, e_158_73, e_158_76, e_158_77, e_158_80, e_158_81, e_158_84, lg_n, lg_i, lg_r, wd_nil, am_wd_i, am_wd_r, am_wd_l, am_gk_s, am_fld_s, List.getElem?_cons_zero, List.getElem?_cons_succ, am_bk_v, am_bk_n, bo_0, bo_1, am_pk_s, List.length_cons, List.length_nil, Nat.zero_add, List.set_cons_zero, List.set_cons_succ, Nat.reduceAdd, Nat.reduceLeDiff, Nat.reduceLT, e3, hk3, if_neg hkk]
  have hfA := hfi A
  have hfO := hfi O
  have fin : ∀ (C : Nat) (x3 x4 x5 x6 x7 x8 : Option Value), C < 31 → am_lg x7 = false → ∃ f', am_ev (d + 3) 158 119 [some (.ref 87), some (.int (nI b)), some (.int (nI p)), x3, x4, x5, x6, x7, x8] [.int (nI C)] h = some (none, am_set h 88 (AI 392 f')) ∧ RowH f' b (putN σ p (C + 2)) ∧ RS f f' b := by
    intro C x3 x4 x5 x6 x7 x8 hC l7
    obtain ⟨r1, r2⟩ := hR.put (p := p) (x := C + 2) hp8
    refine ⟨_, ?_, r1, r2⟩
    have y0 : ∀ c, am_at (am_set h 88 c) 87 = am_at h 87 := fun c => at_set_ne (by decide)
    have s1 : sI (C + 2) = 1 := (sI_1 _).2 (by omega)
    rw [s1, cI_s, nI_0]
    simp only [e_158_119, e_158_121, e_158_123, e_158_124, e_158_127, e_158_128, e_158_131, e_158_132, e_158_133, e_158_134, e_158_135, e_158_136, e_158_137, e_158_138, e_158_139, e_158_142, e_158_143, e_158_145, e_158_146, e_158_147, e_158_148, e_158_150, e_158_151, e_158_152, e_158_155, e_158_156, e_158_158, e_158_159, e_158_160, e_158_161, e_158_162, e_158_163, lg_n, lg_i, lg_r, wd_nil, am_wd_i, am_wd_r, am_wd_l, am_gk_s, am_fld_s, List.getElem?_cons_zero, List.getElem?_cons_succ, am_bk_v, am_bk_n, bo_0, bo_1, am_pk_s, List.length_cons, List.length_nil, Nat.zero_add, List.set_cons_zero, List.set_cons_succ, Nat.reduceAdd, Nat.reduceLeDiff, Nat.reduceLT, l7, if_neg (nm1 (show C < 2 ^ 31 by omega)), m0, m3, e8, e16, Int32.add_zero, nI_add, sk_AI (show b + p < 392 by omega) (show 392 < 2 ^ 31 by decide), st_AI (show b + p < 392 by omega) (show 392 < 2 ^ 31 by decide), sk_AI (show b + 8 + p < 392 by omega) (show 392 < 2 ^ 31 by decide), st_AI (show b + 8 + p < 392 by omega) (show 392 < 2 ^ 31 by decide), sk_AI (show b + 16 + p < 392 by omega) (show 392 < 2 ^ 31 by decide), st_AI (show b + 16 + p < 392 by omega) (show 392 < 2 ^ 31 by decide), y0, at_set_eq, set_set]
  rw [go1, go2]
  unfold lookN1
  rw [hch]
  by_cases hF1 : fitsN P σ (P.2.2.2.2.1 p) (cabA P.1 σ.1 A) = true
  · rw [if_pos hF1] at hfA ⊢
    rw [if_neg (show ¬ cabA P.1 σ.1 A + 1 = 0 by omega)]
    obtain ⟨f', q1, q2, q3⟩ := fin (cabA P.1 σ.1 A) (some (.int (nI (P.2.2.2.2.1 p)))) (some (.int (nI (P.2.2.2.2.2.1 p)))) (some (.int (if U then 1 else 0))) (some (.int (nI (cabA P.1 σ.1 A)))) (some (.int (nI (cabA P.1 σ.1 O)))) none (hcl A) (lg_i _)
    refine ⟨f', ?_, q2, q3⟩
    simp only [e_158_86, e_158_87, e_158_88, e_158_89, e_158_91, e_158_94, e_158_97, e_158_99, e_158_102, e_158_103, e_158_104, e_158_105, e_158_107, e_158_110, e_158_113, e_158_115, e_158_118, lg_n, lg_i, lg_r, wd_nil, am_wd_i, am_wd_r, am_wd_l, am_gk_s, am_fld_s, List.getElem?_cons_zero, List.getElem?_cons_succ, am_bk_v, am_bk_n, bo_0, bo_1, am_pk_s, List.length_cons, List.length_nil, Nat.zero_add, List.set_cons_zero, List.set_cons_succ, Nat.reduceAdd, Nat.reduceLeDiff, Nat.reduceLT, m2, hfA, one_ne, if_false]
    exact q1
  · rw [if_neg hF1] at hfA ⊢
    by_cases hF2 : 3 ≤ P.2.2.2.2.1 p ∧ fitsN P σ (P.2.2.2.2.1 p) (cabA P.1 σ.1 B) = true
    · rw [if_pos hF2.1] at hO
      subst hO
      rw [if_pos hF2.2] at hfO
      rw [if_pos hF2, if_neg (show ¬ cabA P.1 σ.1 O + 1 = 0 by omega)]
      obtain ⟨f', q1, q2, q3⟩ := fin (cabA P.1 σ.1 O) (some (.int (nI (P.2.2.2.2.1 p)))) (some (.int (nI (P.2.2.2.2.2.1 p)))) (some (.int (if U then 1 else 0))) (some (.int (nI (cabA P.1 σ.1 A)))) (some (.int (nI (cabA P.1 σ.1 O)))) none (hcl O) (lg_i _)
      refine ⟨f', ?_, q2, q3⟩
      simp only [e_158_86, e_158_87, e_158_88, e_158_89, e_158_91, e_158_94, e_158_97, e_158_99, e_158_102, e_158_103, e_158_104, e_158_105, e_158_107, e_158_110, e_158_113, e_158_115, e_158_118, lg_n, lg_i, lg_r, wd_nil, am_wd_i, am_wd_r, am_wd_l, am_gk_s, am_fld_s, List.getElem?_cons_zero, List.getElem?_cons_succ, am_bk_v, am_bk_n, bo_0, bo_1, am_pk_s, List.length_cons, List.length_nil, Nat.zero_add, List.set_cons_zero, List.set_cons_succ, Nat.reduceAdd, Nat.reduceLeDiff, Nat.reduceLT, m2, hfA, hfO, one_ne, if_true, if_false]
      exact q1
    · rw [if_neg hF2, if_pos rfl]
      have hnO : ¬ fitsN P σ (P.2.2.2.2.1 p) (cabA P.1 σ.1 O) = true := by
        by_cases hkk : 3 ≤ P.2.2.2.2.1 p
        · rw [if_pos hkk] at hO; rw [hO]; exact fun z => hF2 ⟨hkk, z⟩
        · rw [if_neg hkk] at hO; rw [hO]; exact hF1
      rw [if_neg hnO] at hfO
      refine ⟨f, ?_, hR, RS.rf⟩
      rw [set_self m3]
      simp only [e_158_86, e_158_87, e_158_88, e_158_89, e_158_91, e_158_94, e_158_97, e_158_99, e_158_102, e_158_103, e_158_104, e_158_105, e_158_107, e_158_110, e_158_113, e_158_115, e_158_118, e_158_119, e_158_121, e_158_123, e_158_124, e_158_163, lg_n, lg_i, lg_r, wd_nil, am_wd_i, am_wd_r, am_wd_l, am_gk_s, am_fld_s, List.getElem?_cons_zero, List.getElem?_cons_succ, am_bk_v, am_bk_n, bo_0, bo_1, am_pk_s, List.length_cons, List.length_nil, Nat.zero_add, List.set_cons_zero, List.set_cons_succ, Nat.reduceAdd, Nat.reduceLeDiff, Nat.reduceLT, m2, hfA, hfO, if_true, eq_self]
end MO
