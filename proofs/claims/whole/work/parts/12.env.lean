theorem am_arrI {s : State} {args : Array Value} {ty : FieldType} (hty : (match ty with | .object _ => False | _ => True)) (h : (Cond.arrayClass ty).before args s = true) : ∃ cA : ClassId, ArrOfT s cA ty ∧ va_RA s cA ty := by
  obtain ⟨cA, kA, comp, h1, h2, h3⟩ := Cond.arrayClass_spec h
  refine ⟨cA, fun n z => ⟨fun k h => (by cases h), kA, h2, comp, h3⟩, ?_⟩
  cases ty <;> first | exact h1 | exact hty.elim
theorem am_arrQ {s : State} {args : Array Value} {C : String} (h : (Cond.arrayOver (.object C)).before args s = true) : ∃ cA : ClassId, ArrOfT s cA (.object C) ∧ va_RA s cA (.object C) := by
  obtain ⟨comp, cA, kA, h1, h2, h3, h4, h5⟩ := Cond.arrayOver_spec h
  exact ⟨cA, fun n z => ⟨fun k h => (by cases h), kA, h3, comp, h4⟩, kA, comp, h3, h4, h1, h5⟩
set_option maxRecDepth 100000 in
theorem am_env {s : State} {args : Array Value} {b L : Nat} {xs : Nat → Int32} (hgv : (Jvm.Cond.and given_1 narrow_1).before args s = true) (hts : ∀ w ∈ lw_tbl, w.before args s = true) (hX : va_X b L xs s s.heap) (hbl : b < s.heap.size) (hL : L < 2 ^ 31) :
    ∃ G : am_G, G.2.1 = s.heap.size ∧ am_fvOk G ∧ (∀ i j : Nat, i < 5 → j < 5 → G.2.2.1 (2 + i) = G.2.2.1 (2 + j) → i = j) ∧ am_en G (am_stc L xs) s s.heap ∧ am_ad G 1000000 = b := by
  have hs : ∀ w ∈ am_fl, w.before args s = true := flat_of_before _ hgv
  have hg : am_hts args s := fun w h _ => hts w h
  have hA : ∀ a : Nat, a < s.heap.size → ¬ (fun q : Nat => s.heap.size ≤ q) a := fun a ha h => Nat.not_le.mpr ha h
  -- classes
  obtain ⟨D1, hD1⟩ : ∃ f : Nat → ClassId × (Nat → Nat), ∀ ci, ci < 9 → u_Kn s (am_cnm ci) (am_T ci) (am_N ci) (f ci).1 (f ci).2 := by
    have h0 : ∀ ci : Nat, ∃ x : ClassId × (Nat → Nat), ci < 9 → u_Kn s (am_cnm ci) (am_T ci) (am_N ci) x.1 x.2 := fun ci => by
      by_cases hci : ci < 9
      · obtain ⟨cC, iS, h⟩ := u_known (n := am_N ci) hg.gd (am_uws hci) (hts _ (am_ins_ok ci hci).1)
        exact ⟨(cC, iS), fun _ => h⟩
      · exact ⟨(0, fun _ => 0), fun h => absurd h hci⟩
    obtain ⟨f, hf⟩ := Classical.axiomOfChoice h0
    exact ⟨f, hf⟩
  -- array classes
  obtain ⟨c0, hc0⟩ := am_arrI (ty := .int) trivial (hg.sys (List.mem_of_getElem? (l := am_sys) (i := 5) rfl))
  obtain ⟨c1, hc1⟩ := am_arrI (ty := .boolean) trivial (hg.sys (List.mem_of_getElem? (l := am_sys) (i := 6) rfl))
  obtain ⟨c2, hc2⟩ := am_arrQ (hts _ (am_q8.2 2 (by omega) (by omega)))
  obtain ⟨c3, hc3⟩ := am_arrQ (hts _ (am_q8.2 3 (by omega) (by omega)))
  obtain ⟨c4, hc4⟩ := am_arrQ (hts _ (am_q8.2 4 (by omega) (by omega)))
  -- RISING
  obtain ⟨tR, hR1, hR2⟩ := va_Tof (tm := am_rt) (ty := .int) (N := 8) (f := fun j => .int (nI j)) (A := fun q : Nat => s.heap.size ≤ q) (by omega) (hs _ am_q6.1) (va_eqt (hs _ am_q6.2.1)) (fun j hj => va_eqt (hs _ (am_q7 j hj))) hA
  -- texts
  obtain ⟨adK, adV, hS1, hS2⟩ := vk_Sof (N := 8) (tm := am_st) (len := am_len) (byt := am_byt) (A := fun q : Nat => s.heap.size ≤ q) (by decide +kernel) (fun i hi => hs _ (am_q3 i hi).1) (fun i hi => hs _ (am_q3 i hi).2.1) (fun i hi => hs _ (am_q3 i hi).2.2.1) (fun i hi => hs _ (am_q3 i hi).2.2.2) (fun i hi j hj => hs _ (am_q4 i hi j hj)) (fun i j hi hj hij => (am_q5 i hi j hj hij).imp (fun h => hs _ h) (fun h => hs _ h)) hA
  -- kinds
  obtain ⟨adE, hE⟩ : ∃ f : Nat → Nat, ∀ i, i < 5 → (am_kt i).eval args s none [] s = some (.ref (f i)) ∧ va_O "PaternosterRide$Kind" (f i) (fun q : Nat => s.heap.size ≤ q) s s.heap := by
    have h0 : ∀ i : Nat, ∃ t : Nat, i < 5 → (am_kt i).eval args s none [] s = some (.ref t) ∧ va_O "PaternosterRide$Kind" t (fun q : Nat => s.heap.size ≤ q) s s.heap := by
      intro i
      by_cases hi : i < 5
      · obtain ⟨a, c, cell, k, q1, q2, q3, q4, q5, q6, -⟩ := Cond.exactly_spec (args := args) (first := s) (o := none) (s := s) (idx := []) (hs _ (am_q1 i hi).1)
        exact ⟨a, fun _ => ⟨q1, cell, q3, q5, by rw [q6]; exact q2, hA a (Array.getElem?_eq_some_iff.mp q3).1⟩⟩
      · exact ⟨0, fun h => absurd h hi⟩
    obtain ⟨f, hf⟩ := Classical.axiomOfChoice h0
    exact ⟨f, hf⟩
  have hEne : ∀ i j : Nat, i < 5 → j < 5 → adE i = adE j → i = j := by
    intro i j hi hj e
    rcases Nat.lt_trichotomy i j with h | h | h
    · exact absurd e (va_neR (hs _ (am_q2 i hi j hj h)) (hE i hi).1 (hE j hj).1)
    · exact h
    · exact absurd e.symm (va_neR (hs _ (am_q2 j hj i hi h)) (hE j hj).1 (hE i hi).1)
  -- what is only carried
  obtain ⟨fv, hfv1, hfv2⟩ : ∃ fv : Value, (fv = .null ∨ ∃ t, fv = .ref t) ∧ va_Z "jdk/internal/util/Preconditions" "SIOOBE_FORMATTER" "Ljava/util/function/BiFunction;" fv (fun q : Nat => s.heap.size ≤ q) s s.heap := by
    have h9 := am_q8.1 _ (List.mem_of_getElem? (l := am_sv) (i := 7) rfl)
    rcases va_Zqof (hts _ h9.1) (hts _ h9.2) (hs _ am_q6.2.2.2) hA with h | ⟨t, h⟩
    · exact ⟨_, Or.inl rfl, h⟩
    · exact ⟨_, Or.inr ⟨t, rfl⟩, h⟩
  let sa : Nat → Nat := fun j => if j = 0 then b else if j = 1 then tR else if j < 7 then adE (j - 2) else if j < 15 then adK (j - 7) else adV (j - 15)
  let tA : Nat → ClassId := fun t => if t = 0 then c0 else if t = 1 then c1 else if t = 2 then c2 else if t = 3 then c3 else c4
  let G : am_G := ((fun ci => (D1 ci).1, fun ci => (D1 ci).2), s.heap.size, sa, fv, tA)
  have saE : ∀ i, i < 5 → sa (2 + i) = adE i := fun i hi => by
    show (if 2 + i = 0 then b else if 2 + i = 1 then tR else if 2 + i < 7 then adE (2 + i - 2) else if 2 + i < 15 then adK (2 + i - 7) else adV (2 + i - 15)) = _
    rw [if_neg (by omega), if_neg (by omega), if_pos (by omega), Nat.add_sub_cancel_left]
  have saK : ∀ i, i < 8 → sa (7 + i) = adK i := fun i hi => by
    show (if 7 + i = 0 then b else if 7 + i = 1 then tR else if 7 + i < 7 then adE (7 + i - 2) else if 7 + i < 15 then adK (7 + i - 7) else adV (7 + i - 15)) = _
    rw [if_neg (by omega), if_neg (by omega), if_neg (by omega), if_pos (by omega), Nat.add_sub_cancel_left]
  have saV : ∀ i, i < 8 → sa (15 + i) = adV i := fun i hi => by
    show (if 15 + i = 0 then b else if 15 + i = 1 then tR else if 15 + i < 7 then adE (15 + i - 2) else if 15 + i < 15 then adK (15 + i - 7) else adV (15 + i - 15)) = _
    rw [if_neg (by omega), if_neg (by omega), if_neg (by omega), if_neg (by omega), Nat.add_sub_cancel_left]
  have had : ∀ j, am_ad G (1000000 + j) = sa j := fun j => by
    unfold am_ad
    rw [if_neg (by omega), Nat.add_sub_cancel_left]
  refine ⟨G, rfl, hfv1, fun i j hi hj e => hEne i j hi hj (by rw [← saE i hi, ← saE j hj]; exact e), ⟨⟨fun cx qx hq => ?_, fun k qx hk => ?_⟩, fun j cx hj => ?_, fun j qx hj => ?_, fun qx hq => ?_, fun qx hq hn => ?_, fun qx hq hn => ?_, fun t ht => ?_⟩, had 0⟩
  · have hlt : cx < 9 := by
      have := (List.getElem?_eq_some_iff.mp hq).1
      simpa [am_cl] using this
    cases (am_cl_at hlt).symm.trans hq
    exact hD1 cx hlt
  · have hlt : k < 5 := (List.getElem?_eq_some_iff.mp hk).1
    rcases (show k = 0 ∨ k = 1 ∨ k = 2 ∨ k = 3 ∨ k = 4 by omega) with rfl | rfl | rfl | rfl | rfl
    · cases hk; exact hc0
    · cases hk; exact hc1
    · cases hk; exact hc2
    · cases hk; exact hc3
    · cases hk; exact hc4
  · unfold am_stc at hj
    split at hj
    · rename_i h0
      subst h0
      cases hj
      obtain ⟨scr, g1, g2, g3, g4, g5⟩ := hX
      refine ⟨⟨scr, g1, g2, g3, by omega, by rw [g4], g5, hA b hbl⟩, Or.inl rfl⟩
    · split at hj
      · rename_i h1
        subst h1
        cases hj
        exact ⟨hR2, Or.inl rfl⟩
      · split at hj
        · rename_i h7
          cases hj
          obtain ⟨i, rfl⟩ : ∃ i, j = 2 + i := ⟨j - 2, by omega⟩
          have hi : i < 5 := by omega
          have e2 : 2 + i - 2 = i := by omega
          obtain ⟨w1, w2, w3, w4, w5⟩ := am_q1 i hi
          have hev := (hE i hi).1
          refine ⟨by show va_O _ (sa (2 + i)) _ _ _; rw [saE i hi]; exact (hE i hi).2, Or.inl rfl, fun k v hk => ?_⟩
          show va_OF _ _ _ _ (sa (2 + i)) _ _ _
          rw [saE i hi]
          rw [e2] at hk
          match k, hk with
          | 0, hk => cases hk; exact vk_OFof hev (va_eqt (hs _ w2)) hA
          | 1, hk =>
            cases hk
            have : am_cv G (.ref (1000007 + i)) = .ref (adK i) := by
              show Value.ref (am_ad G (1000007 + i)) = _
              rw [show 1000007 + i = 1000000 + (7 + i) by omega, had, saK i (by omega)]
            rw [this]
            exact vk_OFof hev (va_eqv (hs _ w3) (hS2 i (by omega))) hA
          | 2, hk => cases hk; exact vk_OFof hev (va_eqt (hs _ w4)) hA
          | 3, hk => cases hk; exact vk_OFof hev (va_eqt (hs _ w5)) hA
        · split at hj
          · rename_i h15
            cases hj
            obtain ⟨i, rfl⟩ : ∃ i, j = 7 + i := ⟨j - 7, by omega⟩
            have hi : i < 8 := by omega
            have e2 : 7 + i - 7 = i := by omega
            obtain ⟨w1, w2, w3, w4⟩ := hS1.1 i hi
            refine ⟨by show va_O _ (sa (7 + i)) _ _ _; rw [saK i hi]; exact w1, Or.inr rfl, fun k v hk => ?_⟩
            show va_OF _ _ _ _ (sa (7 + i)) _ _ _
            rw [saK i hi]
            rw [e2] at hk
            match k, hk with
            | 0, hk =>
              cases hk
              have : am_cv G (.ref (1000015 + i)) = .ref (adV i) := by
                show Value.ref (am_ad G (1000015 + i)) = _
                rw [show 1000015 + i = 1000000 + (15 + i) by omega, had, saV i (by omega)]
              rw [this]
              exact w3
            | 1, hk => cases hk; exact w2
          · split at hj
            · rename_i h23
              cases hj
              obtain ⟨i, rfl⟩ : ∃ i, j = 15 + i := ⟨j - 15, by omega⟩
              have hi : i < 8 := by omega
              have e2 : 15 + i - 15 = i := by omega
              refine ⟨?_, Or.inr rfl⟩
              show va_T _ (sa (15 + i)) (am_len.getD (15 + i - 15) 0) (fun z => .int ((am_byt.getD (15 + i - 15) []).getD z 0)) _ _ _
              rw [saV i hi, e2]
              exact (hS1.1 i hi).2.2.2
            · cases hj
  · have h9 := am_q8.1 _ (List.mem_of_getElem? hj)
    have hlt : j < 8 := (List.getElem?_eq_some_iff.mp hj).1
    have kk : ∀ i, i < 5 → va_Z "PaternosterRide$Kind" (am_kn.getD i "") "LPaternosterRide$Kind;" (am_cv G (.ref (1000002 + i))) (am_A G) s s.heap := fun i hi => by
      have : am_cv G (.ref (1000002 + i)) = .ref (adE i) := by
        show Value.ref (am_ad G (1000002 + i)) = _
        rw [show 1000002 + i = 1000000 + (2 + i) by omega, had, saE i hi]
      rw [this]
      have h10 := am_q8.1 _ (List.mem_of_getElem? (l := am_sv) (i := 1 + i) (a := ("PaternosterRide$Kind", am_kn.getD i "", "LPaternosterRide$Kind;", .ref (1000002 + i))) (by
        match i, hi with
        | 0, _ => rfl
        | 1, _ => rfl
        | 2, _ => rfl
        | 3, _ => rfl
        | 4, _ => rfl))
      exact va_Zref (hts _ h10.1) (hts _ h10.2) (hE i hi).1 hA
    match j, hlt, hj, h9 with
    | 0, _, hj, h9 =>
      cases hj
      have : am_cv G (.ref 1000001) = .ref tR := by
        show Value.ref (am_ad G (1000000 + 1)) = _
        rw [had]
        rfl
      rw [this]
      exact va_Zref (hts _ h9.1) (hts _ h9.2) hR1 hA
    | 1, _, hj, h9 => cases hj; exact kk 0 (by omega)
    | 2, _, hj, h9 => cases hj; exact kk 1 (by omega)
    | 3, _, hj, h9 => cases hj; exact kk 2 (by omega)
    | 4, _, hj, h9 => cases hj; exact kk 3 (by omega)
    | 5, _, hj, h9 => cases hj; exact kk 4 (by omega)
    | 6, _, hj, h9 => cases hj; exact va_Zof (hts _ h9.1) (hts _ h9.2) (va_eqi (hs _ am_q6.2.2.1)) hA
    | 7, _, hj, h9 => cases hj; exact hfv2
  · obtain ⟨i, hi, e1, e2, e3⟩ := am_q10 qx hq
    rw [e1, e2, e3]
    show vk_R _ _ _ (sa (7 + i)) _
    rw [saK i hi]
    exact vk_R.of (hts _ (List.contains_iff_mem.mp (am_q9 i hi))) (hS2 i hi)
  · have h9 := List.all_eq_true.mp am_M_ok qx hq
    unfold am_okM at h9
    split at h9
    · rename_i h99
      exact absurd hn (by
        have : ∀ q ∈ am_pM, q.2.2.1 = 9999 → q.2.2.2.2 = 0 := by decide +kernel
        exact fun z => z (this qx hq h99))
    · split at h9
      · rename_i h98
        exact absurd hn (by
          have : ∀ q ∈ am_pM, q.2.2.1 = 9998 → q.2.2.2.2 = 0 := by decide +kernel
          exact fun z => z (this qx hq h98))
      · simp only [Bool.and_eq_true] at h9
        have h10 := h9.2
        unfold am_wn at h10
        exact va_Nw.of rfl (hts _ (List.mem_of_getElem? (of_decide_eq_true h10)))
  · have h9 := List.all_eq_true.mp am_S_ok qx hq
    unfold am_okS at h9
    simp only [Bool.and_eq_true] at h9
    have h10 := h9.2
    first | rw [if_neg hn] at h10 | skip
    unfold am_wn at h10
    exact va_Nw.of rfl (hts _ (List.mem_of_getElem? (of_decide_eq_true h10)))
  · exact va_AO.of (hts _ (am_q8.2 t (by omega) (by omega)))
