/-! the machine does what the abstract machine does -/
section AMB
variable {p : Program} {l : Launch} {e : Env} {R : Room} {s : State} {m : MethodId} {args : Array Value} {below : List Frame} {meth : Method} {c : Code} {H : Heap} {locs : List Loc} {Q : State → Prop}
variable {pc : Nat} {LS : Array Slot} {G : am_G} {stc : Nat → Option va_E} {k d : Nat} {q : am_M}
theorem am_sa_inj {f : Nat → Nat} (hsa : ∀ i j : Nat, i < 5 → j < 5 → f (2 + i) = f (2 + j) → i = j) {v y : Nat} (g1 : 1000001 < v) (g2 : v < 1000007) (g3 : 1000001 < y) (g4 : y < 1000007) (he : f (2 + (v - 1000002)) = f (2 + (y - 1000002))) : v = y := by
  have := hsa _ _ (by omega) (by omega) he
  omega
/-- the contracts of what may be called -/
def am_cts (l : Launch) (G : am_G) (stc : Nat → Option va_E) (d : Nat) : Prop := ∀ (k : Nat) (q : am_M) (as : List Value) (h : am_H) (r : am_R), am_mt[k]? = some q → k < 223 → am_wd as ≤ q.2.2.1 → am_cal (d + 1) k as h = some r → am_Ct l G stc d q as h r.1 r.2
theorem am_s_inv (K : am_Kx G stc p R s m args meth c k q (d + 1)) (hC : am_cts l G stc d) {ls : am_L} {st : List Value} {h : am_H} {n0 z0 kind k' idx wi nst : Nat} {x : am_C ⊕ am_R} (hp : (q.2.2.2.2.1, idx, k', wi, nst) ∈ am_pM) (hk' : k' ≠ 9999 ∧ k' ≠ 9998) (hdg : decode q.2.1 pc = .ok (if kind = 0 then .invokestatic idx else if kind = 1 then .invokevirtual idx else .invokespecial idx, 3)) (e1 : am_inv kind (am_cal (d + 1)) k' (pc + 3) ls st h = some x) (hl : am_lr G q.2.2.1 ls LS) (hr : am_rel G stc h H) (hS : va_S (am_A G) s.heap H locs) (hn0 : n0 ≤ h.1 ∧ z0 ≤ h.2.1) (hroom : (am_hp x).1 - n0 ≤ R.cells ∧ (am_hp x).2.1 - z0 ≤ R.slots)
    (hk : ∀ c', x = .inl c' → am_nx G stc p l e R s m args below meth c Q q.2.2.1 n0 z0 c') : W p l e R s m args below meth c H locs (h.1 - n0) (h.2.1 - z0) Q (F0 m pc LS (st.map (am_cv G))) := by
  have hokM := List.all_eq_true.mp am_M_ok _ hp
  have hlt : k' < 223 := by
    unfold am_okM at hokM
    rw [if_neg (show ¬ k' = 9999 from hk'.1), if_neg (show ¬ k' = 9998 from hk'.2)] at hokM
    simp only [Bool.and_eq_true, decide_eq_true_eq] at hokM
    exact hokM.1
  unfold am_inv at e1
  split at e1
  · cases e1
  · rename_i q' hq'
    split at e1
    · cases e1
    · rename_i as r hpop
      obtain ⟨bs, b1, b2, b3⟩ := am_pop_spec _ _ _ _ _ hpop
      rw [List.append_nil] at b3
      subst b3
      subst b2
      split at e1
      · rename_i hcond
        obtain ⟨hkind, hwr, hwa⟩ := hcond
        have hmt : am_mt.getD k' am_md = q' := by rw [List.getD_eq_getElem?_getD, hq']; rfl
        have hv1 : nst ≠ 0 → q'.2.2.2.2.2.2.2.1 ≠ 1 := fun hz => by
          have := am_nst_ok _ hp hz
          rw [hmt] at this
          exact this
        have main : ∀ (hrec : q'.2.2.2.2.2.2.2.1 ≠ 0 → ∃ a As, as = .ref a :: As ∧ (q'.2.2.2.2.2.2.2.1 = 2 ∨ am_is (am_at h a) (am_rc q'.2.2.2.2.1) = true)), am_back (pc + 3) ls r (am_cal (d + 1) k' as h) = some x → W p l e R s m args below meth c H locs (h.1 - n0) (h.2.1 - z0) Q (F0 m pc LS ((as.reverse ++ r).map (am_cv G))) := fun hrec e2 => by
          cases hcal : am_cal (d + 1) k' as h with
          | none => rw [hcal] at e2; cases e2
          | some rr =>
            obtain ⟨rv, h'⟩ := rr
            rw [hcal] at e2
            have hct := hC k' q' as h (rv, h') hq' hlt hwa hcal
            have hle : am_le h h' := am_cal_le _ _ _ _ _ hcal
            have hx : x = .inl (pc + 3, ls, rv.toList ++ r, h') := by
              cases rv with
              | none => cases e2; rfl
              | some v => cases e2; rfl
            subst hx
            have hroom' : (h'.1 - n0) ≤ R.cells ∧ (h'.2.1 - z0) ≤ R.slots := hroom
            have a1 : h.1 - n0 + (h'.1 - h.1) = h'.1 - n0 := by have := hle.1; omega
            have a2 : h.2.1 - z0 + (h'.2.1 - h.2.1) = h'.2.1 - z0 := by have := hle.2; omega
            refine am_r_call K hr hS hl.2.1 hq' hlt hct b1 hwr hrec hp (by rw [hkind]; exact hdg) hv1 (by rw [a1, a2]; exact hroom') (fun H1 locs1 hr1 hS1 => ?_)
            rw [a1, a2]
            have := hk _ rfl LS H1 locs1 hl hr1 hS1
            cases rv with
            | none => exact this
            | some v => exact this
        split at e1
        · rename_i hk0
          exact main (fun hz => absurd (hkind.trans hk0) hz) e1
        · split at e1
          · rename_i a As
            split at e1
            · rename_i hrc
              exact main (fun _ => ⟨a, As, rfl, by rw [hkind]; exact hrc⟩) e1
            · cases e1
          · cases e1
      · cases e1
set_option maxHeartbeats 8000000 in
theorem am_step (K : am_Kx G stc p R s m args meth c k q d) (hC : ∀ d', d = d' + 1 → am_cts l G stc d') {ls : am_L} {st : List Value} {h : am_H} {n0 z0 len : Nat} {i raw : Instr} {x : am_C ⊕ am_R} (hdg : decode q.2.1 pc = .ok (raw, len)) (hln : len = am_ln len raw) (hrs : am_rs q.2.2.2.2.1 pc raw = some i) (e1 : am_ins (decide (d ≠ 0)) (am_cal d) k i pc (pc + len) ls st h = some x) (hl : am_lr G q.2.2.1 ls LS) (hr : am_rel G stc h H) (hS : va_S (am_A G) s.heap H locs) (hn0 : n0 ≤ h.1 ∧ z0 ≤ h.2.1) (hroom : (am_hp x).1 - n0 ≤ R.cells ∧ (am_hp x).2.1 - z0 ≤ R.slots)
    (hk : ∀ c', x = .inl c' → am_nx G stc p l e R s m args below meth c Q q.2.2.1 n0 z0 c') (hret : ∀ r, x = .inr r → am_rtd q pc r.1 → W p l e R s m args below meth c H locs (h.1 - n0) (h.2.1 - z0) Q (F0 m pc LS (r.1.toList.map (am_cv G)))) : W p l e R s m args below meth c H locs (h.1 - n0) (h.2.1 - z0) Q (F0 m pc LS (st.map (am_cv G))) := by
  have K0 := K
  obtain ⟨hx, hq, hb, hmx, hown, hts, hen, hini, ⟨hR1, hR2⟩, hB, hfv, hsa⟩ := K
  cases raw
  case iconst v =>
    cases (show some (Instr.iconst v) = some i from hrs)
    have hln : len = 1 := hln
    subst hln
    cases e1
    exact lv_iconst hx hb hdg rfl (hk _ rfl LS H locs hl hr hS)
  case bipush v =>
    cases (show some (Instr.bipush v) = some i from hrs)
    have hln : len = 2 := hln
    subst hln
    cases e1
    exact lv_bipush hx hb hdg rfl (hk _ rfl LS H locs hl hr hS)
  case sipush v =>
    cases (show some (Instr.sipush v) = some i from hrs)
    have hln : len = 3 := hln
    subst hln
    cases e1
    exact lv_sipush hx hb hdg rfl (hk _ rfl LS H locs hl hr hS)
  case lconst v =>
    cases (show some (Instr.lconst v) = some i from hrs)
    have hln : len = 1 := hln
    subst hln
    cases e1
    exact lv_lconst hx hb hdg rfl (hk _ rfl LS H locs hl hr hS)
  case iload v =>
    cases (show some (Instr.iload v) = some i from hrs)
    have hln : len = 2 := hln
    exact am_s_ld0 K0 (Or.inl ⟨by rw [hdg, hln], hln⟩) e1 hl hr hS hk
  case iload_n v =>
    cases (show some (Instr.iload v.val) = some i from hrs)
    have hln : len = 1 := hln
    exact am_s_ld0 K0 (Or.inr ⟨v, rfl, by rw [hdg, hln], hln⟩) e1 hl hr hS hk
  case aload v =>
    cases (show some (Instr.aload v) = some i from hrs)
    have hln : len = 2 := hln
    exact am_s_ld1 K0 (Or.inl ⟨by rw [hdg, hln], hln⟩) e1 hl hr hS hk
  case aload_n v =>
    cases (show some (Instr.aload v.val) = some i from hrs)
    have hln : len = 1 := hln
    exact am_s_ld1 K0 (Or.inr ⟨v, rfl, by rw [hdg, hln], hln⟩) e1 hl hr hS hk
  case lload v =>
    cases (show some (Instr.lload v) = some i from hrs)
    have hln : len = 2 := hln
    exact am_s_ld2 K0 (Or.inl ⟨by rw [hdg, hln], hln⟩) e1 hl hr hS hk
  case lload_n v =>
    cases (show some (Instr.lload v.val) = some i from hrs)
    have hln : len = 1 := hln
    exact am_s_ld2 K0 (Or.inr ⟨v, rfl, by rw [hdg, hln], hln⟩) e1 hl hr hS hk
  case istore v =>
    cases (show some (Instr.istore v) = some i from hrs)
    have hln : len = 2 := hln
    exact am_s_stI K0 (Or.inl ⟨by rw [hdg, hln], hln⟩) e1 hl hr hS hk
  case istore_n v =>
    cases (show some (Instr.istore v.val) = some i from hrs)
    have hln : len = 1 := hln
    exact am_s_stI K0 (Or.inr ⟨v, rfl, by rw [hdg, hln], hln⟩) e1 hl hr hS hk
  case astore v =>
    cases (show some (Instr.astore v) = some i from hrs)
    have hln : len = 2 := hln
    exact am_s_stA K0 (Or.inl ⟨by rw [hdg, hln], hln⟩) e1 hl hr hS hk
  case astore_n v =>
    cases (show some (Instr.astore v.val) = some i from hrs)
    have hln : len = 1 := hln
    exact am_s_stA K0 (Or.inr ⟨v, rfl, by rw [hdg, hln], hln⟩) e1 hl hr hS hk
  case lstore v =>
    cases (show some (Instr.lstore v) = some i from hrs)
    have hln : len = 2 := hln
    exact am_s_stL K0 (Or.inl ⟨by rw [hdg, hln], hln⟩) e1 hl hr hS hk
  case lstore_n v =>
    cases (show some (Instr.lstore v.val) = some i from hrs)
    have hln : len = 1 := hln
    exact am_s_stL K0 (Or.inr ⟨v, rfl, by rw [hdg, hln], hln⟩) e1 hl hr hS hk
  case iinc v w =>
    cases (show some (Instr.iinc v w) = some i from hrs)
    have hln : len = 3 := hln
    subst hln
    exact am_s_inc K0 hdg e1 hl hr hS hk
  case iadd =>
    cases (show some Instr.iadd = some i from hrs)
    have hln : len = 1 := hln
    subst hln
    replace e1 : am_bin _ (pc + 1) ls st h = some x := e1
    unfold am_bin at e1
    split at e1
    · cases e1
      exact lv_iadd hx hb hdg (hk _ rfl LS H locs hl hr hS)
    · cases e1
  case isub =>
    cases (show some Instr.isub = some i from hrs)
    have hln : len = 1 := hln
    subst hln
    replace e1 : am_bin _ (pc + 1) ls st h = some x := e1
    unfold am_bin at e1
    split at e1
    · cases e1
      exact lv_isub hx hb hdg (hk _ rfl LS H locs hl hr hS)
    · cases e1
  case imul =>
    cases (show some Instr.imul = some i from hrs)
    have hln : len = 1 := hln
    subst hln
    replace e1 : am_bin _ (pc + 1) ls st h = some x := e1
    unfold am_bin at e1
    split at e1
    · cases e1
      exact lv_imul hx hb hdg (hk _ rfl LS H locs hl hr hS)
    · cases e1
  case iand =>
    cases (show some Instr.iand = some i from hrs)
    have hln : len = 1 := hln
    subst hln
    replace e1 : am_bin _ (pc + 1) ls st h = some x := e1
    unfold am_bin at e1
    split at e1
    · cases e1
      exact lv_iand hx hb hdg (hk _ rfl LS H locs hl hr hS)
    · cases e1
  case ior =>
    cases (show some Instr.ior = some i from hrs)
    have hln : len = 1 := hln
    subst hln
    replace e1 : am_bin _ (pc + 1) ls st h = some x := e1
    unfold am_bin at e1
    split at e1
    · cases e1
      exact lv_ior hx hb hdg (hk _ rfl LS H locs hl hr hS)
    · cases e1
  case ixor =>
    cases (show some Instr.ixor = some i from hrs)
    have hln : len = 1 := hln
    subst hln
    replace e1 : am_bin _ (pc + 1) ls st h = some x := e1
    unfold am_bin at e1
    split at e1
    · cases e1
      exact lv_ixor hx hb hdg (hk _ rfl LS H locs hl hr hS)
    · cases e1
  case ishl =>
    cases (show some Instr.ishl = some i from hrs)
    have hln : len = 1 := hln
    subst hln
    replace e1 : am_bin _ (pc + 1) ls st h = some x := e1
    unfold am_bin at e1
    split at e1
    · cases e1
      exact lv_ishl hx hb hdg (hk _ rfl LS H locs hl hr hS)
    · cases e1
  case ishr =>
    cases (show some Instr.ishr = some i from hrs)
    have hln : len = 1 := hln
    subst hln
    replace e1 : am_bin _ (pc + 1) ls st h = some x := e1
    unfold am_bin at e1
    split at e1
    · cases e1
      exact lv_ishr hx hb hdg (hk _ rfl LS H locs hl hr hS)
    · cases e1
  case iushr =>
    cases (show some Instr.iushr = some i from hrs)
    have hln : len = 1 := hln
    subst hln
    replace e1 : am_bin _ (pc + 1) ls st h = some x := e1
    unfold am_bin at e1
    split at e1
    · cases e1
      exact lv_iushr hx hb hdg rfl (hk _ rfl LS H locs hl hr hS)
    · cases e1
  case lmul =>
    cases (show some Instr.lmul = some i from hrs)
    have hln : len = 1 := hln
    subst hln
    replace e1 : am_lbin _ (pc + 1) ls st h = some x := e1
    unfold am_lbin at e1
    split at e1
    · cases e1
      exact lv_lmul hx hb hdg (hk _ rfl LS H locs hl hr hS)
    · cases e1
  case lsub =>
    cases (show some Instr.lsub = some i from hrs)
    have hln : len = 1 := hln
    subst hln
    replace e1 : am_lbin _ (pc + 1) ls st h = some x := e1
    unfold am_lbin at e1
    split at e1
    · cases e1
      exact lv_lsub hx hb hdg (hk _ rfl LS H locs hl hr hS)
    · cases e1
  case idiv =>
    cases (show some Instr.idiv = some i from hrs)
    have hln : len = 1 := hln
    subst hln
    replace e1 : am_div _ (pc + 1) ls st h = some x := e1
    unfold am_div at e1
    split at e1
    · split at e1
      · cases e1
      · rename_i hz
        cases e1
        exact lv_idiv hx hb hdg hz (hk _ rfl LS H locs hl hr hS)
    · cases e1
  case irem =>
    cases (show some Instr.irem = some i from hrs)
    have hln : len = 1 := hln
    subst hln
    replace e1 : am_div _ (pc + 1) ls st h = some x := e1
    unfold am_div at e1
    split at e1
    · split at e1
      · cases e1
      · rename_i hz
        cases e1
        exact lv_irem hx hb hdg hz (hk _ rfl LS H locs hl hr hS)
    · cases e1
  case ldiv =>
    cases (show some Instr.ldiv = some i from hrs)
    have hln : len = 1 := hln
    subst hln
    replace e1 : am_ldv _ (pc + 1) ls st h = some x := e1
    unfold am_ldv at e1
    split at e1
    · split at e1
      · cases e1
      · rename_i hz
        cases e1
        exact lv_ldiv hx hb hdg hz (hk _ rfl LS H locs hl hr hS)
    · cases e1
  case lrem =>
    cases (show some Instr.lrem = some i from hrs)
    have hln : len = 1 := hln
    subst hln
    replace e1 : am_ldv _ (pc + 1) ls st h = some x := e1
    unfold am_ldv at e1
    split at e1
    · split at e1
      · cases e1
      · rename_i hz
        cases e1
        exact lv_lrem hx hb hdg hz (hk _ rfl LS H locs hl hr hS)
    · cases e1
  case lcmp =>
    cases (show some Instr.lcmp = some i from hrs)
    have hln : len = 1 := hln
    subst hln
    dsimp only [am_ins] at e1
    split at e1
    · cases e1
      exact W.lcmp hx hb hdg (hk _ rfl LS H locs hl hr hS)
    · cases e1
  case i2l =>
    cases (show some Instr.i2l = some i from hrs)
    have hln : len = 1 := hln
    subst hln
    dsimp only [am_ins] at e1
    split at e1
    · cases e1
      exact lv_i2l hx hb hdg rfl (hk _ rfl LS H locs hl hr hS)
    · cases e1
  case l2i =>
    cases (show some Instr.l2i = some i from hrs)
    have hln : len = 1 := hln
    subst hln
    dsimp only [am_ins] at e1
    split at e1
    · cases e1
      exact lv_l2i hx hb hdg rfl (hk _ rfl LS H locs hl hr hS)
    · cases e1
  case i2c =>
    cases (show some Instr.i2c = some i from hrs)
    have hln : len = 1 := hln
    subst hln
    dsimp only [am_ins] at e1
    split at e1
    · cases e1
      exact lv_i2c hx hb hdg rfl (hk _ rfl LS H locs hl hr hS)
    · cases e1
  case dup =>
    cases (show some Instr.dup = some i from hrs)
    have hln : len = 1 := hln
    subst hln
    dsimp only [am_ins] at e1
    split at e1
    · split at e1
      · rename_i hv
        cases e1
        exact lv_dup hx hb hdg (by rw [am_cat hfv]; exact hv) (hk _ rfl LS H locs hl hr hS)
      · cases e1
    · cases e1
  case pop =>
    cases (show some Instr.pop = some i from hrs)
    have hln : len = 1 := hln
    subst hln
    dsimp only [am_ins] at e1
    split at e1
    · split at e1
      · rename_i hv
        cases e1
        exact lv_pop hx hb hdg (by rw [am_cat hfv]; exact hv) (hk _ rfl LS H locs hl hr hS)
      · cases e1
    · cases e1
  case dup2 =>
    cases (show some Instr.dup2 = some i from hrs)
    have hln : len = 1 := hln
    subst hln
    dsimp only [am_ins] at e1
    split at e1
    · split at e1
      · rename_i hv
        cases e1
        exact lv_dup2_11 hx hb hdg (by rw [am_cat hfv]; exact hv.1) (by rw [am_cat hfv]; exact hv.2) (hk _ rfl LS H locs hl hr hS)
      · cases e1
    · cases e1
  case goto o =>
    dsimp only [am_rs] at hrs
    split at hrs
    · rename_i h0
      cases hrs
      have hln : len = 3 := hln
      subst hln
      cases e1
      exact lv_goto hx hb hdg (am_tgt h0) (hk _ rfl LS H locs hl hr hS)
    · cases hrs
  case ifCond qq o =>
    dsimp only [am_rs] at hrs
    split at hrs
    · rename_i h0
      cases hrs
      have hln : len = 3 := hln
      subst hln
      dsimp only [am_ins] at e1
      split at e1
      · rename_i v r
        cases e1
        have kt : am_cond qq v 0 = true → _ := fun hc => by
          have := hk _ rfl LS H locs hl hr hS
          rw [if_pos hc] at this
          exact this
        have kf : ¬ am_cond qq v 0 = true → _ := fun hc => by
          have := hk _ rfl LS H locs hl hr hS
          rw [if_neg hc] at this
          exact this
        cases qq with
        | eq => exact lv_if_eq hx hb hdg (am_tgt h0) (fun hc => kt (by simp only [am_cond, decide_eq_true_eq]; exact hc)) (fun hc => kf (by simp only [am_cond, decide_eq_true_eq]; exact hc))
        | ne => exact lv_if_ne hx hb hdg (am_tgt h0) (fun hc => kt (by simp only [am_cond, decide_eq_true_eq]; exact hc)) (fun hc => kf (by simp only [am_cond, decide_eq_true_eq]; exact fun z => z hc))
        | lt => exact lv_if_lt hx hb hdg (am_tgt h0) (fun hc => kt (by simp only [am_cond, decide_eq_true_eq]; exact hc)) (fun hc => kf (by simp only [am_cond, decide_eq_true_eq]; exact hc))
        | ge => exact lv_if_ge hx hb hdg (am_tgt h0) (fun hc => kt (by simp only [am_cond, decide_eq_true_eq]; exact hc)) (fun hc => kf (by simp only [am_cond, decide_eq_true_eq]; exact hc))
        | gt => exact lv_if_gt hx hb hdg (am_tgt h0) (fun hc => kt (by simp only [am_cond, decide_eq_true_eq]; exact hc)) (fun hc => kf (by simp only [am_cond, decide_eq_true_eq]; exact hc))
        | le => exact lv_if_le hx hb hdg (am_tgt h0) (fun hc => kt (by simp only [am_cond, decide_eq_true_eq]; exact hc)) (fun hc => kf (by simp only [am_cond, decide_eq_true_eq]; exact hc))
      · cases e1
    · cases hrs
  case if_icmp qq o =>
    dsimp only [am_rs] at hrs
    split at hrs
    · rename_i h0
      cases hrs
      have hln : len = 3 := hln
      subst hln
      dsimp only [am_ins] at e1
      split at e1
      · rename_i y v r
        cases e1
        have kt : am_cond qq v y = true → _ := fun hc => by
          have := hk _ rfl LS H locs hl hr hS
          rw [if_pos hc] at this
          exact this
        have kf : ¬ am_cond qq v y = true → _ := fun hc => by
          have := hk _ rfl LS H locs hl hr hS
          rw [if_neg hc] at this
          exact this
        cases qq with
        | eq => exact lv_icmp_eq hx hb hdg (am_tgt h0) (fun hc => kt (by simp only [am_cond, decide_eq_true_eq]; exact hc)) (fun hc => kf (by simp only [am_cond, decide_eq_true_eq]; exact hc))
        | ne => exact lv_icmp_ne hx hb hdg (am_tgt h0) (fun hc => kt (by simp only [am_cond, decide_eq_true_eq]; exact hc)) (fun hc => kf (by simp only [am_cond, decide_eq_true_eq]; exact fun z => z hc))
        | lt => exact lv_icmp_lt hx hb hdg (am_tgt h0) (fun hc => kt (by simp only [am_cond, decide_eq_true_eq]; exact hc)) (fun hc => kf (by simp only [am_cond, decide_eq_true_eq]; exact hc))
        | ge => exact lv_icmp_ge hx hb hdg (am_tgt h0) (fun hc => kt (by simp only [am_cond, decide_eq_true_eq]; exact hc)) (fun hc => kf (by simp only [am_cond, decide_eq_true_eq]; exact hc))
        | gt => exact lv_icmp_gt hx hb hdg (am_tgt h0) (fun hc => kt (by simp only [am_cond, decide_eq_true_eq]; exact hc)) (fun hc => kf (by simp only [am_cond, decide_eq_true_eq]; exact hc))
        | le => exact lv_icmp_le hx hb hdg (am_tgt h0) (fun hc => kt (by simp only [am_cond, decide_eq_true_eq]; exact hc)) (fun hc => kf (by simp only [am_cond, decide_eq_true_eq]; exact hc))
      · cases e1
    · cases hrs
  case if_acmp qq o =>
    dsimp only [am_rs] at hrs
    split at hrs
    · rename_i h0
      cases hrs
      have hln : len = 3 := hln
      subst hln
      dsimp only [am_ins] at e1
      split at e1
      · rename_i y v r
        split at e1
        · rename_i hrg
          obtain ⟨g1, g2, g3, g4⟩ := hrg
          have g1 : (1000001 : Nat) < v := g1
          have g2 : v < (1000007 : Nat) := g2
          have g3 : (1000001 : Nat) < y := g3
          have g4 : y < (1000007 : Nat) := g4
          cases e1
          have had : ∀ z : Nat, 1000001 < z → z < 1000007 → am_ad G z = G.2.2.1 (2 + (z - 1000002)) := fun z h1 h2 => by
            unfold am_ad
            rw [if_neg (by omega), show z - 1000000 = 2 + (z - 1000002) by omega]
          have hinj : (some (am_ad G v) : Option Nat) = some (am_ad G y) ↔ v = y := by
            constructor
            · intro he
              have he := Option.some.inj he
              rw [had v g1 g2, had y g3 g4] at he
              exact am_sa_inj hsa g1 g2 g3 g4 he
            · rintro rfl; rfl
          cases qq with
          | eq =>
            refine lv_acmp_eq (rx := some (am_ad G v)) (ry := some (am_ad G y)) hx hb hdg (am_tgt h0) (fun hc => ?_) (fun hc => ?_)
            · have := hk _ rfl LS H locs hl hr hS
              rw [if_pos (by simpa using hinj.mp hc)] at this
              exact this
            · have := hk _ rfl LS H locs hl hr hS
              rw [if_neg (by simpa using fun z => hc (hinj.mpr z))] at this
              exact this
          | ne =>
            refine lv_acmp_ne (rx := some (am_ad G v)) (ry := some (am_ad G y)) hx hb hdg (am_tgt h0) (fun hc => ?_) (fun hc => ?_)
            · have := hk _ rfl LS H locs hl hr hS
              rw [if_pos (by simpa using fun z => hc (hinj.mpr z))] at this
              exact this
            · have := hk _ rfl LS H locs hl hr hS
              rw [if_neg (by simpa using hinj.mp hc)] at this
              exact this
        · cases e1
      · cases e1
    · cases hrs
  case tableswitch dd lo hi os =>
    dsimp only [am_rs] at hrs
    split at hrs
    · rename_i h0
      cases hrs
      exact am_s_tab K0 hdg h0 e1 hl hr hS hk
    · cases hrs
  case getfield ix =>
    have hln : len = 3 := hln
    subst hln
    replace hrs : (am_fnd am_pF q.2.2.2.2.1 ix).map _ = some i := hrs
    cases hf : am_fnd am_pF q.2.2.2.2.1 ix with
    | none => rw [hf] at hrs; cases hrs
    | some z =>
      rw [hf] at hrs
      cases hrs
      have hmem := am_fnd_mem hf
      obtain ⟨ci, kk, wi⟩ := z
      have hok := List.all_eq_true.mp am_F_ok _ hmem
      have hkk : kk < 100 := by
        unfold am_okF at hok
        split at hok
        · rename_i h9
          simp only [Bool.and_eq_true, decide_eq_true_eq] at hok
          have h10 : ∀ j, j < 9 → am_N j ≤ 40 := by decide +kernel
          have := h10 ci h9
          have := hok.1
          omega
        · simp only [Bool.and_eq_true, decide_eq_true_eq] at hok
          omega
      replace e1 : am_gf (100 * ci + kk) (pc + 3) ls st h = some x := e1
      unfold am_gf at e1
      rw [show (100 * ci + kk) / 100 = ci by omega, show (100 * ci + kk) % 100 = kk by omega] at e1
      split at e1
      · split at e1
        · rename_i a r cc fs hat
          split at e1
          · rename_i hcc
            subst hcc
            split at e1
            · rename_i v hv
              cases e1
              exact am_r_get K0 hr hS hat hv hok hdg (hk _ rfl LS H locs hl hr hS)
            · cases e1
          · cases e1
        · cases e1
      · cases e1
  case putfield ix =>
    have hln : len = 3 := hln
    subst hln
    replace hrs : (am_fnd am_pF q.2.2.2.2.1 ix).map _ = some i := hrs
    cases hf : am_fnd am_pF q.2.2.2.2.1 ix with
    | none => rw [hf] at hrs; cases hrs
    | some z =>
      rw [hf] at hrs
      cases hrs
      have hmem := am_fnd_mem hf
      obtain ⟨ci, kk, wi⟩ := z
      have hok := List.all_eq_true.mp am_F_ok _ hmem
      have hkk : kk < 100 := by
        unfold am_okF at hok
        split at hok
        · rename_i h9
          simp only [Bool.and_eq_true, decide_eq_true_eq] at hok
          have h10 : ∀ j, j < 9 → am_N j ≤ 40 := by decide +kernel
          have := h10 ci h9
          have := hok.1
          omega
        · simp only [Bool.and_eq_true, decide_eq_true_eq] at hok
          omega
      replace e1 : am_pf (am_isI k) (am_owc k) (100 * ci + kk) (pc + 3) ls st h = some x := e1
      unfold am_pf at e1
      rw [show (100 * ci + kk) / 100 = ci by omega, show (100 * ci + kk) % 100 = kk by omega] at e1
      split at e1
      · split at e1
        · rename_i v a r cc fs hat
          split at e1
          · rename_i hcc
            obtain ⟨rfl, hci, hlen, hfin, hfit⟩ := hcc
            cases e1
            have howc : am_owc k = q.2.2.2.2.1 := by unfold am_owc; rw [hq]
            exact am_r_put K0 hr hS hat hci hlen (hfin.imp id (fun z => z.1)) hfit hok (fun _ hF => by
              rcases hfin with h9 | h9
              · rw [h9] at hF; cases hF
              · rw [← howc, ← h9.2]) hdg (fun H1 locs1 hr1 hS1 => hk _ rfl LS H1 locs1 hl hr1 hS1)
          · cases e1
        · cases e1
      · cases e1
  case getstatic ix =>
    have hln : len = 3 := hln
    subst hln
    replace hrs : (am_fnd am_pS q.2.2.2.2.1 ix).map _ = some i := hrs
    cases hf : am_fnd am_pS q.2.2.2.2.1 ix with
    | none => rw [hf] at hrs; cases hrs
    | some z =>
      rw [hf] at hrs
      cases hrs
      have hmem := am_fnd_mem hf
      obtain ⟨j, wi, nst⟩ := z
      have hok := List.all_eq_true.mp am_S_ok _ hmem
      unfold am_okS at hok
      simp only [Bool.and_eq_true, decide_eq_true_eq] at hok
      dsimp only [am_ins] at e1
      split at e1
      · rename_i sv hsv
        cases e1
        have hZ := hen.2.2.1 j sv hsv
        have hgd : am_sv.getD j am_svd = sv := by rw [List.getD_eq_getElem?_getD, hsv]; rfl
        by_cases hn0' : nst = 0
        · have h9 := hok.2
          rw [if_pos hn0', hgd] at h9
          exact va_gets hx hb hZ hS hown (hts.at h9) (fun _ h9 => h9) hdg (hk _ rfl LS H locs hl hr hS)
        · have h9 := hen.2.2.2.2.2.1 _ hmem hn0'
          rw [show (q.2.2.2.2.1, ix, j, wi, nst).2.2.1 = j from rfl, hgd] at h9
          exact va_getsN hx hb hZ hS hown (va_Nw.use rfl h9) (fun _ h9 => h9) hdg (hk _ rfl LS H locs hl hr hS)
      · cases e1
  case new ix =>
    have hln : len = 3 := hln
    subst hln
    replace hrs : (am_fnd am_pN q.2.2.2.2.1 ix).map _ = some i := hrs
    cases hf : am_fnd am_pN q.2.2.2.2.1 ix with
    | none => rw [hf] at hrs; cases hrs
    | some z =>
      rw [hf] at hrs
      cases hrs
      have hmem := am_fnd_mem hf
      obtain ⟨ci, wi⟩ := z
      have hok := List.all_eq_true.mp am_N_ok _ hmem
      replace e1 : am_nw ci (pc + 3) ls st h = some x := e1
      unfold am_nw at e1
      split at e1
      · rename_i hc
        cases e1
        have a1 : h.1 - n0 + 1 = h.1 + 1 - n0 := by omega
        have a2 : h.2.1 - z0 + (am_dflt ci).length = h.2.1 + (am_dflt ci).length - z0 := by omega
        have hroom' : h.1 + 1 - n0 ≤ R.cells ∧ h.2.1 + (am_dflt ci).length - z0 ≤ R.slots := hroom
        refine am_r_new K0 hr hS hc.1 hc.2 hok hdg (by rw [a1]; exact hroom'.1) (by rw [a2]; exact hroom'.2) (fun H1 hr1 hS1 => ?_)
        rw [a1, a2]
        exact hk _ rfl LS H1 locs hl hr1 hS1
      · cases e1
  case anewarray ix =>
    have hln : len = 3 := hln
    subst hln
    replace hrs : (am_fnd am_pA q.2.2.2.2.1 ix).map _ = some i := hrs
    cases hf : am_fnd am_pA q.2.2.2.2.1 ix with
    | none => rw [hf] at hrs; cases hrs
    | some z =>
      rw [hf] at hrs
      cases hrs
      have hmem := am_fnd_mem hf
      obtain ⟨t, wi⟩ := z
      have hok := List.all_eq_true.mp am_A_ok _ hmem
      replace e1 : am_nwq t (pc + 3) ls st h = some x := e1
      unfold am_nwq at e1
      split at e1
      · rename_i n r
        split at e1
        · rename_i hc
          cases e1
          have a1 : h.1 - n0 + 1 = h.1 + 1 - n0 := by omega
          have a2 : h.2.1 - z0 + n.toNatClampNeg = h.2.1 + n.toNatClampNeg - z0 := by omega
          have hroom' : h.1 + 1 - n0 ≤ R.cells ∧ h.2.1 + n.toNatClampNeg - z0 ≤ R.slots := hroom
          refine am_r_newq K0 hr hS hc.2.2 hc.1 hc.2.1 hok hdg (by rw [a1]; exact hroom'.1) (by rw [a2]; exact hroom'.2) (fun H1 hr1 hS1 => ?_)
          rw [a1, a2]
          exact hk _ rfl LS H1 locs hl hr1 hS1
        · cases e1
      · cases e1
  case newarray t =>
    have hln : len = 2 := hln
    subst hln
    cases t
    case int =>
      cases (show some (Instr.newarray .int) = some i from hrs)
      replace e1 : am_nwa 0 (pc + 2) ls st h = some x := e1
      unfold am_nwa at e1
      split at e1
      · rename_i n r
        split at e1
        · rename_i hc
          cases e1
          have a1 : h.1 - n0 + 1 = h.1 + 1 - n0 := by omega
          have a2 : h.2.1 - z0 + n.toNatClampNeg = h.2.1 + n.toNatClampNeg - z0 := by omega
          have hroom' : h.1 + 1 - n0 ≤ R.cells ∧ h.2.1 + n.toNatClampNeg - z0 ≤ R.slots := hroom
          refine am_r_newa K0 hr hS (Or.inl ⟨rfl, rfl⟩) hc.2.2 hc.1 hc.2.1 hdg (by rw [a1]; exact hroom'.1) (by rw [a2]; exact hroom'.2) (fun H1 hr1 hS1 => ?_)
          rw [a1, a2]
          exact hk _ rfl LS H1 locs hl hr1 hS1
        · cases e1
      · cases e1
    case boolean =>
      cases (show some (Instr.newarray .boolean) = some i from hrs)
      replace e1 : am_nwa 1 (pc + 2) ls st h = some x := e1
      unfold am_nwa at e1
      split at e1
      · rename_i n r
        split at e1
        · rename_i hc
          cases e1
          have a1 : h.1 - n0 + 1 = h.1 + 1 - n0 := by omega
          have a2 : h.2.1 - z0 + n.toNatClampNeg = h.2.1 + n.toNatClampNeg - z0 := by omega
          have hroom' : h.1 + 1 - n0 ≤ R.cells ∧ h.2.1 + n.toNatClampNeg - z0 ≤ R.slots := hroom
          refine am_r_newa K0 hr hS (Or.inr ⟨rfl, rfl⟩) hc.2.2 hc.1 hc.2.1 hdg (by rw [a1]; exact hroom'.1) (by rw [a2]; exact hroom'.2) (fun H1 hr1 hS1 => ?_)
          rw [a1, a2]
          exact hk _ rfl LS H1 locs hl hr1 hS1
        · cases e1
      · cases e1
    all_goals (cases hrs)
  case iaload =>
    cases (show some Instr.iaload = some i from hrs)
    have hln : len = 1 := hln
    subst hln
    replace e1 : am_ial 0 10 (pc + 1) ls st h = some x := e1
    unfold am_ial at e1
    split at e1
    · split at e1
      · rename_i iv a r t n g hat
        split at e1
        · rename_i hc
          cases e1
          exact am_r_iald K0 hr hS hat hc.1 hc.2 hdg (hk _ rfl LS H locs hl hr hS)
        · cases e1
      · cases e1
    · cases e1
  case baload =>
    cases (show some Instr.baload = some i from hrs)
    have hln : len = 1 := hln
    subst hln
    replace e1 : am_ial 1 11 (pc + 1) ls st h = some x := e1
    unfold am_ial at e1
    split at e1
    · split at e1
      · rename_i iv a r t n g hat
        split at e1
        · rename_i hc
          cases e1
          exact am_r_bald K0 hr hS hat hc.1 hc.2 hdg (hk _ rfl LS H locs hl hr hS)
        · cases e1
      · cases e1
    · cases e1
  case aaload =>
    cases (show some Instr.aaload = some i from hrs)
    have hln : len = 1 := hln
    subst hln
    replace e1 : am_aal (pc + 1) ls st h = some x := e1
    unfold am_aal at e1
    split at e1
    · split at e1
      · rename_i iv a r t n g hat
        split at e1
        · rename_i hc
          cases e1
          exact am_r_aald K0 hr hat hc hdg (hk _ rfl LS H locs hl hr hS)
        · cases e1
      · cases e1
    · cases e1
  case iastore =>
    cases (show some Instr.iastore = some i from hrs)
    have hln : len = 1 := hln
    subst hln
    replace e1 : am_ias 0 (fun x => x) (pc + 1) ls st h = some x := e1
    unfold am_ias at e1
    split at e1
    · split at e1
      · rename_i xv iv a r t n g hat
        split at e1
        · rename_i hc
          obtain ⟨rfl, hc⟩ := hc
          cases e1
          exact am_r_iast K0 hr hS hat hc hdg (fun H1 locs1 hr1 hS1 => hk _ rfl LS H1 locs1 hl hr1 hS1)
        · cases e1
      · cases e1
    · cases e1
  case bastore =>
    cases (show some Instr.bastore = some i from hrs)
    have hln : len = 1 := hln
    subst hln
    replace e1 : am_ias 1 (vp_nar .boolean) (pc + 1) ls st h = some x := e1
    unfold am_ias at e1
    split at e1
    · split at e1
      · rename_i xv iv a r t n g hat
        split at e1
        · rename_i hc
          obtain ⟨rfl, hc⟩ := hc
          cases e1
          exact am_r_zast K0 hr hS hat hc hdg (fun H1 locs1 hr1 hS1 => hk _ rfl LS H1 locs1 hl hr1 hS1)
        · cases e1
      · cases e1
    · cases e1
  case aastore =>
    cases (show some Instr.aastore = some i from hrs)
    have hln : len = 1 := hln
    subst hln
    replace e1 : am_aas (pc + 1) ls st h = some x := e1
    unfold am_aas at e1
    split at e1
    · split at e1
      · rename_i v iv a r _ _ t n g cc fs hat hav
        split at e1
        · rename_i hc
          cases e1
          exact am_r_aast K0 hr hS hat hav hc.1 hc.2 hdg (fun H1 locs1 hr1 hS1 => hk _ rfl LS H1 locs1 hl hr1 hS1)
        · cases e1
      · cases e1
    · cases e1
  case arraylength =>
    cases (show some Instr.arraylength = some i from hrs)
    have hln : len = 1 := hln
    subst hln
    replace e1 : am_aln (pc + 1) ls st h = some x := e1
    unfold am_aln at e1
    split at e1
    · split at e1
      · rename_i a r t n g hat
        cases e1
        exact am_r_alen K0 hr hS hat hdg (hk _ rfl LS H locs hl hr hS)
      · cases e1
    · cases e1
  case ldc ix =>
    have hln : len = 2 := hln
    subst hln
    dsimp only [am_rs] at hrs
    split at hrs
    · rename_i z hf
      cases hrs
      cases e1
      have hok := List.all_eq_true.mp am_I_ok _ (am_fnd_mem hf)
      exact lv_ldc hx hb hown (hts.at hok) hdg (hk _ rfl LS H locs hl hr hS)
    · cases hf : am_fnd am_pT q.2.2.2.2.1 ix with
      | none => rw [hf] at hrs; cases hrs
      | some z =>
        rw [hf] at hrs
        cases hrs
        cases e1
        have hmem := am_fnd_mem hf
        have h9 := hen.2.2.2.1 _ hmem
        have had : am_ad G (1000000 + z.1) = G.2.2.1 z.1 := by unfold am_ad; rw [if_neg (by omega), Nat.add_sub_cancel_left]
        refine va_ldcS hx hb hown h9 hdg ?_
        have := hk _ rfl LS H locs hl hr hS
        rw [← had]
        exact this
  case ldc_w ix =>
    have hln : len = 3 := hln
    subst hln
    replace hrs : (am_fnd am_pI q.2.2.2.2.1 ix).map _ = some i := hrs
    cases hf : am_fnd am_pI q.2.2.2.2.1 ix with
    | none => rw [hf] at hrs; cases hrs
    | some z =>
      rw [hf] at hrs
      cases hrs
      cases e1
      have hok := List.all_eq_true.mp am_I_ok _ (am_fnd_mem hf)
      exact lv_ldcw hx hb hown (hts.at hok) hdg (hk _ rfl LS H locs hl hr hS)
  case ldc2_w ix =>
    have hln : len = 3 := hln
    subst hln
    replace hrs : (am_fnd am_pL q.2.2.2.2.1 ix).map _ = some i := hrs
    cases hf : am_fnd am_pL q.2.2.2.2.1 ix with
    | none => rw [hf] at hrs; cases hrs
    | some z =>
      rw [hf] at hrs
      cases hrs
      cases e1
      have hok := List.all_eq_true.mp am_L_ok _ (am_fnd_mem hf)
      exact lv_ldc2 hx hb hown (hts.at hok) hdg (hk _ rfl LS H locs hl hr hS)
  case invokevirtual ix =>
    have hln : len = 3 := hln
    subst hln
    replace hrs : (am_fnd am_pM q.2.2.2.2.1 ix).map _ = some i := hrs
    cases hf : am_fnd am_pM q.2.2.2.2.1 ix with
    | none => rw [hf] at hrs; cases hrs
    | some z =>
      rw [hf] at hrs
      cases hrs
      have hmem := am_fnd_mem hf
      obtain ⟨k', wi, nst⟩ := z
      dsimp only [am_ins] at e1
      split at e1
      · rename_i hok
        have hd9 : d ≠ 0 := by simpa using hok
        obtain ⟨d', rfl⟩ : ∃ d', d = d' + 1 := ⟨d - 1, by omega⟩
        have hne : k' ≠ 9999 ∧ k' ≠ 9998 := by
          constructor
          · rintro rfl
            unfold am_inv at e1
            rw [List.getElem?_eq_none (by rw [am_m_len]; omega)] at e1
            cases e1
          · rintro rfl
            unfold am_inv at e1
            rw [List.getElem?_eq_none (by rw [am_m_len]; omega)] at e1
            cases e1
        exact am_s_inv (kind := 1) K0 (hC d' rfl) hmem hne hdg e1 hl hr hS hn0 hroom hk
      · cases e1
  case invokestatic ix =>
    have hln : len = 3 := hln
    subst hln
    replace hrs : (am_fnd am_pM q.2.2.2.2.1 ix).map _ = some i := hrs
    cases hf : am_fnd am_pM q.2.2.2.2.1 ix with
    | none => rw [hf] at hrs; cases hrs
    | some z =>
      rw [hf] at hrs
      cases hrs
      have hmem := am_fnd_mem hf
      obtain ⟨k', wi, nst⟩ := z
      dsimp only [am_ins] at e1
      split at e1
      · rename_i hok
        have hd9 : d ≠ 0 := by simpa using hok
        obtain ⟨d', rfl⟩ : ∃ d', d = d' + 1 := ⟨d - 1, by omega⟩
        split at e1
        · rename_i h98
          subst h98
          unfold am_acp at e1
          split at e1
          · split at e1
            · rename_i n dp dd sp ss r _ _ n0' f n1 g hs9 hd9
              split at e1
              · rename_i hc
                obtain ⟨c1, c2, c3, c4, c5, c6⟩ := hc
                cases e1
                have hok9 := List.all_eq_true.mp am_M_ok _ hmem
                exact am_r_acp K0 hr hS (by omega) hl.2.1 hs9 hd9 c1 c2 c3 c4 c5 (by rw [am_wd_map hfv]; exact c6) hok9 hdg (fun H1 locs1 hr1 hS1 => hk _ rfl LS H1 locs1 hl hr1 hS1)
              · cases e1
            · cases e1
          · cases e1
        · rename_i h98
          have hne : k' ≠ 9999 ∧ k' ≠ 9998 := by
            refine ⟨?_, h98⟩
            rintro rfl
            unfold am_inv at e1
            rw [List.getElem?_eq_none (by rw [am_m_len]; omega)] at e1
            cases e1
          exact am_s_inv (kind := 0) K0 (hC d' rfl) hmem hne hdg e1 hl hr hS hn0 hroom hk
      · cases e1
  case invokespecial ix =>
    have hln : len = 3 := hln
    subst hln
    replace hrs : (am_fnd am_pM q.2.2.2.2.1 ix).map _ = some i := hrs
    cases hf : am_fnd am_pM q.2.2.2.2.1 ix with
    | none => rw [hf] at hrs; cases hrs
    | some z =>
      rw [hf] at hrs
      cases hrs
      have hmem := am_fnd_mem hf
      obtain ⟨k', wi, nst⟩ := z
      dsimp only [am_ins] at e1
      split at e1
      · rename_i hok
        have hd9 : d ≠ 0 := by simpa using hok
        obtain ⟨d', rfl⟩ : ∃ d', d = d' + 1 := ⟨d - 1, by omega⟩
        split at e1
        · rename_i h99
          subst h99
          split at e1
          · rename_i a r
            split at e1
            · rename_i hw
              cases e1
              have hok9 := List.all_eq_true.mp am_M_ok _ hmem
              have hlink : (Cond.methodLink (am_cnm q.2.2.2.2.1) ix objectInit).before args s = true := hts.at (i := wi) (by unfold am_okM at hok9; rw [if_pos rfl] at hok9; exact hok9)
              refine W.objInit (g := F0 m pc LS (.ref (am_ad G a) :: r.map (am_cv G))) hx hb hown hlink (hts.sys (List.mem_of_getElem? (l := am_sys) (i := 0) rfl)) (hts.sys (List.mem_of_getElem? (l := am_sys) (i := 1) rfl)) rfl (by rw [hmx]; exact hl.2.1) rfl hdg (by omega) (by show 2 * 0 + _ + 12 ≤ _; rw [am_wd_map hfv]; omega) ?_
              exact hk _ rfl LS H locs hl hr hS
            · cases e1
          · cases e1
        · rename_i h99
          have hne : k' ≠ 9999 ∧ k' ≠ 9998 := by
            refine ⟨h99, ?_⟩
            rintro rfl
            unfold am_inv at e1
            rw [List.getElem?_eq_none (by rw [am_m_len]; omega)] at e1
            cases e1
          exact am_s_inv (kind := 2) K0 (hC d' rfl) hmem hne hdg e1 hl hr hS hn0 hroom hk
      · cases e1
  case ireturn =>
    cases (show some Instr.ireturn = some i from hrs)
    have hln : len = 1 := hln
    subst hln
    replace e1 : am_ret k st h = some x := e1
    unfold am_ret at e1
    rw [hq] at e1
    split at e1
    · rename_i v q2 hq2
      cases hq2
      split at e1
      · rename_i ty hty
        split at e1
        · rename_i hnv
          cases e1
          exact hret _ rfl (Or.inl ⟨v, ty, rfl, hty, hnv, hdg⟩)
        · cases e1
      · cases e1
    · cases e1
  case areturn =>
    cases (show some Instr.areturn = some i from hrs)
    have hln : len = 1 := hln
    subst hln
    replace e1 : am_rta k st h = some x := e1
    unfold am_rta at e1
    rw [hq] at e1
    split at e1
    · rename_i v q2 hq2
      cases hq2
      split at e1
      · rename_i nm hty
        cases e1
        exact hret _ rfl (Or.inr (Or.inl ⟨v, nm, rfl, hty, hdg⟩))
      · cases e1
    · cases e1
  case return_ =>
    cases (show some Instr.return_ = some i from hrs)
    have hln : len = 1 := hln
    subst hln
    replace e1 : am_rtv k st h = some x := e1
    unfold am_rtv at e1
    rw [hq] at e1
    split at e1
    · rename_i q2 hq2
      cases hq2
      split at e1
      · rename_i hty
        cases e1
        exact hret _ rfl (Or.inr (Or.inr ⟨rfl, hty, hdg⟩))
      · cases e1
    · cases e1
  all_goals (exact absurd hrs (by simp [am_rs]))
theorem am_body (K : am_Kx G stc p R s m args meth c k q d) (hC : ∀ d', d = d' + 1 → am_cts l G stc d') {r : am_R} {n0 z0 : Nat} (hroom : r.2.1 - n0 ≤ R.cells ∧ r.2.2.1 - z0 ≤ R.slots)
    (hret : ∀ (pc : Nat) (LS : Array Slot) (H : Heap) (locs : List Loc), am_rtd q pc r.1 → am_rel G stc r.2 H → va_S (am_A G) s.heap H locs → W p l e R s m args below meth c H locs (r.2.1 - n0) (r.2.2.1 - z0) Q (F0 m pc LS (r.1.toList.map (am_cv G)))) :
    ∀ (n pc : Nat) (ls : am_L) (st : List Value) (h : am_H) (LS : Array Slot) (H : Heap) (locs : List Loc), am_run (decide (d ≠ 0)) (am_cal d) k n (pc, ls, st, h) = some r → am_lr G q.2.2.1 ls LS → am_rel G stc h H → va_S (am_A G) s.heap H locs → n0 ≤ h.1 ∧ z0 ≤ h.2.1 → W p l e R s m args below meth c H locs (h.1 - n0) (h.2.1 - z0) Q (F0 m pc LS (st.map (am_cv G)))
  | 0, _, _, _, _, _, _, _, hrun, _, _, _, _ => by simp [am_run] at hrun
  | n + 1, pc, ls, st, h, LS, H, locs, hrun, hl, hr, hS, hn0 => by
    have hcl : ∀ k as h r, am_cal d k as h = some r → am_le h r.2 := am_cal_le d
    have hle := am_run_le hcl _ _ _ hrun
    unfold am_run at hrun
    cases hs : am_stp (decide (d ≠ 0)) (am_cal d) k (pc, ls, st, h) with
    | none => rw [hs] at hrun; cases hrun
    | some x =>
      rw [hs] at hrun
      unfold am_stp at hs
      cases hcd : am_code k pc with
      | none => rw [show am_code k (pc, ls, st, h).1 = none from hcd] at hs; cases hs
      | some ic =>
        obtain ⟨i, len⟩ := ic
        rw [show am_code k (pc, ls, st, h).1 = some (i, len) from hcd] at hs
        replace hs : am_ins (decide (d ≠ 0)) (am_cal d) k i pc (pc + len) ls st h = some x := hs
        obtain ⟨raw, c1, c2, c3⟩ := am_code_inv K.2.1 hcd
        have hle1 : am_le h (am_hp x) := am_ins_mono hcl hs
        have hle2 : am_le (am_hp x) r.2 := by
          cases x with
          | inl c' => exact am_run_le hcl _ _ _ hrun
          | inr r' => cases hrun; exact am_le.rf _
        refine am_step K hC c1 c2 c3 hs hl hr hS hn0 ⟨by have := hle2.1; omega, by have := hle2.2; omega⟩ (fun c' hc' => ?_) (fun r' hr' hrt => ?_)
        · subst hc'
          intro LS' H' locs' hl' hr'' hS'
          exact am_body K hC hroom hret n c'.1 c'.2.1 c'.2.2.1 c'.2.2.2 LS' H' locs' hrun hl' hr'' hS' ⟨Nat.le_trans hn0.1 hle1.1, Nat.le_trans hn0.2 hle1.2⟩
        · subst hr'
          cases hrun
          have hh : r.2 = h := by
            have key : ∀ {ret : am_X}, ret = some (.inr r) → (ret = am_ret k st h ∨ ret = am_rta k st h ∨ ret = am_rtv k st h) → r.2 = h := by
              intro ret h1 h2
              rcases h2 with h2 | h2 | h2
              · subst h2
                unfold am_ret at h1
                split at h1
                · split at h1
                  · split at h1
                    · cases h1; rfl
                    · cases h1
                  · cases h1
                · cases h1
              · subst h2
                unfold am_rta at h1
                split at h1
                · split at h1
                  · cases h1; rfl
                  · cases h1
                · cases h1
              · subst h2
                unfold am_rtv at h1
                split at h1
                · split at h1
                  · cases h1; rfl
                  · cases h1
                · cases h1
            rcases hrt with ⟨v, ty, -, -, -, hd⟩ | ⟨a, nm, -, -, hd⟩ | ⟨-, -, hd⟩
            · cases c1.symm.trans hd
              cases (show some Instr.ireturn = some i from c3)
              exact key hs (Or.inl rfl)
            · cases c1.symm.trans hd
              cases (show some Instr.areturn = some i from c3)
              exact key hs (Or.inr (Or.inl rfl))
            · cases c1.symm.trans hd
              cases (show some Instr.return_ = some i from c3)
              exact key hs (Or.inr (Or.inr rfl))
          rw [← hh] at hr ⊢
          exact hret pc LS H locs hrt hr hS
end AMB
theorem am_ofW {l : Launch} {y : MethodName} {ws ws' : List Cond} {rm : Room} {Pc : Array Value → State → Prop} {Qc : Array Value → State → Outcome → State → Prop} {mc ms : Nat} {free : Addr → Prop} {cc : ByteArray} {maxL : Nat} {ret : Option FieldType}
    (hy : plainFor y = true) (hw : ws = Cond.code y cc maxL ret :: ws')
    (body : ∀ p e s m args below meth c s₁, BodyLoose p l y (headSpec ws rm) cc maxL ret e s m args below meth c s₁ → c.maxLocals = maxL → Pc args s →
      W p l e (headSpec ws rm).room s m args below meth c s.heap [] 0 0 (MQ below Qc args s mc ms free) (entryFrame m args maxL)) : Met l y ws rm Pc Qc mc ms free := by
  refine MetFree.of_bodySF (code := cc) (maxLocals := maxL) (ret := ret) hy ?_ ?_
  · intro args s m h hn
    obtain ⟨meth, c, h1, h2, h3, h4, h5, h6, -, -⟩ := Cond.code_spec hn (atoms_spec (ws := ws) h _ (by rw [hw]; exact List.mem_cons_self))
    exact ⟨meth, c, h1, h2, h3, h4, h5, h6⟩
  · intro p e s m args below meth c s₁ B hml hP _
    have hh0 : s₁.heap = s.heap := by rw [B.state]; rfl
    obtain ⟨t, a1, o, b1, b2, b3⟩ := body p e s m args below meth c s₁ B hml hP s₁ hh0 (Stand.of_body B)
    exact ⟨t, o, a1, b1, b2, ⟨b3.1, b3.2⟩⟩
theorem am_isI_of {k : Nat} {q : am_M} (hq : am_mt[k]? = some q) (h : am_isI k = true) : q.2.2.2.2.2.2.2.1 = 2 := by
  unfold am_isI at h
  rw [hq] at h
  simpa using h
/-- every method, at every depth -/
theorem am_sound (l : Launch) (G : am_G) (stc : Nat → Option va_E) (hfv : am_fvOk G) (hsa : ∀ i j : Nat, i < 5 → j < 5 → G.2.2.1 (2 + i) = G.2.2.1 (2 + j) → i = j) : ∀ d, am_cts l G stc d := by
  intro d
  induction d with
  | zero => exact main 0 (fun d' h => by omega)
  | succ d ih => exact main (d + 1) (fun d' h => by cases h; exact ih)
where
  main (d : Nat) (hC : ∀ d', d = d' + 1 → am_cts l G stc d') : am_cts l G stc d := by
    intro k q as h r hq hk hwd hcal
    obtain ⟨ok1, ok2⟩ := am_mt_ok hq hk
    obtain ⟨m1, m2, m3, m4, m5, m6, m7, mp, m8, m9, m10, m11⟩ := am_mth ok1 ok2
    obtain ⟨n, hn⟩ := am_lim_some hcal
    rw [hq] at hn
    replace hn : am_run (decide (d ≠ 0)) (am_cal d) k n (0, am_ini q.2.2.1 as, [], h) = some r := hn
    refine am_ofW (cc := q.2.1) (maxL := q.2.2.1) (ret := q.2.2.2.1) mp rfl ?_
    intro p e s m args below meth c s₁ B hml hv
    obtain ⟨rfl, hen, hr⟩ := hv
    have hts0 := atoms_spec (ws := Cond.code q.1 q.2.1 q.2.2.1 q.2.2.2.1 :: am_gd) B.pre
    have hts : am_hts (as.map (am_cv G)).toArray s := am_hts.of (fun w hw => hts0 w (List.mem_cons_of_mem _ hw))
    have hown : s.vm.findClass (am_cnm q.2.2.2.2.1) = some m.cls := by rw [← m2]; exact findClass_of_methodNamed B.named
    have hlocks := B.notSynchronized
    have hret := B.returns
    have K : am_Kx G stc p (am_rm d (r.2.1 - h.1) (r.2.2.1 - h.2.1)) s m (as.map (am_cv G)).toArray meth c k q d := ⟨B.exec, hq, B.bytes, hml, hown, hts, hen, fun hi => (name_of_methodNamed B.named B.method).1.trans (m6 (am_isI_of hq hi)).1, ⟨Nat.le_refl _, Nat.le_refl _⟩, by rw [hr.1]; exact Nat.le_add_right _ _, hfv, hsa⟩
    rw [lg_entry_eq]
    have := am_body (below := below) (e := e) (Q := MQ below (am_Qc G stc r.1 r.2) (as.map (am_cv G)).toArray s (r.2.1 - h.1) (r.2.2.1 - h.2.1) (am_A G)) (n0 := h.1) (z0 := h.2.1) (r := r) K hC ⟨Nat.le_refl _, Nat.le_refl _⟩ (fun pc LS H locs hrt hrel hS => ?_) n 0 (am_ini q.2.2.1 as) [] h _ s.heap [] hn (am_lr.ini hfv hwd) hr va_S.rf ⟨Nat.le_refl _, Nat.le_refl _⟩
    · rw [Nat.sub_self, Nat.sub_self] at this
      exact this
    · rcases hrt with ⟨v, ty, e1, e2, e3, e4⟩ | ⟨a, nm, e1, e2, e3⟩ | ⟨e1, e2, e3⟩
      · have hq2 : ∀ t : State, t.heap = H → s.WarmedH t.vm → am_Qc G stc r.1 r.2 (as.map (am_cv G)).toArray s (.returned (some (.int v))) t := fun t ht _ => ⟨by rw [e1]; rfl, by rw [ht]; exact hrel, hS.F ht⟩
        rw [e1]
        exact W.zret B.exec B.bytes (hret.trans e2) e3 (by rw [e1] at hq2; exact hq2) hS.2.2 e4 hlocks
      · have hq2 : ∀ t : State, t.heap = H → s.WarmedH t.vm → am_Qc G stc r.1 r.2 (as.map (am_cv G)).toArray s (.returned (some (.ref (am_ad G a)))) t := fun t ht _ => ⟨by rw [e1]; rfl, by rw [ht]; exact hrel, hS.F ht⟩
        rw [e1]
        exact W.aret B.exec B.bytes (hret.trans e2) (Or.inl ⟨nm, rfl⟩) (Or.inr ⟨_, rfl⟩) (by rw [e1] at hq2; exact hq2) hS.2.2 e3 hlocks
      · have hq2 : ∀ t : State, t.heap = H → s.WarmedH t.vm → am_Qc G stc r.1 r.2 (as.map (am_cv G)).toArray s (.returned none) t := fun t ht _ => ⟨by rw [e1]; rfl, by rw [ht]; exact hrel, hS.F ht⟩
        rw [e1]
        exact W.vret B.exec B.bytes (hret.trans e2) (by rw [e1] at hq2; exact hq2) hS.2.2 e3 hlocks
