/-! calls -/
theorem am_en.same {G : am_G} {stc : Nat → Option va_E} {u U : State} {H : Heap} (h : am_en G stc u H) (hv : U.vm = u.vm) : am_en G stc U H := by
  obtain ⟨h1, h2, h3, h4, h5, h6, h7⟩ := h
  have ha : u.vm.Alike U.vm := by rw [hv]; exact Vm.Alike.refl _
  exact ⟨va_K.moved ha h1, fun j c hj => (h2 j c hj).move ha (fun _ _ _ => rfl), fun j q hj => va_Z.moved ha (h3 j q hj), fun q hq => vk_R.same hv (h4 q hq), fun q hq hn => va_Nw.same rfl hv.symm (h5 q hq hn), fun q hq hn => va_Nw.same rfl hv.symm (h6 q hq hn), fun t ht => va_AO.moved ha (h7 t ht)⟩
def am_Pc (G : am_G) (stc : Nat → Option va_E) (as : List Value) (h : am_H) : Array Value → State → Prop := va_Pc (as.map (am_cv G)) (fun U => am_en G stc U U.heap ∧ am_rel G stc h U.heap)
def am_Qc (G : am_G) (stc : Nat → Option va_E) (rv : Option Value) (h' : am_H) : Array Value → State → Outcome → State → Prop := fun _ st o t => o = .returned (rv.map (am_cv G)) ∧ am_rel G stc h' t.heap ∧ va_F (am_A G) st t
def am_rm (d mc ms : Nat) : Room := { frames := d, cells := mc, slots := ms, locals := 36 * d }
/-- a method's contract -/
def am_Ct (l : Launch) (G : am_G) (stc : Nat → Option va_E) (d : Nat) (q : am_M) (as : List Value) (h : am_H) (rv : Option Value) (h' : am_H) : Prop :=
  Met l q.1 (Cond.code q.1 q.2.1 q.2.2.1 q.2.2.2.1 :: am_gd) (am_rm d (h'.1 - h.1) (h'.2.1 - h.2.1)) (am_Pc G stc as h) (am_Qc G stc rv h') (h'.1 - h.1) (h'.2.1 - h.2.1) (am_A G)
theorem am_blind (G : am_G) (stc : Nat → Option va_E) (as : List Value) (h : am_H) : FrameBlind (am_Pc G stc as h) := fun a U g mk hq => ⟨hq.1, am_en.same hq.2.1 rfl, hq.2.2⟩
theorem am_pop_spec : ∀ (n : Nat) (acc st as r : List Value), am_pop n acc st = some (as, r) → ∃ bs, bs.length = n ∧ st = bs.reverse ++ r ∧ as = bs ++ acc
  | 0, acc, st, as, r, h => by
    simp only [am_pop, Option.some.injEq, Prod.mk.injEq] at h
    exact ⟨[], rfl, by simp [h.2], by simp [h.1]⟩
  | n + 1, acc, [], as, r, h => by simp [am_pop] at h
  | n + 1, acc, v :: st, as, r, h => by
    simp only [am_pop] at h
    obtain ⟨bs, h1, h2, h3⟩ := am_pop_spec n (v :: acc) st as r h
    refine ⟨bs ++ [v], by simp [h1], by simp [h2], by simp [h3]⟩
theorem am_wd_map {G : am_G} (hf : am_fvOk G) (r : List Value) : ((r.map (am_cv G)).map fun v => v.category).sum = am_wd r := by
  unfold am_wd
  rw [List.map_map]
  congr 1
  exact List.map_congr_left (fun v _ => am_cat hf v)
section AMC
variable {p : Program} {l : Launch} {e : Env} {R : Room} {s : State} {m : MethodId} {args : Array Value} {below : List Frame} {meth : Method} {c : Code} {H : Heap} {locs : List Loc} {cells slots : Nat} {Q : State → Prop}
variable {pc : Nat} {LS : Array Slot} {rest st0 : List Value} {G : am_G} {stc : Nat → Option va_E} {h h' : am_H} {k d : Nat} {q : am_M}
theorem am_fin {a : Array Value} {mc ms : Nat} {rv : Option Value} (hr : va_Run p l e R s m args below meth c H locs cells slots mc ms (F0 m pc LS st0) rest (am_Qc G stc rv h' a) (am_A G)) (hS : va_S (am_A G) s.heap H locs)
    (kk : ∀ H1 locs1, am_rel G stc h' H1 → va_S (am_A G) s.heap H1 locs1 → W p l e R s m args below meth c H1 locs1 (cells + mc) (slots + ms) Q (F0 m (pc + 3) LS ((rv.map (am_cv G)).toList ++ rest))) : W p l e R s m args below meth c H locs cells slots Q (F0 m pc LS st0) := by
  intro T hT X
  obtain ⟨v, st₀, t, T', L, h0, X', hL, e1, e2, ⟨hv, hrel, hz, hk⟩, st⟩ := hr T hT X
  cases hv
  rw [h0] at hz hk
  obtain ⟨t2, a1, b1⟩ := kk T'.heap (locs ++ L) (by rw [e1]; exact hrel)
    ⟨Nat.le_trans hS.1 (by rw [e1]; exact hz), fun q h1 h2 => by rw [e1, hk q (Nat.lt_of_lt_of_le h1 hS.1) h2]; exact hS.2.1 q h1 h2, fun q hq => by
      rcases List.mem_append.mp hq with h | h
      · exact hS.2.2 q h
      · exact hL q h⟩ T' rfl X'
  exact ⟨t2, st t2 a1, b1⟩
theorem am_good : ∀ w ∈ am_gd, w ∈ am_gd ∧ ((w.onTables && w.keeps) = true ∨ ∃ ty, w = .arrayClass ty) := fun w hw => ⟨hw, good_of_word (List.mem_filter.mp hw).2⟩
/-- what the tables say of a method that is called -/
theorem am_mth {q : am_M} (h1 : am_okm q = true) (h2 : am_cwP q) : Cond.code q.1 q.2.1 q.2.2.1 q.2.2.2.1 ∈ am_gd ∧ q.1.cls = am_cnm q.2.2.2.2.1 ∧ (if q.2.2.2.2.2.2.2.1 = 0 then Cond.static q.1 ∈ am_gd else Cond.instanceMethod q.1 ∈ am_gd) ∧ Cond.initialized q.1.cls ∈ am_gd ∧ (q.2.2.2.2.2.2.2.1 = 1 → Cond.selects q.1.cls q.1 q.1 ∈ am_gd) ∧ (q.2.2.2.2.2.2.2.1 = 2 → q.1.name = "<init>" ∧ q.2.2.2.1 = none) ∧ (q.1.cls ≠ "java/lang/invoke/MethodHandle" ∧ q.1.cls ≠ "java/lang/invoke/VarHandle") ∧ plainFor q.1 = true
    ∧ (parseMethodDescriptor q.1.desc).map (fun d => d.parameters.length) = some (if q.2.2.2.2.2.2.2.1 = 0 then q.2.2.2.2.2.1 else q.2.2.2.2.2.1 - 1) ∧ (q.2.2.2.2.2.2.2.1 = 0 ∨ 0 < q.2.2.2.2.2.1) ∧ q.2.2.1 ≤ 17 ∧ q.2.2.2.2.2.2.2.1 ≤ 2 := by
  have hin : ∀ {i : Nat} {w : Cond}, am_w i w = true → w ∈ am_gd := fun hw => by
    unfold am_w at hw
    simp only [Bool.and_eq_true, decide_eq_true_eq] at hw
    exact List.mem_filter.mpr ⟨List.mem_of_getElem? hw.1, hw.2⟩
  unfold am_okm at h1
  simp only [Bool.and_eq_true, decide_eq_true_eq, Bool.or_eq_true] at h1
  obtain ⟨⟨⟨⟨⟨⟨⟨⟨⟨⟨⟨a1, a2⟩, a3⟩, a4⟩, a5⟩, a6⟩, a7⟩, a8⟩, a9⟩, a10⟩, a11⟩, a12⟩ := h1
  refine ⟨List.mem_filter.mpr ⟨List.mem_of_getElem? h2, rfl⟩, a1, ?_, hin a3, fun hk => ?_, fun hk => ?_, a6, a7, a8, a9, a10, a11⟩
  · split
    · rename_i hk; rw [if_pos hk] at a2; exact hin a2
    · rename_i hk; rw [if_neg hk] at a2; exact hin a2
  · rw [if_pos hk] at a4; exact hin a4
  · rw [if_pos hk] at a5
    simpa using a5
theorem am_r_call (K : am_Kx G stc p R s m args meth c k q (d + 1)) (hr : am_rel G stc h H) (hS : va_S (am_A G) s.heap H locs) (hml : LS.size = q.2.2.1) {k' : Nat} {q' : am_M} (hq' : am_mt[k']? = some q') (hk' : k' < 223) {as rs : List Value} {rv : Option Value} (hC : am_Ct l G stc d q' as h rv h') (hn : as.length = q'.2.2.2.2.2.1) (hw : am_wd rs ≤ 8) (hrec : q'.2.2.2.2.2.2.2.1 ≠ 0 → ∃ a As, as = .ref a :: As ∧ (q'.2.2.2.2.2.2.2.1 = 2 ∨ am_is (am_at h a) (am_rc q'.2.2.2.2.1) = true))
    {idx wi nst : Nat} (hp : (q.2.2.2.2.1, idx, k', wi, nst) ∈ am_pM) (hdg : decode q.2.1 pc = .ok (if q'.2.2.2.2.2.2.2.1 = 0 then .invokestatic idx else if q'.2.2.2.2.2.2.2.1 = 1 then .invokevirtual idx else .invokespecial idx, 3)) (hv1 : nst ≠ 0 → q'.2.2.2.2.2.2.2.1 ≠ 1) (hroom : cells + (h'.1 - h.1) ≤ R.cells ∧ slots + (h'.2.1 - h.2.1) ≤ R.slots)
    (kk : ∀ H1 locs1, am_rel G stc h' H1 → va_S (am_A G) s.heap H1 locs1 → W p l e R s m args below meth c H1 locs1 (cells + (h'.1 - h.1)) (slots + (h'.2.1 - h.2.1)) Q (F0 m (pc + 3) LS ((rv.map (am_cv G)).toList ++ rs.map (am_cv G)))) : W p l e R s m args below meth c H locs cells slots Q (F0 m pc LS ((as.reverse ++ rs).map (am_cv G))) := by
  have K0 := K
  obtain ⟨hx, -, hb, hmx, hown, hts, hen, -, ⟨hR1, hR2⟩, hB, hfv, -⟩ := K
  obtain ⟨ok1, ok2⟩ := am_mt_ok hq' hk'
  obtain ⟨m1, m2, m3, m4, m5, m6, m7, -, m8, m9, m10, m11⟩ := am_mth ok1 ok2
  have hokM := List.all_eq_true.mp am_M_ok _ hp
  have hmt : am_mt.getD k' am_md = q' := by rw [List.getD_eq_getElem?_getD, hq']; rfl
  unfold am_okM at hokM
  rw [if_neg (show ¬ k' = 9999 by omega), if_neg (show ¬ k' = 9998 by omega)] at hokM
  simp only [Bool.and_eq_true] at hokM
  replace hokM := hokM.2
  have hG : GoodIn am_gd (Cond.code q'.1 q'.2.1 q'.2.2.1 q'.2.2.2.1 :: am_gd) := fun w hw => by
    rcases List.mem_cons.mp hw with rfl | hw
    · exact am_good _ m1
    · exact am_good w hw
  have hrm : (am_rm d (h'.1 - h.1) (h'.2.1 - h.2.1)).frames + 1 ≤ R.frames ∧ 8 + (q'.2.2.1 + 11) + (am_rm d (h'.1 - h.1) (h'.2.1 - h.2.1)).locals ≤ R.locals := by
    constructor
    · exact hR1
    · show 8 + (q'.2.2.1 + 11) + 36 * d ≤ _
      omega
  have hfix : CallFix p m c q.2.1 q.2.2.1 s args am_gd (am_cnm q.2.2.2.2.1) := ⟨hx, hb, hmx, hown, hts.gd⟩
  have hPre : ∀ U : State, U.heap = H → s.WarmedH U.vm → am_Pc G stc as h (as.map (am_cv G)).toArray U := fun U hU hW => ⟨rfl, by rw [hU]; exact hen.move hW hS.2.1, by rw [hU]; exact hr⟩
  have hwd : 2 * (F0 m pc LS ((as.reverse ++ rs).map (am_cv G))).monitorRoom + ((rs.map (am_cv G)).map fun v => v.category).sum ≤ 8 := by
    show 2 * 0 + _ ≤ 8
    rw [am_wd_map hfv]
    omega
  have hdesc := m8
  rcases (show q'.2.2.2.2.2.2.2.1 = 0 ∨ q'.2.2.2.2.2.2.2.1 = 1 ∨ q'.2.2.2.2.2.2.2.1 = 2 by omega) with hk0 | hk1 | hk2
  · rw [if_pos hk0] at hdg hdesc m3
    have hstack : ((as.reverse ++ rs).map (am_cv G)) = (as.map (am_cv G)).reverse ++ rs.map (am_cv G) := by rw [List.map_append, List.map_reverse]
    refine am_fin (rest := rs.map (am_cv G)) (a := (as.map (am_cv G)).toArray) ?_ hS kk
    by_cases hn0 : nst = 0
    · subst hn0
      rw [if_pos rfl] at hokM
      rw [hmt] at hokM
      exact va_runS (As := as.map (am_cv G)) hfix hC ⟨callB_of _ hts.gd hG rfl rfl rfl (hts.gd _ m4) (hts.at hokM) ⟨m7.1, m7.2, hdesc⟩ hrm, hts.gd _ m3⟩ ⟨am_blind G stc as h, hPre⟩ rfl (by rw [List.length_map]; exact hn) hml hstack hwd hdg hroom
    · have hl := hen.2.2.2.2.1 _ hp hn0
      rw [show (q.2.2.2.2.1, idx, k', wi, nst).2.2.1 = k' from rfl, hmt] at hl
      exact va_runSN (As := as.map (am_cv G)) hfix hC ⟨va_cnB _ hts.gd hG rfl rfl rfl hl (hts.gd _ m4) ⟨m7.1, m7.2, hdesc⟩ hrm, hts.gd _ m3, trivial⟩ ⟨am_blind G stc as h, hPre⟩ rfl (by rw [List.length_map]; exact hn) hml hstack hwd hdg hroom
  · have hne : ¬ q'.2.2.2.2.2.2.2.1 = 0 := by omega
    rw [if_neg hne, if_pos hk1] at hdg
    rw [if_neg hne] at hdesc m3
    obtain ⟨a, As, rfl, hrc⟩ := hrec hne
    have hrc : am_is (am_at h a) (am_rc q'.2.2.2.2.1) = true := by
      rcases hrc with h9 | h9
      · omega
      · exact h9
    have hn0 : nst = 0 := by
      by_cases hz : nst = 0
      · exact hz
      · exact absurd hk1 (hv1 hz)
    subst hn0
    rw [if_pos rfl] at hokM
    rw [hmt] at hokM
    have hstack : (((Value.ref a :: As).reverse ++ rs).map (am_cv G)) = (As.map (am_cv G)).reverse ++ .ref (am_ad G a) :: rs.map (am_cv G) := by simp [am_cv]
    have hlen : As.length = q'.2.2.2.2.2.1 - 1 := by
      have : As.length + 1 = q'.2.2.2.2.2.1 := by simpa using hn
      omega
    have hcell : ∃ cellB : Cell, H[am_ad G a]? = some cellB ∧ cellB.vm.isStatics = false ∧ s.vm.findClass q'.1.cls = some cellB.cls := by
      cases hat : am_at h a with
      | none => rw [hat] at hrc; cases hrc
      | some ce =>
        rw [hat] at hrc
        match ce, hat, hrc with
        | .inr (ci, fs), hat, hrc =>
          have hci : ci = am_rc q'.2.2.2.2.1 := by simpa [am_is] using hrc
          rcases hr.look hat with ⟨b1, b2, b3, b4, b5⟩ | ⟨j, rfl, b2, b3⟩
          · have hlt : ci < 9 := b2
            have hcc : ci = q'.2.2.2.2.1 := by
              unfold am_rc at hci
              split at hci
              · exact hci
              · split at hci
                · omega
                · split at hci <;> omega
            rw [b4, m2, ← hcc]
            exact va_recv hen.1 hr.2.2.1 (am_cl_at hlt) b5
          · have h9 := hen.2.1 j _ b2
            obtain ⟨cell, g1, g2, g3, -⟩ := h9.1.kept hS.2.1
            refine ⟨cell, by rw [b3]; exact g1, g2, ?_⟩
            rw [m2]
            have h10 : ci = 20 ∨ ci = 21 := h9.2.1
            have : am_cnm q'.2.2.2.2.1 = am_roN ci := by
              unfold am_rc at hci
              split at hci
              · omega
              · split at hci
                · rename_i e1; rw [e1, hci]; rfl
                · split at hci
                  · rename_i e1; rw [e1, hci]; rfl
                  · omega
            rw [this]
            exact g3
    refine am_fin (rest := rs.map (am_cv G)) (a := ((Value.ref a :: As).map (am_cv G)).toArray) ?_ hS kk
    exact va_runV (C := q'.1.cls) (As := As.map (am_cv G)) (b := am_ad G a) hfix hC ⟨callB_of _ hts.gd hG rfl rfl rfl (hts.gd _ m4) (hts.at hokM) ⟨m7.1, m7.2, hdesc⟩ hrm, hts.gd _ m3, hts.gd _ (m5 hk1)⟩ ⟨am_blind G stc _ h, hcell, hPre⟩ rfl (by rw [List.length_map]; exact hlen) hml hstack hwd hdg hroom
  · have hne : ¬ q'.2.2.2.2.2.2.2.1 = 0 := by omega
    have hne1 : ¬ q'.2.2.2.2.2.2.2.1 = 1 := by omega
    rw [if_neg hne, if_neg hne1] at hdg
    rw [if_neg hne] at hdesc m3
    obtain ⟨a, As, rfl, -⟩ := hrec hne
    obtain ⟨i1, i2⟩ := m6 hk2
    have hstack : (((Value.ref a :: As).reverse ++ rs).map (am_cv G)) = (As.map (am_cv G)).reverse ++ .ref (am_ad G a) :: rs.map (am_cv G) := by simp [am_cv]
    have hlen : As.length = q'.2.2.2.2.2.1 - 1 := by
      have : As.length + 1 = q'.2.2.2.2.2.1 := by simpa using hn
      omega
    refine am_fin (rest := rs.map (am_cv G)) (a := ((Value.ref a :: As).map (am_cv G)).toArray) ?_ hS kk
    unfold am_Ct at hC
    rw [i2] at hC hG
    by_cases hn0 : nst = 0
    · subst hn0
      rw [if_pos rfl] at hokM
      rw [hmt] at hokM
      exact va_runI (As := As.map (am_cv G)) (b := am_ad G a) hfix hC ⟨callB_of _ hts.gd hG rfl rfl rfl (hts.gd _ m4) (hts.at hokM) ⟨m7.1, m7.2, hdesc⟩ hrm, i1, hts.gd _ m3⟩ ⟨am_blind G stc _ h, hPre⟩ rfl (by rw [List.length_map]; exact hlen) hml hstack hwd hdg hroom
    · have hl := hen.2.2.2.2.1 _ hp hn0
      rw [show (q.2.2.2.2.1, idx, k', wi, nst).2.2.1 = k' from rfl, hmt] at hl
      exact va_runIN (As := As.map (am_cv G)) (b := am_ad G a) hfix hC ⟨va_cnB _ hts.gd hG rfl rfl rfl hl (hts.gd _ m4) ⟨m7.1, m7.2, hdesc⟩ hrm, i1, hts.gd _ m3⟩ ⟨am_blind G stc _ h, hPre⟩ rfl (by rw [List.length_map]; exact hlen) hml hstack hwd hdg hroom
end AMC
