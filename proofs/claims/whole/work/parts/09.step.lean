/-! every step -/
def am_hp : am_C ⊕ am_R → am_H
  | .inl c => c.2.2.2
  | .inr r => r.2
def am_le (h h' : am_H) : Prop := h.1 ≤ h'.1 ∧ h.2.1 ≤ h'.2.1
theorem am_le.rf (h : am_H) : am_le h h := ⟨Nat.le_refl _, Nat.le_refl _⟩
theorem am_le.tr {a b c : am_H} (h1 : am_le a b) (h2 : am_le b c) : am_le a c := ⟨Nat.le_trans h1.1 h2.1, Nat.le_trans h1.2 h2.2⟩
theorem am_go_hp {pc : Nat} {ls : am_L} {st : List Value} {h : am_H} {x : am_C ⊕ am_R} (e : am_go pc ls st h = some x) : am_hp x = h := by
  cases e; rfl
theorem am_le_set (h : am_H) (a : Nat) (c : va_E) : am_le h (am_set h a c) := am_le.rf h
theorem am_le_new (h : am_H) (n : Nat) (c : va_E) : am_le h (am_new h n c) := ⟨Nat.le_succ _, Nat.le_add_right _ _⟩
theorem am_back_le {pc : Nat} {ls : am_L} {st : List Value} {h : am_H} {r : Option am_R} {x : am_C ⊕ am_R} (e : am_back pc ls st r = some x) (hr : ∀ r', r = some r' → am_le h r'.2) : am_le h (am_hp x) := by
  unfold am_back at e
  split at e
  · cases e
  · rw [am_go_hp e]; exact hr _ rfl
  · rw [am_go_hp e]; exact hr _ rfl
set_option maxHeartbeats 4000000 in
theorem am_ins_mono {ok : Bool} {call : Nat → List Value → am_H → Option am_R} (hc : ∀ k as h r, call k as h = some r → am_le h r.2) {k : Nat} {i : Instr} {pc0 pc : Nat} {ls : am_L} {st : List Value} {h : am_H} {x : am_C ⊕ am_R} (e : am_ins ok call k i pc0 pc ls st h = some x) : am_le h (am_hp x) := by
  have go : ∀ {pc : Nat} {ls : am_L} {st : List Value} {x : am_C ⊕ am_R}, am_go pc ls st h = some x → am_le h (am_hp x) := fun e => by rw [am_go_hp e]; exact am_le.rf h
  have gs : ∀ {pc : Nat} {ls : am_L} {st : List Value} {x : am_C ⊕ am_R} {a : Nat} {c : va_E}, am_go pc ls st (am_set h a c) = some x → am_le h (am_hp x) := fun e => by rw [am_go_hp e]; exact am_le_set _ _ _
  have gn : ∀ {pc : Nat} {ls : am_L} {st : List Value} {x : am_C ⊕ am_R} {a : Nat} {c : va_E}, am_go pc ls st (am_new h a c) = some x → am_le h (am_hp x) := fun e => by rw [am_go_hp e]; exact am_le_new _ _ _
  have gi : ∀ {kind n pc : Nat} {ls : am_L} {st : List Value} {x : am_C ⊕ am_R}, am_inv kind call n pc ls st h = some x → am_le h (am_hp x) := by
    intro kind n pc ls st x e
    unfold am_inv at e
    split at e
    · cases e
    · split at e
      · cases e
      · split at e
        · split at e
          · exact am_back_le e (fun r' hr => hc _ _ _ _ hr)
          · split at e
            · split at e
              · exact am_back_le e (fun r' hr => hc _ _ _ _ hr)
              · cases e
            · cases e
        · cases e
  have rt : ∀ {v : Option Value} {x : am_C ⊕ am_R}, (some (.inr (v, h)) : am_X) = some x → am_le h (am_hp x) := fun e => by cases e; exact am_le.rf h
  unfold am_ins at e
  split at e
  all_goals first
    | exact go e
    | exact gi e
    | (cases e; done)
    | (try simp only [am_ld, am_bin, am_div, am_lbin, am_ldv, am_stI, am_stA, am_stL, am_inc, am_tab, am_gf, am_pf, am_ial, am_aal, am_ias, am_aas, am_aln, am_nw, am_nwa, am_nwq, am_acp, am_ret, am_rta, am_rtv] at e
       repeat' split at e
       all_goals first
         | exact go e
         | exact gs e
         | exact gn e
         | exact gi e
         | exact rt e
         | (cases e; done))
theorem am_run_le {ok : Bool} {call : Nat → List Value → am_H → Option am_R} (hc : ∀ k as h r, call k as h = some r → am_le h r.2) {k : Nat} : ∀ (n : Nat) (c : am_C) (r : am_R), am_run ok call k n c = some r → am_le c.2.2.2 r.2
  | 0, _, _, h => by simp [am_run] at h
  | n + 1, c, r, h => by
    unfold am_run at h
    cases hs : am_stp ok call k c with
    | none => rw [hs] at h; cases h
    | some x =>
      rw [hs] at h
      have hx : am_le c.2.2.2 (am_hp x) := by
        unfold am_stp at hs
        split at hs
        · cases hs
        · exact am_ins_mono hc hs
      cases x with
      | inl c' => exact hx.tr (am_run_le hc n c' r h)
      | inr r' => cases h; exact hx
theorem am_cal_le : ∀ (d k : Nat) (as : List Value) (h : am_H) (r : am_R), am_cal d k as h = some r → am_le h r.2
  | 0, _, _, _, _, h => by cases h
  | d + 1, k, as, h, r, e => by
    obtain ⟨n, hn⟩ := am_lim_some e
    exact am_run_le (fun k as h r q => am_cal_le d k as h r q) n _ r hn
def am_rtd (q : am_M) (pc : Nat) (rv : Option Value) : Prop := (∃ v ty, rv = some (.int v) ∧ q.2.2.2.1 = some ty ∧ narrow ty (.int v) = .int v ∧ decode q.2.1 pc = .ok (.ireturn, 1)) ∨ (∃ a n, rv = some (.ref a) ∧ q.2.2.2.1 = some (.object n) ∧ decode q.2.1 pc = .ok (.areturn, 1)) ∨ (rv = none ∧ q.2.2.2.1 = none ∧ decode q.2.1 pc = .ok (.return_, 1))
theorem am_nst_ok : ∀ q ∈ am_pM, q.2.2.2.2 ≠ 0 → (am_mt.getD q.2.2.1 am_md).2.2.2.2.2.2.2.1 ≠ 1 := by decide +kernel
theorem am_mt_lt {k : Nat} {q : am_M} (h : am_mt[k]? = some q) : k < 224 := by
  have := (List.getElem?_eq_some_iff.mp h).1
  rw [am_m_len] at this
  exact this
section AMS
variable {p : Program} {l : Launch} {e : Env} {R : Room} {s : State} {m : MethodId} {args : Array Value} {below : List Frame} {meth : Method} {c : Code} {H : Heap} {locs : List Loc} {Q : State → Prop}
variable {pc : Nat} {LS : Array Slot} {G : am_G} {stc : Nat → Option va_E} {k d : Nat} {q : am_M}
/-- what a step must lead on to -/
def am_nx (G : am_G) (stc : Nat → Option va_E) (p : Program) (l : Launch) (e : Env) (R : Room) (s : State) (m : MethodId) (args : Array Value) (below : List Frame) (meth : Method) (c : Code) (Q : State → Prop) (nL n0 z0 : Nat) (c' : am_C) : Prop :=
  ∀ LS' H' locs', am_lr G nL c'.2.1 LS' → am_rel G stc c'.2.2.2 H' → va_S (am_A G) s.heap H' locs' → W p l e R s m args below meth c H' locs' (c'.2.2.2.1 - n0) (c'.2.2.2.2.1 - z0) Q (F0 m c'.1 LS' (c'.2.2.1.map (am_cv G)))
theorem am_code_inv {i : Instr} {n : Nat} (hq : am_mt[k]? = some q) (hc : am_code k pc = some (i, n)) : ∃ raw, decode q.2.1 pc = .ok (raw, n) ∧ n = am_ln n raw ∧ am_rs q.2.2.2.2.1 pc raw = some i := by
  unfold am_code at hc
  rw [hq] at hc
  dsimp only at hc
  cases hd : decode q.2.1 pc with
  | error er => rw [hd] at hc; cases hc
  | ok x =>
    obtain ⟨raw, n'⟩ := x
    rw [hd] at hc
    dsimp only at hc
    split at hc
    · rename_i hn
      cases hr : am_rs q.2.2.2.2.1 pc raw with
      | none => rw [hr] at hc; cases hc
      | some j =>
        rw [hr] at hc
        cases hc
        exact ⟨raw, rfl, hn, hr⟩
    · cases hc
theorem am_tgt {pc : Nat} {o : Int} (h : 0 ≤ (pc : Int) + o) : (pc : Int) + o = (((pc : Int) + o).toNat : Int) := by omega
theorem am_s_ld0 (K : am_Kx G stc p R s m args meth c k q d) {ls : am_L} {st : List Value} {h : am_H} {n0 z0 i len : Nat} {x : am_C ⊕ am_R} (hdg : decode q.2.1 pc = .ok (.iload i, 2) ∧ len = 2 ∨ ∃ f : Fin 4, f.val = i ∧ decode q.2.1 pc = .ok (.iload_n f, 1) ∧ len = 1) (e1 : am_ld 0 (pc + len) ls i st h = some x) (hl : am_lr G q.2.2.1 ls LS) (hr : am_rel G stc h H) (hS : va_S (am_A G) s.heap H locs)
    (hk : ∀ c', x = .inl c' → am_nx G stc p l e R s m args below meth c Q q.2.2.1 n0 z0 c') : W p l e R s m args below meth c H locs (h.1 - n0) (h.2.1 - z0) Q (F0 m pc LS (st.map (am_cv G))) := by
  obtain ⟨hx, -, hb, -⟩ := K
  unfold am_ld at e1
  split at e1
  · rename_i v hv
    rw [if_pos rfl] at e1
    cases e1
    have kn := hk _ rfl LS H locs hl hr hS
    rcases hdg with ⟨h1, rfl⟩ | ⟨f, hf, h1, rfl⟩
    · exact lv_iload hx hb h1 (hl.get hv) kn
    · exact lv_iload_n hx hb h1 hf (hl.get hv) kn
  · rw [if_neg (by decide)] at e1; cases e1
  · rw [if_neg (by decide)] at e1; cases e1
  · cases e1
theorem am_s_ld1 (K : am_Kx G stc p R s m args meth c k q d) {ls : am_L} {st : List Value} {h : am_H} {n0 z0 i len : Nat} {x : am_C ⊕ am_R} (hdg : decode q.2.1 pc = .ok (.aload i, 2) ∧ len = 2 ∨ ∃ f : Fin 4, f.val = i ∧ decode q.2.1 pc = .ok (.aload_n f, 1) ∧ len = 1) (e1 : am_ld 1 (pc + len) ls i st h = some x) (hl : am_lr G q.2.2.1 ls LS) (hr : am_rel G stc h H) (hS : va_S (am_A G) s.heap H locs)
    (hk : ∀ c', x = .inl c' → am_nx G stc p l e R s m args below meth c Q q.2.2.1 n0 z0 c') : W p l e R s m args below meth c H locs (h.1 - n0) (h.2.1 - z0) Q (F0 m pc LS (st.map (am_cv G))) := by
  obtain ⟨hx, -, hb, -⟩ := K
  unfold am_ld at e1
  split at e1
  · rw [if_neg (by decide)] at e1; cases e1
  · rename_i v hv
    rw [if_pos rfl] at e1
    cases e1
    have kn := hk _ rfl LS H locs hl hr hS
    rcases hdg with ⟨h1, rfl⟩ | ⟨f, hf, h1, rfl⟩
    · exact lv_aload hx hb h1 (hl.get hv) kn
    · exact lv_aload_n hx hb h1 hf (hl.get hv) kn
  · rw [if_neg (by decide)] at e1; cases e1
  · cases e1
theorem am_s_ld2 (K : am_Kx G stc p R s m args meth c k q d) {ls : am_L} {st : List Value} {h : am_H} {n0 z0 i len : Nat} {x : am_C ⊕ am_R} (hdg : decode q.2.1 pc = .ok (.lload i, 2) ∧ len = 2 ∨ ∃ f : Fin 4, f.val = i ∧ decode q.2.1 pc = .ok (.lload_n f, 1) ∧ len = 1) (e1 : am_ld 2 (pc + len) ls i st h = some x) (hl : am_lr G q.2.2.1 ls LS) (hr : am_rel G stc h H) (hS : va_S (am_A G) s.heap H locs)
    (hk : ∀ c', x = .inl c' → am_nx G stc p l e R s m args below meth c Q q.2.2.1 n0 z0 c') : W p l e R s m args below meth c H locs (h.1 - n0) (h.2.1 - z0) Q (F0 m pc LS (st.map (am_cv G))) := by
  obtain ⟨hx, -, hb, -⟩ := K
  unfold am_ld at e1
  split at e1
  · rw [if_neg (by decide)] at e1; cases e1
  · rw [if_neg (by decide)] at e1; cases e1
  · rename_i v hv
    rw [if_pos rfl] at e1
    cases e1
    have kn := hk _ rfl LS H locs hl hr hS
    rcases hdg with ⟨h1, rfl⟩ | ⟨f, hf, h1, rfl⟩
    · exact lv_lload hx hb h1 (hl.get hv) kn
    · exact lv_lload_n hx hb h1 hf (hl.get hv) kn
  · cases e1
theorem am_s_stI (K : am_Kx G stc p R s m args meth c k q d) {ls : am_L} {st : List Value} {h : am_H} {n0 z0 i len : Nat} {x : am_C ⊕ am_R} (hdg : decode q.2.1 pc = .ok (.istore i, 2) ∧ len = 2 ∨ ∃ f : Fin 4, f.val = i ∧ decode q.2.1 pc = .ok (.istore_n f, 1) ∧ len = 1) (e1 : am_stI (pc + len) ls i st h = some x) (hl : am_lr G q.2.2.1 ls LS) (hr : am_rel G stc h H) (hS : va_S (am_A G) s.heap H locs)
    (hk : ∀ c', x = .inl c' → am_nx G stc p l e R s m args below meth c Q q.2.2.1 n0 z0 c') : W p l e R s m args below meth c H locs (h.1 - n0) (h.2.1 - z0) Q (F0 m pc LS (st.map (am_cv G))) := by
  obtain ⟨hx, -, hb, -, -, -, -, -, -, -, hf, -⟩ := K
  unfold am_stI at e1
  split at e1
  · split at e1
    · rename_i v r ls' hp
      cases e1
      have hlt : i < q.2.2.1 := by rw [← hl.1]; exact (am_put_spec _ _ _ _ hp).2.1
      rcases hdg with ⟨h1, rfl⟩ | ⟨f, hff, h1, rfl⟩
      · exact lv_istore hx hb h1 hl.2 hlt rfl (fun LS' hl' => hk _ rfl LS' H locs (hl.put hf hp hl') hr hS)
      · exact lv_istore_n hx hb h1 hff hl.2 hlt rfl (fun LS' hl' => hk _ rfl LS' H locs (hl.put hf hp hl') hr hS)
    · cases e1
  · cases e1
theorem am_s_stA (K : am_Kx G stc p R s m args meth c k q d) {ls : am_L} {st : List Value} {h : am_H} {n0 z0 i len : Nat} {x : am_C ⊕ am_R} (hdg : decode q.2.1 pc = .ok (.astore i, 2) ∧ len = 2 ∨ ∃ f : Fin 4, f.val = i ∧ decode q.2.1 pc = .ok (.astore_n f, 1) ∧ len = 1) (e1 : am_stA (pc + len) ls i st h = some x) (hl : am_lr G q.2.2.1 ls LS) (hr : am_rel G stc h H) (hS : va_S (am_A G) s.heap H locs)
    (hk : ∀ c', x = .inl c' → am_nx G stc p l e R s m args below meth c Q q.2.2.1 n0 z0 c') : W p l e R s m args below meth c H locs (h.1 - n0) (h.2.1 - z0) Q (F0 m pc LS (st.map (am_cv G))) := by
  obtain ⟨hx, -, hb, -, -, -, -, -, -, -, hf, -⟩ := K
  unfold am_stA at e1
  split at e1
  · split at e1
    · rename_i v r ls' hp
      cases e1
      have hlt : i < q.2.2.1 := by rw [← hl.1]; exact (am_put_spec _ _ _ _ hp).2.1
      rcases hdg with ⟨h1, rfl⟩ | ⟨f, hff, h1, rfl⟩
      · exact lv_astore hx hb h1 hl.2 hlt rfl (fun LS' hl' => hk _ rfl LS' H locs (hl.put hf hp hl') hr hS)
      · exact lv_astore_n hx hb h1 hff hl.2 hlt rfl (fun LS' hl' => hk _ rfl LS' H locs (hl.put hf hp hl') hr hS)
    · cases e1
  · cases e1
theorem am_s_stL (K : am_Kx G stc p R s m args meth c k q d) {ls : am_L} {st : List Value} {h : am_H} {n0 z0 i len : Nat} {x : am_C ⊕ am_R} (hdg : decode q.2.1 pc = .ok (.lstore i, 2) ∧ len = 2 ∨ ∃ f : Fin 4, f.val = i ∧ decode q.2.1 pc = .ok (.lstore_n f, 1) ∧ len = 1) (e1 : am_stL (pc + len) ls i st h = some x) (hl : am_lr G q.2.2.1 ls LS) (hr : am_rel G stc h H) (hS : va_S (am_A G) s.heap H locs)
    (hk : ∀ c', x = .inl c' → am_nx G stc p l e R s m args below meth c Q q.2.2.1 n0 z0 c') : W p l e R s m args below meth c H locs (h.1 - n0) (h.2.1 - z0) Q (F0 m pc LS (st.map (am_cv G))) := by
  obtain ⟨hx, -, hb, -, -, -, -, -, -, -, hf, -⟩ := K
  unfold am_stL at e1
  split at e1
  · split at e1
    · rename_i v r ls' hp
      cases e1
      have hlt : i + 1 < q.2.2.1 := by rw [← hl.1]; exact (am_put2_spec _ _ _ _ hp).2.1
      rcases hdg with ⟨h1, rfl⟩ | ⟨f, hff, h1, rfl⟩
      · exact lv_lstore hx hb h1 hl.2 hlt rfl (fun LS' hl' => hk _ rfl LS' H locs (hl.put2 hf hp hl') hr hS)
      · exact lv_lstore_n hx hb h1 hff hl.2 hlt rfl (fun LS' hl' => hk _ rfl LS' H locs (hl.put2 hf hp hl') hr hS)
    · cases e1
  · cases e1
theorem am_s_inc (K : am_Kx G stc p R s m args meth c k q d) {ls : am_L} {st : List Value} {h : am_H} {n0 z0 i : Nat} {n : Int} {x : am_C ⊕ am_R} (hdg : decode q.2.1 pc = .ok (.iinc i n, 3)) (e1 : am_inc (pc + 3) ls i n st h = some x) (hl : am_lr G q.2.2.1 ls LS) (hr : am_rel G stc h H) (hS : va_S (am_A G) s.heap H locs)
    (hk : ∀ c', x = .inl c' → am_nx G stc p l e R s m args below meth c Q q.2.2.1 n0 z0 c') : W p l e R s m args below meth c H locs (h.1 - n0) (h.2.1 - z0) Q (F0 m pc LS (st.map (am_cv G))) := by
  obtain ⟨hx, -, hb, -, -, -, -, -, -, -, hf, -⟩ := K
  unfold am_inc at e1
  split at e1
  · rename_i v hv
    split at e1
    · rename_i ls' hp
      cases e1
      have hlt : i < q.2.2.1 := by rw [← hl.1]; exact (am_put_spec _ _ _ _ hp).2.1
      have hm : (i, am_cv G (.int v)) ∈ am_la G q.2.2.1 ls := am_la_mem.mpr ⟨hlt, _, hv, rfl⟩
      obtain ⟨j, hj⟩ := List.getElem?_of_mem hm
      exact lv_iinc hx hb hdg hl.2 hj rfl hlt rfl (fun LS' hl' => hk _ rfl LS' H locs (hl.put hf hp hl') hr hS)
    · cases e1
  · cases e1
theorem am_s_tab (K : am_Kx G stc p R s m args meth c k q d) {ls : am_L} {st : List Value} {h : am_H} {n0 z0 len : Nat} {dd lo hi : Int} {os : Array Int} {x : am_C ⊕ am_R} (hdg : decode q.2.1 pc = .ok (.tableswitch dd lo hi os, len)) (h0 : 0 ≤ (pc : Int) + dd ∧ os.toList.all (fun o => decide (0 ≤ (pc : Int) + o)) = true) (e1 : am_tab (pc + dd) lo hi (os.map (fun o => pc + o)) ls st h = some x) (hl : am_lr G q.2.2.1 ls LS) (hr : am_rel G stc h H) (hS : va_S (am_A G) s.heap H locs)
    (hk : ∀ c', x = .inl c' → am_nx G stc p l e R s m args below meth c Q q.2.2.1 n0 z0 c') : W p l e R s m args below meth c H locs (h.1 - n0) (h.2.1 - z0) Q (F0 m pc LS (st.map (am_cv G))) := by
  obtain ⟨hx, -, hb, -⟩ := K
  unfold am_tab at e1
  split at e1
  · rename_i v r
    split at e1
    · rename_i hv
      cases e1
      exact lv_tableOut hx hb hdg hv (am_tgt h0.1) (hk _ rfl LS H locs hl hr hS)
    · rename_i hv
      split at e1
      · rename_i o ho
        cases e1
        rw [Array.getElem?_map] at ho
        cases hoo : os[(v.toInt - lo).toNat]? with
        | none => rw [hoo] at ho; cases ho
        | some o' =>
          rw [hoo] at ho
          cases ho
          have h9 := List.all_eq_true.mp h0.2 o' (Array.mem_def.mp (Array.mem_of_getElem? hoo))
          simp only [decide_eq_true_eq] at h9
          exact lv_tableIn hx hb hdg (fun z => hv (Or.inl z)) (fun z => hv (Or.inr z)) hoo (am_tgt h9) (hk _ rfl LS H locs hl hr hS)
      · cases e1
  · cases e1
end AMS
