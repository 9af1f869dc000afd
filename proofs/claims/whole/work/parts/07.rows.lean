/-! one instruction of the abstract machine is one of the machine -/
def am_Kx (G : am_G) (stc : Nat → Option va_E) (p : Program) (R : Room) (s : State) (m : MethodId) (args : Array Value) (meth : Method) (c : Code) (k : Nat) (q : am_M) (d : Nat) : Prop :=
  p.tables.exec = Jvm.exec ∧ am_mt[k]? = some q ∧ c.code = q.2.1 ∧ c.maxLocals = q.2.2.1 ∧ s.vm.findClass (am_cnm q.2.2.2.2.1) = some m.cls ∧ am_hts args s ∧ am_en G stc s s.heap ∧ (am_isI k = true → meth.name = "<init>") ∧ (d ≤ R.frames ∧ 36 * d ≤ R.locals) ∧ G.2.1 ≤ s.heap.size ∧ am_fvOk G ∧ (∀ i j : Nat, i < 5 → j < 5 → G.2.2.1 (2 + i) = G.2.2.1 (2 + j) → i = j)
theorem am_ws_at {G : am_G} {h : am_H} {k : Nat} {c : va_E} (hk : k < h.1) (hc : am_at h k = some c) : (am_ws G h)[k]? = some (G.2.1 + k, am_cc G c) := by
  unfold am_ws
  rw [List.getElem?_map, List.getElem?_range hk]
  simp [am_co, hc]
theorem am_rel.look {G : am_G} {stc : Nat → Option va_E} {h : am_H} {H : Heap} (hr : am_rel G stc h H) {a : Nat} {c : va_E} (hc : am_at h a = some c) : (a < h.1 ∧ am_dy c ∧ va_at G.1 am_cl (G.2.1 + a, am_cc G c) H ∧ am_ad G a = G.2.1 + a ∧ (am_ws G h)[a]? = some (G.2.1 + a, am_cc G c)) ∨ ∃ j, a = 1000000 + j ∧ stc j = some c ∧ am_ad G a = G.2.2.1 j := by
  obtain ⟨h1, h2, h3, h4, h5, h6⟩ := hr
  by_cases ha : a < h.1
  · left
    obtain ⟨c', e1, e2⟩ := h4 a ha
    cases hc.symm.trans e1
    exact ⟨ha, e2, h3 a _ (am_ws_at ha hc), by unfold am_ad; rw [if_pos (by omega)], am_ws_at ha hc⟩
  · right
    by_cases hb : a < 1000000
    · rw [h5 a (by omega) hb] at hc
      cases hc
    · refine ⟨a - 1000000, by omega, ?_, ?_⟩
      · rw [← h6, show 1000000 + (a - 1000000) = a by omega]
        exact hc
      · unfold am_ad
        rw [if_neg hb]
theorem am_at_set (h : am_H) (a : Nat) (c : va_E) (j : Nat) : am_at (am_set h a c) j = if j = a then some c else am_at h j := rfl
theorem am_rel.put {G : am_G} {stc : Nat → Option va_E} {h : am_H} {H H1 : Heap} (hr : am_rel G stc h H) {a : Nat} {c : va_E} (ha : a < h.1) (hd : am_dy c) (z : H1.size = H.size) (oq : ∀ q : Nat, q ≠ G.2.1 + a → H1[q]? = H[q]?) (hv : va_at G.1 am_cl (G.2.1 + a, am_cc G c) H1) : am_rel G stc (am_set h a c) H1 := by
  obtain ⟨h1, h2, h3, h4, h5, h6⟩ := hr
  refine ⟨z.trans h1, h2, fun k x hx => ?_, fun k hk => ?_, fun k hk hk2 => ?_, fun j => ?_⟩
  · have hk : k < h.1 := by
      have := (List.getElem?_eq_some_iff.mp hx).1
      simpa [am_ws, am_set] using this
    by_cases hka : k = a
    · subst hka
      have := am_ws_at (G := G) (h := am_set h k c) (k := k) hk (by rw [am_at_set, if_pos rfl])
      cases hx.symm.trans this
      exact hv
    · obtain ⟨c', e1, e2⟩ := h4 k hk
      have := am_ws_at (G := G) (h := am_set h a c) (k := k) hk (by rw [am_at_set, if_neg hka]; exact e1)
      cases hx.symm.trans this
      refine (h3 k _ (am_ws_at hk e1)).kept (oq _ ?_)
      show G.2.1 + k ≠ _
      omega
  · by_cases hka : k = a
    · exact ⟨c, by rw [am_at_set, if_pos hka], hd⟩
    · obtain ⟨c', e1, e2⟩ := h4 k hk
      exact ⟨c', by rw [am_at_set, if_neg hka]; exact e1, e2⟩
  · have h7 : h.1 ≤ k := hk
    rw [am_at_set, if_neg (by omega)]
    exact h5 k hk hk2
  · rw [am_at_set, if_neg (by omega)]
    exact h6 j
theorem am_at_new (h : am_H) (n : Nat) (c : va_E) (j : Nat) : am_at (am_new h n c) j = if j = h.1 then some c else am_at h j := rfl
theorem am_rel.new {G : am_G} {stc : Nat → Option va_E} {h : am_H} {H H1 : Heap} (hr : am_rel G stc h H) {n : Nat} {c : va_E} (ha : h.1 < 1000000) (hd : am_dy c) (z : H1.size = H.size + 1) (oq : ∀ q : Nat, q < H.size → H1[q]? = H[q]?) (hv : va_at G.1 am_cl (H.size, am_cc G c) H1) : am_rel G stc (am_new h n c) H1 := by
  obtain ⟨h1, h2, h3, h4, h5, h6⟩ := hr
  refine ⟨by rw [z, h1]; rfl, by show h.1 + 1 ≤ _; omega, fun k x hx => ?_, fun k hk => ?_, fun k hk hk2 => ?_, fun j => ?_⟩
  · have hk : k < h.1 + 1 := by
      have := (List.getElem?_eq_some_iff.mp hx).1
      simpa [am_ws, am_new] using this
    by_cases hka : k = h.1
    · subst hka
      have := am_ws_at (G := G) (h := am_new h n c) (k := h.1) hk (by rw [am_at_new, if_pos rfl])
      cases hx.symm.trans this
      rw [← h1]
      exact hv
    · obtain ⟨c', e1, e2⟩ := h4 k (by omega)
      have := am_ws_at (G := G) (h := am_new h n c) (k := k) hk (by rw [am_at_new, if_neg hka]; exact e1)
      cases hx.symm.trans this
      refine (h3 k _ (am_ws_at (by omega) e1)).kept (oq _ ?_)
      show G.2.1 + k < _
      omega
  · have hk : k < h.1 + 1 := hk
    by_cases hka : k = h.1
    · exact ⟨c, by rw [am_at_new, if_pos hka], hd⟩
    · obtain ⟨c', e1, e2⟩ := h4 k (by omega)
      exact ⟨c', by rw [am_at_new, if_neg hka]; exact e1, e2⟩
  · have h7 : h.1 + 1 ≤ k := hk
    rw [am_at_new, if_neg (by omega)]
    exact h5 k (by omega) hk2
  · rw [am_at_new, if_neg (by omega)]
    exact h6 j
theorem am_newS {A : Nat → Prop} {H0 H H1 : Heap} {locs : List Loc} (hS : va_S A H0 H locs) (z : H1.size = H.size + 1) (oq : ∀ q : Nat, q < H.size → H1[q]? = H[q]?) : va_S A H0 H1 locs :=
  ⟨by have := hS.1; omega, fun q h1 h2 => (oq q (Nat.lt_of_lt_of_le h1 hS.1)).trans (hS.2.1 q h1 h2), hS.2.2⟩
section AMR
variable {p : Program} {l : Launch} {e : Env} {R : Room} {s : State} {m : MethodId} {args : Array Value} {below : List Frame} {meth : Method} {c : Code} {H : Heap} {locs : List Loc} {cells slots : Nat} {Q : State → Prop}
variable {pc : Nat} {LS : Array Slot} {rest : List Value} {G : am_G} {stc : Nat → Option va_E} {h : am_H} {k d : Nat} {q : am_M}
theorem am_r_iald (K : am_Kx G stc p R s m args meth c k q d) (hr : am_rel G stc h H) (hS : va_S (am_A G) s.heap H locs) {a t n : Nat} {g : Nat → Int32} (ha : am_at h a = some (.inl (t, n, .inl g))) (ht : t = 0 ∨ t = 10) {i : Int32} (hin : ¬ (i < 0 ∨ n ≤ i.toNatClampNeg)) (hdg : decode q.2.1 pc = .ok (.iaload, 1))
    (kk : W p l e R s m args below meth c H locs cells slots Q (F0 m (pc + 1) LS (.int (g i.toNatClampNeg) :: rest))) : W p l e R s m args below meth c H locs cells slots Q (F0 m pc LS (.int i :: .ref (am_ad G a) :: rest)) := by
  obtain ⟨hx, -, hb, -, -, -, hen, -⟩ := K
  rcases hr.look ha with ⟨h1, h2, h3, h4, h5⟩ | ⟨j, rfl, h2, h3⟩
  · have ht0 : t = 0 := by
      rcases ht with h | h
      · exact h
      · have : t < 2 := h2
        omega
    subst ht0
    rw [h4]
    exact va_iald hx hb hen.1 hr.2.2.1 a 0 h5 rfl hin hdg kk
  · have ht0 : t = 10 := by
      have h9 : t = 10 ∨ t = 11 := (hen.2.1 j _ h2).2
      omega
    subst ht0
    rw [h3]
    obtain ⟨cell, g1, g2, g3, g4, g5, g6, g7⟩ := (hen.2.1 j _ h2).1.kept hS.2.1
    have hlt : i.toNatClampNeg < n := Nat.not_le.mp fun z => hin (Or.inr z)
    exact W.iald hx hb g1 (by simpa using g2) g3 (fun z => z.elim (fun z => hin (Or.inl z)) (fun z => by omega)) (g6 _ hlt) rfl rfl hdg kk
theorem am_r_bald (K : am_Kx G stc p R s m args meth c k q d) (hr : am_rel G stc h H) (hS : va_S (am_A G) s.heap H locs) {a t n : Nat} {g : Nat → Int32} (ha : am_at h a = some (.inl (t, n, .inl g))) (ht : t = 1 ∨ t = 11) {i : Int32} (hin : ¬ (i < 0 ∨ n ≤ i.toNatClampNeg)) (hdg : decode q.2.1 pc = .ok (.baload, 1))
    (kk : W p l e R s m args below meth c H locs cells slots Q (F0 m (pc + 1) LS (.int (g i.toNatClampNeg) :: rest))) : W p l e R s m args below meth c H locs cells slots Q (F0 m pc LS (.int i :: .ref (am_ad G a) :: rest)) := by
  obtain ⟨hx, -, hb, -, -, -, hen, -⟩ := K
  rcases hr.look ha with ⟨h1, h2, h3, h4, h5⟩ | ⟨j, rfl, h2, h3⟩
  · have ht0 : t = 1 := by
      rcases ht with h | h
      · exact h
      · have : t < 2 := h2
        omega
    subst ht0
    rw [h4]
    exact va_zald hx hb hen.1 hr.2.2.1 a 1 h5 rfl hin hdg kk
  · have ht0 : t = 11 := by
      have h9 : t = 10 ∨ t = 11 := (hen.2.1 j _ h2).2
      omega
    subst ht0
    rw [h3]
    obtain ⟨cell, g1, g2, g3, g4, g5, g6, g7⟩ := (hen.2.1 j _ h2).1.kept hS.2.1
    have hlt : i.toNatClampNeg < n := Nat.not_le.mp fun z => hin (Or.inr z)
    exact W.bald hx hb g1 (by simpa using g2) g3 (fun z => z.elim (fun z => hin (Or.inl z)) (fun z => by omega)) (g6 _ hlt) rfl rfl hdg kk
theorem am_r_alen (K : am_Kx G stc p R s m args meth c k q d) (hr : am_rel G stc h H) (hS : va_S (am_A G) s.heap H locs) {a t n : Nat} {g : (Nat → Int32) ⊕ (Nat → Int64) ⊕ (Nat → UInt32) ⊕ (Nat → UInt64) ⊕ (Nat → Option Nat)} (ha : am_at h a = some (.inl (t, n, g))) (hdg : decode q.2.1 pc = .ok (.arraylength, 1))
    (kk : W p l e R s m args below meth c H locs cells slots Q (F0 m (pc + 1) LS (.int (Int32.ofNat n) :: rest))) : W p l e R s m args below meth c H locs cells slots Q (F0 m pc LS (.ref (am_ad G a) :: rest)) := by
  obtain ⟨hx, -, hb, -, -, -, hen, -⟩ := K
  rcases hr.look ha with ⟨h1, h2, h3, h4, h5⟩ | ⟨j, rfl, h2, h3⟩
  · rw [h4]
    match g, h2, h5 with
    | .inl g, h2, h5 =>
      have h2 : t < 2 := h2
      rcases (show t = 0 ∨ t = 1 by omega) with rfl | rfl
      · exact va_alen hx hb hen.1 hr.2.2.1 a 0 h5 rfl rfl hdg kk
      · exact va_alen hx hb hen.1 hr.2.2.1 a 1 h5 rfl rfl hdg kk
    | .inr (.inr (.inr (.inr g))), h2, h5 =>
      rcases (show t = 2 ∨ t = 3 ∨ t = 4 from h2) with rfl | rfl | rfl
      · exact va_alen hx hb hen.1 hr.2.2.1 a 2 h5 rfl rfl hdg kk
      · exact va_alen hx hb hen.1 hr.2.2.1 a 3 h5 rfl rfl hdg kk
      · exact va_alen hx hb hen.1 hr.2.2.1 a 4 h5 rfl rfl hdg kk
  · rw [h3]
    have h9 := hen.2.1 j _ h2
    match g, h9 with
    | .inl g, h9 =>
      obtain ⟨cell, g1, g2, g3, g4, g5, g6, g7⟩ := h9.1.kept hS.2.1
      exact W.alen hx hb g1 g2 g5 rfl rfl hdg kk
theorem am_r_aald (K : am_Kx G stc p R s m args meth c k q d) (hr : am_rel G stc h H) {a t n : Nat} {g : Nat → Option Nat} (ha : am_at h a = some (.inl (t, n, .inr (.inr (.inr (.inr g)))))) {i : Int32} (hin : ¬ (i < 0 ∨ n ≤ i.toNatClampNeg)) (hdg : decode q.2.1 pc = .ok (.aaload, 1))
    (kk : W p l e R s m args below meth c H locs cells slots Q (F0 m (pc + 1) LS (am_cv G (va_rf (g i.toNatClampNeg)) :: rest))) : W p l e R s m args below meth c H locs cells slots Q (F0 m pc LS (.int i :: .ref (am_ad G a) :: rest)) := by
  obtain ⟨hx, -, hb, -, -, -, hen, -⟩ := K
  have e : am_cv G (va_rf (g i.toNatClampNeg)) = va_rf ((g i.toNatClampNeg).map (am_ad G)) := by cases g i.toNatClampNeg <;> rfl
  rw [e] at kk
  rcases hr.look ha with ⟨h1, h2, h3, h4, h5⟩ | ⟨j, rfl, h2, h3⟩
  · rw [h4]
    rcases (show t = 2 ∨ t = 3 ∨ t = 4 from h2) with rfl | rfl | rfl
    · exact va_aldq hx hb hen.1 hr.2.2.1 a 2 h5 rfl hin hdg kk
    · exact va_aldq hx hb hen.1 hr.2.2.1 a 3 h5 rfl hin hdg kk
    · exact va_aldq hx hb hen.1 hr.2.2.1 a 4 h5 rfl hin hdg kk
  · exact (hen.2.1 j _ h2).elim
theorem am_updI (g : Nat → Int32) (i : Nat) (x : Int32) : (fun j => Value.int (upd g i x j)) = updV (fun j => .int (g j)) i (.int x) := by
  funext j
  by_cases hj : j = i
  · subst hj; simp [updV, upd]
  · simp [updV, upd, hj]
theorem am_r_iast (K : am_Kx G stc p R s m args meth c k q d) (hr : am_rel G stc h H) (hS : va_S (am_A G) s.heap H locs) {a n : Nat} {g : Nat → Int32} (ha : am_at h a = some (.inl (0, n, .inl g))) {i x : Int32} (hin : ¬ (i < 0 ∨ n ≤ i.toNatClampNeg)) (hdg : decode q.2.1 pc = .ok (.iastore, 1))
    (kk : ∀ H1 locs1, am_rel G stc (am_set h a (.inl (0, n, .inl (upd g i.toNatClampNeg x)))) H1 → va_S (am_A G) s.heap H1 locs1 → W p l e R s m args below meth c H1 locs1 cells slots Q (F0 m (pc + 1) LS rest)) : W p l e R s m args below meth c H locs cells slots Q (F0 m pc LS (.int x :: .int i :: .ref (am_ad G a) :: rest)) := by
  obtain ⟨hx, -, hb, -, -, -, hen, -⟩ := K
  rcases hr.look ha with ⟨h1, h2, h3, h4, h5⟩ | ⟨j, rfl, h2, h3⟩
  · rw [h4]
    have harr := (hen.1.2 0 _ rfl).1 n (fun j => .int (g j))
    refine W.iast hx hb h3 harr (fun z => by cases z) (by show ¬ (i < 0 ∨ (arrV _ _ _).slots.size ≤ _); rw [arrV_size]; exact hin) rfl rfl hdg fun H1 e1 z oq => ?_
    refine kk H1 _ (hr.put h1 (show (0 : Nat) < 2 by omega) z oq ?_) (hS.put z oq (Nat.le_add_right _ _))
    show H1[G.2.1 + a]? = some (arrV _ n (fun j => .int (upd g i.toNatClampNeg x j)))
    rw [am_updI]
    exact e1.trans (congrArg some (arrV_store _ _ _ _ _))
  · have h9 : (0 : Nat) = 10 ∨ (0 : Nat) = 11 := (hen.2.1 j _ h2).2
    omega
theorem am_r_zast (K : am_Kx G stc p R s m args meth c k q d) (hr : am_rel G stc h H) (hS : va_S (am_A G) s.heap H locs) {a n : Nat} {g : Nat → Int32} (ha : am_at h a = some (.inl (1, n, .inl g))) {i x : Int32} (hin : ¬ (i < 0 ∨ n ≤ i.toNatClampNeg)) (hdg : decode q.2.1 pc = .ok (.bastore, 1))
    (kk : ∀ H1 locs1, am_rel G stc (am_set h a (.inl (1, n, .inl (upd g i.toNatClampNeg (vp_nar .boolean x))))) H1 → va_S (am_A G) s.heap H1 locs1 → W p l e R s m args below meth c H1 locs1 cells slots Q (F0 m (pc + 1) LS rest)) : W p l e R s m args below meth c H locs cells slots Q (F0 m pc LS (.int x :: .int i :: .ref (am_ad G a) :: rest)) := by
  obtain ⟨hx, -, hb, -, -, -, hen, -⟩ := K
  rcases hr.look ha with ⟨h1, h2, h3, h4, h5⟩ | ⟨j, rfl, h2, h3⟩
  · rw [h4]
    have harr := (hen.1.2 1 _ rfl).1 n (fun j => .int (g j))
    refine W.zast hx hb h3 harr (fun z => by cases z) (by show ¬ (i < 0 ∨ (arrV _ _ _).slots.size ≤ _); rw [arrV_size]; exact hin) rfl rfl hdg fun H1 e1 z oq => ?_
    refine kk H1 _ (hr.put h1 (show (1 : Nat) < 2 by omega) z oq ?_) (hS.put z oq (Nat.le_add_right _ _))
    show H1[G.2.1 + a]? = some (arrV _ n (fun j => .int (upd g i.toNatClampNeg (vp_nar .boolean x) j)))
    rw [am_updI]
    exact e1.trans (congrArg some (arrV_store _ _ _ _ _))
  · have h9 : (1 : Nat) = 10 ∨ (1 : Nat) = 11 := (hen.2.1 j _ h2).2
    omega
theorem am_up_map (G : am_G) (g : Nat → Option Nat) (i v : Nat) : (fun j => va_rf ((va_up g i (some v) j).map (am_ad G))) = updV (fun j => va_rf ((g j).map (am_ad G))) i (.ref (am_ad G v)) := by
  funext j
  by_cases hj : j = i
  · subst hj; simp [updV, va_up, va_rf]
  · simp [updV, va_up, hj]
theorem am_el_of {t cc : Nat} (ht : t = 2 ∨ t = 3 ∨ t = 4) (hc : cc = am_tc t) : (cc < 9 ∧ am_cnm cc = am_el t) ∨ (cc = 20 ∧ am_roN cc = am_el t) := by
  rcases ht with rfl | rfl | rfl
  · right; subst hc; exact ⟨rfl, rfl⟩
  · left; subst hc; exact ⟨by decide, rfl⟩
  · left; subst hc; exact ⟨by decide, rfl⟩
theorem am_r_any (K : am_Kx G stc p R s m args meth c k q d) (hr : am_rel G stc h H) (hS : va_S (am_A G) s.heap H locs) {v cc t : Nat} {fs : List Value} (hv : am_at h v = some (.inr (cc, fs))) (ht : t = 2 ∨ t = 3 ∨ t = 4) (hc : cc = am_tc t) : ∃ cell : Cell, H[am_ad G v]? = some cell ∧ cell.vm.isStatics = false ∧ s.vm.findClass (am_el t) = some cell.cls := by
  obtain ⟨hx, -, hb, -, -, -, hen, -⟩ := K
  rcases hr.look hv with ⟨h1, h2, h3, h4, h5⟩ | ⟨j, rfl, h2, h3⟩
  · have hlt : cc < 9 := h2
    rcases am_el_of ht hc with ⟨-, e⟩ | ⟨e, -⟩
    · rw [h4, ← e]
      exact va_recv hen.1 hr.2.2.1 (am_cl_at hlt) h5
    · omega
  · have h9 := hen.2.1 j _ h2
    obtain ⟨cell, g1, g2, g3, -⟩ := h9.1.kept hS.2.1
    rw [h3]
    rcases am_el_of ht hc with ⟨e, -⟩ | ⟨-, e⟩
    · have : cc = 20 ∨ cc = 21 := h9.2.1
      omega
    · exact ⟨cell, g1, g2, by rw [← e]; exact g3⟩
theorem am_r_aast (K : am_Kx G stc p R s m args meth c k q d) (hr : am_rel G stc h H) (hS : va_S (am_A G) s.heap H locs) {a t n v cc : Nat} {g : Nat → Option Nat} {fs : List Value} (ha : am_at h a = some (.inl (t, n, .inr (.inr (.inr (.inr g)))))) (hv : am_at h v = some (.inr (cc, fs))) (hc : cc = am_tc t) {i : Int32} (hin : ¬ (i < 0 ∨ n ≤ i.toNatClampNeg)) (hdg : decode q.2.1 pc = .ok (.aastore, 1))
    (kk : ∀ H1 locs1, am_rel G stc (am_set h a (.inl (t, n, .inr (.inr (.inr (.inr (va_up g i.toNatClampNeg (some v)))))))) H1 → va_S (am_A G) s.heap H1 locs1 → W p l e R s m args below meth c H1 locs1 cells slots Q (F0 m (pc + 1) LS rest)) : W p l e R s m args below meth c H locs cells slots Q (F0 m pc LS (.ref (am_ad G v) :: .int i :: .ref (am_ad G a) :: rest)) := by
  have K0 := K
  obtain ⟨hx, -, hb, -, -, -, hen, -⟩ := K
  rcases hr.look ha with ⟨h1, h2, h3, h4, h5⟩ | ⟨j, rfl, h2, h3⟩
  · have ht : t = 2 ∨ t = 3 ∨ t = 4 := h2
    obtain ⟨cellV, w1, w2, w3⟩ := am_r_any K0 hr hS hv ht hc
    rw [h4]
    have hRA : va_RA s (G.2.2.2.2 t) (.object (am_el t)) := by
      rcases ht with rfl | rfl | rfl
      · exact (hen.1.2 2 _ rfl).2
      · exact (hen.1.2 3 _ rfl).2
      · exact (hen.1.2 4 _ rfl).2
    obtain ⟨kA, comp, k1, k2, k3, -⟩ := hRA
    obtain ⟨kE, hkE, -⟩ := Vm.findClass_spec k3
    cases k3.symm.trans w3
    have hlt : i.toNatClampNeg < n := Nat.not_le.mp fun q => hin (Or.inr q)
    have h0 : ¬ i < 0 := fun q => hin (Or.inl q)
    refine W.aast hx hb h3 (fun q h => by cases h) (fun h => by cases h) k1 k2 rfl hkE ⟨h0, by show _ < (arrV _ _ _).slots.size; rw [arrV_size]; exact hlt⟩ w1 (fun q h => by rw [h] at w2; cases w2) hkE (va_asg _ _) rfl rfl hdg fun H1 e1 z oq => ?_
    refine kk H1 _ (hr.put h1 ht z oq ?_) (hS.put z oq (Nat.le_add_right _ _))
    show H1[G.2.1 + a]? = some (arrV _ n (fun j => va_rf ((va_up g i.toNatClampNeg (some v) j).map (am_ad G))))
    rw [am_up_map]
    exact e1.trans (congrArg some (arrV_store _ _ _ _ _))
  · exact (hen.2.1 j _ h2).elim
theorem am_r_get (K : am_Kx G stc p R s m args meth c k q d) (hr : am_rel G stc h H) (hS : va_S (am_A G) s.heap H locs) {a ci kk : Nat} {fs : List Value} {v : Value} (ha : am_at h a = some (.inr (ci, fs))) (hv : fs[kk]? = some v) {idx wi : Nat} (hp : am_okF (q.2.2.2.2.1, idx, ci, kk, wi) = true) (hdg : decode q.2.1 pc = .ok (.getfield idx, 3))
    (kn : W p l e R s m args below meth c H locs cells slots Q (F0 m (pc + 3) LS (am_cv G v :: rest))) : W p l e R s m args below meth c H locs cells slots Q (F0 m pc LS (.ref (am_ad G a) :: rest)) := by
  obtain ⟨hx, -, hb, -, hown, hts, hen, -⟩ := K
  rcases hr.look ha with ⟨h1, h2, h3, h4, h5⟩ | ⟨j, rfl, h2, h3⟩
  · have hci : ci < 9 := h2
    unfold am_okF at hp
    rw [if_pos hci] at hp
    simp only [Bool.and_eq_true, decide_eq_true_eq] at hp
    rw [h4]
    have hcv : (fs.map (am_cv G))[kk]? = some (am_cv G v) := by rw [List.getElem?_map, hv]; rfl
    exact va_get hx hb (Ts := am_gd) hts.gd (am_uws hci) hown hen.1 hr.2.2.1 a h5 (am_cl_at hci) kk hp.1 (hts.at hp.2) (fun _ h9 => h9) hcv hdg kn
  · have h9 := hen.2.1 j _ h2
    have hci : ¬ ci < 9 := by
      have : ci = 20 ∨ ci = 21 := h9.2.1
      omega
    unfold am_okF at hp
    rw [if_neg hci] at hp
    simp only [Bool.and_eq_true, decide_eq_true_eq] at hp
    rw [h3]
    exact vk_getf hx hb (h9.2.2 kk v hv) hS hown (hts.at hp.2) (fun _ h9 => h9) hdg kn
theorem am_fit_cv {ty : FieldType} {v : Value} (h : am_fit ty v = true) : narrow ty (am_cv G v) = am_cv G v ∧ fits ty (am_cv G v) = true := by
  cases v with
  | int x =>
    simp only [am_fit, Bool.and_eq_true, decide_eq_true_eq] at h
    exact h
  | ref a =>
    simp only [am_fit] at h
    refine ⟨by cases ty <;> rfl, ?_⟩
    cases ty <;> first | rfl | (simp [fits] at h; done)
  | _ => simp [am_fit] at h
theorem am_r_put (K : am_Kx G stc p R s m args meth c k q d) (hr : am_rel G stc h H) (hS : va_S (am_A G) s.heap H locs) {a ci kk : Nat} {fs : List Value} {v : Value} (ha : am_at h a = some (.inr (ci, fs))) (hci : ci < 9) (hl : kk < fs.length) (hfin : ((am_ft.getD ci []).getD kk ("", "", "", true)).2.2.2 = false ∨ am_isI k = true) (hfit : am_fit ((am_tt.getD ci []).getD kk .int) v = true) {idx wi : Nat} (hp : am_okF (q.2.2.2.2.1, idx, ci, kk, wi) = true) (hdc : am_isI k = true → ((am_ft.getD ci []).getD kk ("", "", "", true)).2.2.2 = true → am_cnm ci = am_cnm q.2.2.2.2.1) (hdg : decode q.2.1 pc = .ok (.putfield idx, 3))
    (kn : ∀ H1 locs1, am_rel G stc (am_set h a (.inr (ci, fs.set kk v))) H1 → va_S (am_A G) s.heap H1 locs1 → W p l e R s m args below meth c H1 locs1 cells slots Q (F0 m (pc + 3) LS rest)) : W p l e R s m args below meth c H locs cells slots Q (F0 m pc LS (am_cv G v :: .ref (am_ad G a) :: rest)) := by
  obtain ⟨hx, -, hb, -, hown, hts, hen, hini, -⟩ := K
  rcases hr.look ha with ⟨h1, h2, h3, h4, h5⟩ | ⟨j, rfl, h2, h3⟩
  · unfold am_okF at hp
    rw [if_pos hci] at hp
    simp only [Bool.and_eq_true, decide_eq_true_eq] at hp
    obtain ⟨hkN, hw⟩ := hp
    rw [h4]
    have hT : (am_ft.getD ci []).getD kk ("", "", "", true) = am_T ci kk := by
      have hkN' : kk < (am_ft.getD ci []).length := hkN
      show _ = (am_ft.getD ci []).getD kk ("", "", "", false)
      generalize am_ft.getD ci [] = L at hkN' ⊢
      simp [List.getD_eq_getElem?_getD, List.getElem?_eq_getElem hkN']
    rw [hT] at hfin hdc
    obtain ⟨hn, hf⟩ := am_fit_cv (G := G) hfit
    have hap := va_apart (own := am_cnm ci) (args := args) hts.gd (am_uws hci) (am_ty ci) (am_ty_ok ci hci) (am_nm_ok ci hci) hen.1 (am_cl_at hci)
    obtain ⟨r, hr1, cell, q1, q2, q3, q4⟩ := h3
    have hr' : r = (am_cnm ci, am_T ci, am_N ci) := Option.some.inj (hr1.symm.trans (am_cl_at hci))
    subst hr'
    obtain ⟨hSl, hfc, kC, hkC, hkind⟩ := hen.1.1 ci _ (am_cl_at hci)
    obtain ⟨cf, kf, fi, f, hi, hsl⟩ := hSl kk hkN
    have hlay := hts.gd _ (am_uws hci _ (u_in_lay hkN))
    have hst := (u_facts hfc hkC (u_lays hts.gd (am_uws hci) hkN) hi).1
    have hend : ∀ (H1 : Heap) (L : List Loc), H1[G.2.1 + a]? = some (cell.setSlot (G.1.2 ci kk) (am_cv G v)) → H1.size = H.size → (∀ x, x ≠ G.2.1 + a → H1[x]? = H[x]?) → va_S (am_A G) s.heap H1 L → W p l e R s m args below meth c H1 L cells slots Q (F0 m (pc + 3) LS rest) := fun H1 L e1 e2 e3 e4 => by
      refine kn H1 L (hr.put h1 hci e2 e3 ⟨_, am_cl_at hci, t_OB.to (V := updV (vp_V (fs.map (am_cv G))) kk (am_cv G v)) ⟨_, e1, q2, q3, t_set q4 hap hkN _⟩ (fun j _ => ?_)⟩) e4
      rw [vp_updV_set (by rw [List.length_map]; exact hl)]
      show vp_V _ j = vp_V ((fs.set kk v).map (am_cv G)) j
      rw [List.map_set]
    by_cases hF : (am_T ci kk).2.2.2 = true
    · have hI : am_isI k = true := by
        rcases hfin with h9 | h9
        · rw [hF] at h9; cases h9
        · exact h9
      unfold u_lay at hlay
      rw [if_pos hF] at hlay
      have hcf : m.cls = cf := by
        obtain ⟨_, _, c', _, _, _, -, -, hf', -, -, -, hown2, -⟩ := Cond.laysFinal_spec hlay
        have e1 : c' = cf := by have := hi.symm.trans hf'; simp at this; exact this.1.symm
        rw [am_dc_ok ci hci kk hkN, hdc hI hF] at hown2
        rw [← e1]; exact Option.some.inj (hown.symm.trans hown2)
      have h6 := u_fits hfc hkC hkind (Or.inr hlay) hi (am_ty_ok ci hci kk hkN) hn hf
      refine W.putFinK hx hb hown (hts.at hw) hi hst hcf (hini hI) (by rw [q2]; exact h6) q1 q3 (by rw [hsl]; exact k2_hasslot (q4 kk hkN)) rfl rfl hdg fun H' e1 e2 e3 => ?_
      rw [hsl] at e1 ⊢
      exact hend H' _ e1 e2 e3 (hS.put e2 e3 (Nat.le_add_right _ _))
    · have hF' : (am_T ci kk).2.2.2 = false := by simpa using hF
      unfold u_lay at hlay
      rw [if_neg hF] at hlay
      have h6 := u_store hfc hkC hkind hlay hi (am_ty_ok ci hci kk hkN) hn hf
      refine W.putK hx hb (f := f) ⟨hown, hts.at hw, ⟨_, _, _, hi⟩, hst⟩ (by rw [q2]; exact h6) q1 q3 (by rw [hsl]; exact k2_hasslot (q4 kk hkN)) rfl rfl hdg fun H' e1 e2 e3 => ?_
      rw [hsl] at e1 ⊢
      exact hend H' _ e1 e2 e3 (hS.put e2 e3 (Nat.le_add_right _ _))
  · have h9 := hen.2.1 j _ h2
    have : ci = 20 ∨ ci = 21 := h9.2.1
    omega
theorem am_r_new (K : am_Kx G stc p R s m args meth c k q d) (hr : am_rel G stc h H) (hS : va_S (am_A G) s.heap H locs) {ci : Nat} (hci : ci < 9) (hb1 : h.1 < 1000000) {idx wi : Nat} (hp : am_okN (q.2.2.2.2.1, idx, ci, wi) = true) (hdg : decode q.2.1 pc = .ok (.new idx, 3)) (hcells : cells + 1 ≤ R.cells) (hslots : slots + (am_dflt ci).length ≤ R.slots)
    (kn : ∀ H1, am_rel G stc (am_new h (am_dflt ci).length (.inr (ci, am_dflt ci))) H1 → va_S (am_A G) s.heap H1 locs → W p l e R s m args below meth c H1 locs (cells + 1) (slots + (am_dflt ci).length) Q (F0 m (pc + 3) LS (.ref (am_ad G h.1) :: rest))) : W p l e R s m args below meth c H locs cells slots Q (F0 m pc LS rest) := by
  obtain ⟨hx, -, hb, -, hown, hts, hen, -⟩ := K
  obtain ⟨hlen, hdf, hnul⟩ := am_df_ok ci hci
  obtain ⟨hi1, hi2⟩ := am_ins_ok ci hci
  rw [hlen] at kn hslots
  have hKn := hen.1.1 ci _ (am_cl_at hci)
  unfold am_okN at hp
  simp only [Bool.and_eq_true, decide_eq_true_eq] at hp
  have had : am_ad G h.1 = H.size := by unfold am_ad; rw [if_pos hb1, hr.1]
  refine W.newcK hx hb hown (hts.at hp.2) (hts _ hi1 rfl) (hts _ hi2 rfl) rfl hdg hcells hslots hKn.2.1 rfl fun H1 kC hkC e1 z1 o1 => ?_
  rw [← had]
  have hmap : (am_dflt ci).map (am_cv G) = am_dflt ci := by
    refine (List.map_congr_left (fun v hv => ?_)).trans (List.map_id _)
    rcases hnul v hv with rfl | rfl <;> rfl
  refine kn H1 (hr.new hb1 hci z1 o1 ?_) (am_newS hS z1 o1)
  refine ⟨_, am_cl_at hci, (u_born (am_ty ci) hts.gd (am_uws hci) hKn hkC e1 (am_ty_ok ci hci)).to (fun j hj => ?_)⟩
  show _ = vp_V ((am_dflt ci).map (am_cv G)) j
  rw [hmap]
  exact hdf j hj
theorem am_r_newa (K : am_Kx G stc p R s m args meth c k q d) (hr : am_rel G stc h H) (hS : va_S (am_A G) s.heap H locs) {t : Nat} {at_ : ArrayType} (ht : (t = 0 ∧ at_ = .int) ∨ (t = 1 ∧ at_ = .boolean)) (hb1 : h.1 < 1000000) {n : Int32} (hn : ¬ n < 0) (hn2 : n.toNatClampNeg ≤ 100000) (hdg : decode q.2.1 pc = .ok (.newarray at_, 2)) (hcells : cells + 1 ≤ R.cells) (hslots : slots + n.toNatClampNeg ≤ R.slots)
    (kn : ∀ H1, am_rel G stc (am_new h n.toNatClampNeg (.inl (t, n.toNatClampNeg, .inl (fun _ => 0)))) H1 → va_S (am_A G) s.heap H1 locs → W p l e R s m args below meth c H1 locs (cells + 1) (slots + n.toNatClampNeg) Q (F0 m (pc + 2) LS (.ref (am_ad G h.1) :: rest))) : W p l e R s m args below meth c H locs cells slots Q (F0 m pc LS (.int n :: rest)) := by
  obtain ⟨hx, -, hb, -, hown, hts, hen, -⟩ := K
  have had : am_ad G h.1 = H.size := by unfold am_ad; rw [if_pos hb1, hr.1]
  rw [had] at kn
  rcases ht with ⟨rfl, rfl⟩ | ⟨rfl, rfl⟩
  · have hw : (Cond.arrayClass .int).before args s = true := hts.sys (List.mem_of_getElem? (l := am_sys) (i := 5) rfl)
    refine va_newaK (atype := .int) hx hb hw rfl hdg rfl hn rfl (by show _ * 4 ≤ _; omega) hcells hslots rfl fun H1 cA e1 z1 o1 hAr hNm => ?_
    have hcA : cA = G.2.2.2.2 0 := Option.some.inj (hNm.symm.trans (hen.1.2 0 _ rfl).2)
    subst hcA
    exact kn H1 (hr.new hb1 (show (0 : Nat) < 2 by omega) z1 o1 e1) (am_newS hS z1 o1)
  · have hw : (Cond.arrayClass .boolean).before args s = true := hts.sys (List.mem_of_getElem? (l := am_sys) (i := 6) rfl)
    refine va_newaK (atype := .boolean) hx hb hw rfl hdg rfl hn rfl (by show _ * 1 ≤ _; omega) hcells hslots rfl fun H1 cA e1 z1 o1 hAr hNm => ?_
    have hcA : cA = G.2.2.2.2 1 := Option.some.inj (hNm.symm.trans (hen.1.2 1 _ rfl).2)
    subst hcA
    exact kn H1 (hr.new hb1 (show (1 : Nat) < 2 by omega) z1 o1 e1) (am_newS hS z1 o1)
theorem am_r_newq (K : am_Kx G stc p R s m args meth c k q d) (hr : am_rel G stc h H) (hS : va_S (am_A G) s.heap H locs) {t : Nat} (hb1 : h.1 < 1000000) {n : Int32} (hn : ¬ n < 0) (hn2 : n.toNatClampNeg ≤ 100000) {idx wi : Nat} (hp : am_okA (q.2.2.2.2.1, idx, t, wi) = true) (hdg : decode q.2.1 pc = .ok (.anewarray idx, 3)) (hcells : cells + 1 ≤ R.cells) (hslots : slots + n.toNatClampNeg ≤ R.slots)
    (kn : ∀ H1, am_rel G stc (am_new h n.toNatClampNeg (.inl (t, n.toNatClampNeg, .inr (.inr (.inr (.inr (fun _ => none))))))) H1 → va_S (am_A G) s.heap H1 locs → W p l e R s m args below meth c H1 locs (cells + 1) (slots + n.toNatClampNeg) Q (F0 m (pc + 3) LS (.ref (am_ad G h.1) :: rest))) : W p l e R s m args below meth c H locs cells slots Q (F0 m pc LS (.int n :: rest)) := by
  obtain ⟨hx, -, hb, -, hown, hts, hen, -⟩ := K
  have had : am_ad G h.1 = H.size := by unfold am_ad; rw [if_pos hb1, hr.1]
  rw [had] at kn
  unfold am_okA at hp
  simp only [Bool.and_eq_true, decide_eq_true_eq] at hp
  obtain ⟨ht, hw⟩ := hp
  have hRA : va_RA s (G.2.2.2.2 t) (.object (am_el t)) := by
    rcases ht with rfl | rfl | rfl
    · exact (hen.1.2 2 _ rfl).2
    · exact (hen.1.2 3 _ rfl).2
    · exact (hen.1.2 4 _ rfl).2
  refine W.anew hx hb hown (hts.at hw) (va_AO.use (hen.2.2.2.2.2.2 t ht)) rfl hdg rfl hn (by omega) hcells hslots fun cA kA comp f1 f2 f3 f4 => ?_
  obtain ⟨kA', comp', k1, k2, k3, k4⟩ := hRA
  have hcA : cA = G.2.2.2.2 t := Option.some.inj (f1.symm.trans k4)
  subst hcA
  generalize hH1 : H.push ({ cls := G.2.2.2.2 t, slots := Array.replicate n.toNatClampNeg .null, vm := .none } : Cell) = H1
  have z1 : H1.size = H.size + 1 := by rw [← hH1, Array.size_push]
  have e1 : H1[H.size]? = some (arrV (G.2.2.2.2 t) n.toNatClampNeg (fun _ => .null)) := by rw [← hH1, Array.getElem?_push_size, ← arrV_new]
  have o1 : ∀ q : Nat, q < H.size → H1[q]? = H[q]? := fun q hq => by rw [← hH1, Array.getElem?_push, if_neg (Nat.ne_of_lt hq)]
  exact kn H1 (hr.new hb1 ht z1 o1 e1) (am_newS hS z1 o1)
theorem am_r_acp (K : am_Kx G stc p R s m args meth c k q d) (hr : am_rel G stc h H) (hS : va_S (am_A G) s.heap H locs) (hd : d ≠ 0) (hml : LS.size = q.2.2.1) {a0 a n0 n1 : Nat} {f g : Nat → Int32} (ha0 : am_at h a0 = some (.inl (0, n0, .inl f))) (ha1 : am_at h a = some (.inl (0, n1, .inl g))) {sp dp n : Int32} (h1 : ¬ sp < 0) (h2 : ¬ dp < 0) (h3 : ¬ n < 0) (h4 : sp.toNatClampNeg + n.toNatClampNeg ≤ n0) (h5 : dp.toNatClampNeg + n.toNatClampNeg ≤ n1) (hw : (rest.map fun v => v.category).sum ≤ 8)
    {idx wi nst : Nat} (hp : am_okM (q.2.2.2.2.1, idx, 9998, wi, nst) = true) (hdg : decode q.2.1 pc = .ok (.invokestatic idx, 3))
    (kn : ∀ H1 locs1, am_rel G stc (am_set h a (.inl (0, n1, .inl (va_cpy f g sp.toNatClampNeg dp.toNatClampNeg n.toNatClampNeg)))) H1 → va_S (am_A G) s.heap H1 locs1 → W p l e R s m args below meth c H1 locs1 cells slots Q (F0 m (pc + 3) LS rest)) : W p l e R s m args below meth c H locs cells slots Q (F0 m pc LS (.int n :: .int dp :: .ref (am_ad G a) :: .int sp :: .ref (am_ad G a0) :: rest)) := by
  obtain ⟨hx, -, hb, hmx, hown, hts, hen, -, hR, -⟩ := K
  have hlink : (Cond.methodLink (am_cnm q.2.2.2.2.1) idx arraycopyName).before args s = true := hts.at (i := wi) (by unfold am_okM at hp; rw [if_neg (show ¬ (9998 : Nat) = 9999 by decide), if_pos rfl] at hp; exact hp)
  rcases hr.look ha0 with ⟨b1, b2, b3, b4, b5⟩ | ⟨j, rfl, b2, b3⟩
  · rcases hr.look ha1 with ⟨c1, c2, c3, c4, c5⟩ | ⟨j, rfl, c2, c3⟩
    · rw [b4, c4]
      have nn : ∀ z : Int32, ¬ z < 0 → z.toInt = (z.toNatClampNeg : Int) := by
        intro z hz
        have hz0 : (0 : Int) ≤ z.toInt := by
          have := Int32.not_lt.mp hz
          simpa using Int32.le_iff_toInt_le.mp this
        show z.toInt = ((z.toInt.toNat : Nat) : Int)
        omega
      intro T hT X
      obtain ⟨-, k0, hk0, cm0, hkk0⟩ := (hen.1.2 0 _ rfl).1 n0 (fun j => .int (f j))
      obtain ⟨-, k1, hk1, cm1, hkk1⟩ := (hen.1.2 0 _ rfl).1 n1 (fun j => .int (g j))
      obtain ⟨vm', X', step⟩ := X.arraycopy hx hown hlink (hts.sys (w := .native arraycopyName) (List.mem_of_getElem? (l := am_sys) (i := 2) rfl)) (hts.sys (w := .static arraycopyName) (List.mem_of_getElem? (l := am_sys) (i := 3) rfl)) (hts.sys (w := .initialized "java/lang/System") (List.mem_of_getElem? (l := am_sys) (i := 4) rfl)) (src := G.2.1 + a0) (dst := G.2.1 + a) (cs := vp_cell (G.2.2.2.2 0) (n0, .inl f)) (cd := vp_cell (G.2.2.2.2 0) (n1, .inl g)) (srcPos := sp) (destPos := dp) (n := n) (by rw [hT]; exact b3) (by rw [hT]; exact c3)
        (fun _ h => by cases h) (fun _ h => by cases h) (fun h => by cases h) (fun h => by cases h) hk0 hk1 hkk0 hkk1 (by simp [refKind]) h1 h2 h3
        (by rw [nn sp h1, nn n h3]; show ¬ _ > ((arrV (G.2.2.2.2 0) n0 (fun j => .int (f j))).slots.size : Int); rw [arrV_size]; omega)
        (by rw [nn dp h2, nn n h3]; show ¬ _ > ((arrV (G.2.2.2.2 0) n1 (fun j => .int (g j))).slots.size : Int); rw [arrV_size]; omega)
        (fun vm₁ _ i hi => by
          have e : (vp_cell (G.2.2.2.2 0) (n0, .inl f)).slots.getD (sp.toNatClampNeg + i) .null = .int (f (sp.toNatClampNeg + i)) := by
            show (arrV (G.2.2.2.2 0) n0 (fun j => .int (f j))).slots.getD _ _ = _
            rw [Array.getD_eq_getD_getElem?, arrV_read _ _ (by omega)]
            rfl
          refine ⟨?_, ?_⟩
          · rw [e]
            rfl
          · rw [e]
            exact trivial)
        (g := F0 m pc LS (.int n :: .int dp :: .ref (G.2.1 + a) :: .int sp :: .ref (G.2.1 + a0) :: rest)) rfl (by rw [hmx]; exact hml) (rest := rest) rfl (by rw [hb]; exact hdg) (by omega) (by show 2 * 0 + _ + (7 + 11) ≤ _; omega)
      have e1 : copied (vp_cell (G.2.2.2.2 0) (n0, .inl f)) (vp_cell (G.2.2.2.2 0) (n1, .inl g)) sp dp n = vp_cell (G.2.2.2.2 0) (n1, .inl (va_cpy f g sp.toNatClampNeg dp.toNatClampNeg n.toNatClampNeg)) := va_copied (fun z => .int z) _ _ f g h4
      rw [e1] at X' step
      have hl : G.2.1 + a < H.size := (Array.getElem?_eq_some_iff.mp c3).1
      generalize hv1 : vp_cell (G.2.2.2.2 0) (n1, .inl (va_cpy f g sp.toNatClampNeg dp.toNatClampNeg n.toNatClampNeg)) = nc at X' step
      have hheap : ((T.setVm vm').setCell (G.2.1 + a) nc).heap = H.setIfInBounds (G.2.1 + a) nc := by rw [← hT]; rfl
      have oq : ∀ q : Nat, q ≠ G.2.1 + a → (H.setIfInBounds (G.2.1 + a) nc)[q]? = H[q]? := fun q hq => by simp [Array.getElem?_setIfInBounds, Ne.symm hq]
      have z : (H.setIfInBounds (G.2.1 + a) nc).size = H.size := by simp
      obtain ⟨t, a1, b1⟩ := kn _ _ (hr.put c1 (show (0 : Nat) < 2 by omega) z oq (show (H.setIfInBounds (G.2.1 + a) nc)[G.2.1 + a]? = some (vp_cell _ _) by rw [hv1]; simp [Array.getElem?_setIfInBounds, hl])) ⟨by rw [z]; exact hS.1, fun q g1 g2 => by
          rw [oq q (fun e => g2 (by rw [e]; exact Nat.le_add_right _ _))]
          exact hS.2.1 q g1 g2, fun q hq => by
          rcases List.mem_append.mp hq with h | h
          · exact hS.2.2 q h
          · obtain ⟨z, -, hz⟩ := List.mem_map.mp h
            rw [← hz]
            exact Nat.le_add_right _ _⟩ _ hheap X'
      exact ⟨t, step t a1, b1⟩
    · have h9 : (0 : Nat) = 10 ∨ (0 : Nat) = 11 := (hen.2.1 j _ c2).2
      omega
  · have h9 : (0 : Nat) = 10 ∨ (0 : Nat) = 11 := (hen.2.1 j _ b2).2
    omega
end AMR
