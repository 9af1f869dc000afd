/-! how the abstract machine's cells and values lie in the machine's heap -/
/-- where the classes' slots are, the first free address, the addresses of what was there ahead, one value that is only carried, the array classes -/
abbrev am_G : Type := va_G × Nat × (Nat → Nat) × Value × (Nat → ClassId)
def am_A (G : am_G) : Nat → Prop := fun q => G.2.1 ≤ q
def am_ad (G : am_G) (k : Nat) : Nat := if k < 1000000 then G.2.1 + k else G.2.2.1 (k - 1000000)
def am_cv (G : am_G) : Value → Value
  | .ref k => .ref (am_ad G k)
  | .float _ => G.2.2.2.1
  | v => v
def am_cc (G : am_G) : va_E → va_E
  | .inr (c, fs) => .inr (c, fs.map (am_cv G))
  | .inl (t, n, .inr (.inr (.inr (.inr g)))) => .inl (G.2.2.2.2 t, n, .inr (.inr (.inr (.inr (fun j => (g j).map (am_ad G))))))
  | .inl (t, n, x) => .inl (G.2.2.2.2 t, n, x)
def am_cl : List vw_C := (List.range 9).map (fun ci => (am_cnm ci, am_T ci, am_N ci))
theorem am_cl_at {ci : Nat} (h : ci < 9) : am_cl[ci]? = some (am_cnm ci, am_T ci, am_N ci) := by
  unfold am_cl
  rw [List.getElem?_map, List.getElem?_range h]
  rfl
def am_tys (G : am_G) : List (ClassId × FieldType) := [(G.2.2.2.2 0, .int), (G.2.2.2.2 1, .boolean), (G.2.2.2.2 2, .object (am_el 2)), (G.2.2.2.2 3, .object (am_el 3)), (G.2.2.2.2 4, .object (am_el 4))]
def am_co (G : am_G) (h : am_H) (k : Nat) : va_E := match am_at h k with
  | some c => am_cc G c
  | none => .inr (0, [])
def am_ws (G : am_G) (h : am_H) : va_W := (List.range h.1).map (fun k => (G.2.1 + k, am_co G h k))
/-- a cell that was made -/
def am_dy : va_E → Prop
  | .inr (c, _) => c < 9
  | .inl (t, _, .inl _) => t < 2
  | .inl (t, _, .inr (.inr (.inr (.inr _)))) => t = 2 ∨ t = 3 ∨ t = 4
  | _ => False
def am_rel (G : am_G) (stc : Nat → Option va_E) (h : am_H) (H : Heap) : Prop :=
  H.size = G.2.1 + h.1 ∧ h.1 ≤ 1000000 ∧ va_P G.1 am_cl (am_ws G h) H ∧ (∀ k, k < h.1 → ∃ c, am_at h k = some c ∧ am_dy c) ∧ (∀ k, h.1 ≤ k → k < 1000000 → am_at h k = none) ∧ ∀ j, am_at h (1000000 + j) = stc j
/-- a cell that was there ahead -/
def am_sc (G : am_G) (j : Nat) (c : va_E) (U : State) (H : Heap) : Prop := match c with
  | .inl (t, n, .inl g) => va_T (if t = 10 then .int else .byte) (G.2.2.1 j) n (fun i => .int (g i)) (am_A G) U H ∧ (t = 10 ∨ t = 11)
  | .inr (ci, fs) => va_O (am_roN ci) (G.2.2.1 j) (am_A G) U H ∧ (ci = 20 ∨ ci = 21) ∧ ∀ k v, fs[k]? = some v → va_OF (am_roF ci k).1 (am_roF ci k).2.1 (am_roF ci k).2.2 (am_cv G v) (G.2.2.1 j) (am_A G) U H
  | _ => False
/-- what holds of the tables, and of what was there ahead -/
def am_en (G : am_G) (stc : Nat → Option va_E) (U : State) (H : Heap) : Prop :=
  va_K G.1 am_cl (am_tys G) U ∧ (∀ j c, stc j = some c → am_sc G j c U H) ∧ (∀ (j : Nat) (q : String × String × String × Value), am_sv[j]? = some q → va_Z q.1 q.2.1 q.2.2.1 (am_cv G q.2.2.2) (am_A G) U H) ∧ (∀ q ∈ am_pT, vk_R (am_cnm q.1) q.2.1 (am_tx q.2.2.1) (G.2.2.1 q.2.2.1) U)
  ∧ (∀ q ∈ am_pM, q.2.2.2.2 ≠ 0 → va_Nw (.methodLinkNest (am_cnm q.1) q.2.1 (am_mt.getD q.2.2.1 am_md).1 am_host) U) ∧ (∀ q ∈ am_pS, q.2.2.2.2 ≠ 0 → va_Nw (.fieldLinkNest (am_cnm q.1) q.2.1 (am_sv.getD q.2.2.1 am_svd).1 (am_sv.getD q.2.2.1 am_svd).2.1 (am_sv.getD q.2.2.1 am_svd).2.2.1 am_host) U)
  ∧ ∀ t, (t = 2 ∨ t = 3 ∨ t = 4) → va_AO (am_el t) U
theorem am_sc.move {G : am_G} {j : Nat} {c : va_E} {s U : State} {Hs H : Heap} (h : am_sc G j c s Hs) (hvm : s.vm.Alike U.vm) (hq : ∀ a : Nat, a < Hs.size → ¬ am_A G a → H[a]? = Hs[a]?) : am_sc G j c U H := by
  unfold am_sc at h ⊢
  split at h
  · exact ⟨(va_T.moved hvm h.1).kept hq, h.2⟩
  · exact ⟨(va_O.moved hvm h.1).kept hq, h.2.1, fun k v hk => (va_OF.moved hvm (h.2.2 k v hk)).kept hq⟩
  · exact h.elim
theorem am_en.move {G : am_G} {stc : Nat → Option va_E} {s U : State} {Hs H : Heap} (h : am_en G stc s Hs) (hW : s.WarmedH U.vm) (hq : ∀ a : Nat, a < Hs.size → ¬ am_A G a → H[a]? = Hs[a]?) : am_en G stc U H := by
  obtain ⟨h1, h2, h3, h4, h5, h6, h7⟩ := h
  exact ⟨va_K.moved hW.alike h1, fun j c hj => (h2 j c hj).move hW.alike hq, fun j q hj => (va_Z.moved hW.alike (h3 j q hj)).kept hq, fun q hq => vk_R.warm hW (h4 q hq), fun q hq hn => va_Nw.warmM hW (h5 q hq hn), fun q hq hn => va_Nw.warmF hW (h6 q hq hn), fun t ht => va_AO.moved hW.alike (h7 t ht)⟩
/-- the tables' words at a method's start -/
def am_hts (args : Array Value) (s : State) : Prop := ∀ w ∈ lw_tbl, goodWord w = true → w.before args s = true
theorem am_hts.at {args : Array Value} {s : State} (h : am_hts args s) {i : Nat} {w : Cond} (hw : am_w i w = true) : w.before args s = true := by
  unfold am_w at hw
  simp only [Bool.and_eq_true, decide_eq_true_eq] at hw
  exact h w (List.mem_of_getElem? hw.1) hw.2
theorem am_hts.sys {args : Array Value} {s : State} (h : am_hts args s) {w : Cond} (hw : w ∈ am_sys) : w.before args s = true := by
  have h1 := List.all_eq_true.mp am_sys_ok w hw
  simp only [Bool.and_eq_true, decide_eq_true_eq] at h1
  exact h w h1.1 h1.2
def am_gd : List Cond := lw_tbl.filter goodWord
theorem am_hts.of {args : Array Value} {s : State} (h : ∀ w ∈ am_gd, w.before args s = true) : am_hts args s := fun w h1 h2 => h w (List.mem_filter.mpr ⟨h1, h2⟩)
theorem am_hts.gd {args : Array Value} {s : State} (h : am_hts args s) : ∀ w ∈ am_gd, w.before args s = true := fun w hw => h w (List.mem_filter.mp hw).1 (List.mem_filter.mp hw).2
/-- the fields' words of a class -/
theorem am_uws {ci : Nat} (h : ci < 9) : ∀ w ∈ u_ws (am_cnm ci) (am_T ci) (am_N ci), w ∈ am_gd := by
  have h1 := List.all_eq_true.mp am_C_ok ci (List.mem_range.mpr h)
  intro w hw
  have h2 := List.all_eq_true.mp h1 w hw
  simp only [Bool.and_eq_true, decide_eq_true_eq] at h2
  exact List.mem_filter.mpr h2
theorem am_fnd_mem {α : Type} {l : List (Nat × Nat × α)} {c i : Nat} {x : α} (h : am_fnd l c i = some x) : (c, i, x) ∈ l := by
  unfold am_fnd at h
  cases hf : l.find? (fun q => q.1 == c && q.2.1 == i) with
  | none => rw [hf] at h; cases h
  | some q =>
    rw [hf] at h
    have h2 := List.find?_some hf
    simp only [Bool.and_eq_true, beq_iff_eq] at h2
    have h3 := List.mem_of_find?_eq_some hf
    obtain ⟨q1, q2, q3⟩ := q
    simp at h h2
    obtain ⟨rfl, rfl⟩ := h2
    subst h
    exact h3
theorem am_mt_ok {k : Nat} {q : am_M} (h : am_mt[k]? = some q) (hk : k < 223) : am_okm q = true ∧ am_cwP q := by
  have hm : q ∈ am_mt.take 223 := by
    have : (am_mt.take 223)[k]? = some q := by rw [List.getElem?_take, if_pos hk]; exact h
    exact List.mem_of_getElem? this
  refine ⟨List.all_eq_true.mp am_m_ok q hm, ?_⟩
  have e : am_mt.take 223 = am_mt0 ++ am_mt1 ++ am_mt2 ++ am_mt3 ++ am_mt4 ++ am_mt5.take 23 := by
    have h1 : (am_mt0 ++ am_mt1 ++ am_mt2 ++ am_mt3 ++ am_mt4).length = 200 := by decide +kernel
    have h2 := List.take_length_add_append (l₁ := am_mt0 ++ am_mt1 ++ am_mt2 ++ am_mt3 ++ am_mt4) (l₂ := am_mt5) 23
    rw [h1] at h2
    exact h2
  rw [e] at hm
  simp only [List.mem_append] at hm
  rcases hm with ((((h | h) | h) | h) | h) | h
  · exact am_cw0 q h
  · exact am_cw1 q h
  · exact am_cw2 q h
  · exact am_cw3 q h
  · exact am_cw4 q h
  · exact am_cw5 q h
