/-! locals -/
def am_la (G : am_G) (n : Nat) (ls : am_L) : List (Nat × Value) := (List.range n).filterMap (fun j => (am_get ls j).map (fun w => (j, am_cv G w)))
theorem am_la_mem {G : am_G} {n : Nat} {ls : am_L} {q : Nat × Value} : q ∈ am_la G n ls ↔ q.1 < n ∧ ∃ w, am_get ls q.1 = some w ∧ q.2 = am_cv G w := by
  unfold am_la
  rw [List.mem_filterMap]
  constructor
  · rintro ⟨j, hj, he⟩
    cases hg : am_get ls j with
    | none => rw [hg] at he; cases he
    | some w =>
      rw [hg] at he
      cases he
      exact ⟨List.mem_range.mp hj, w, hg, rfl⟩
  · rintro ⟨h1, w, h2, h3⟩
    exact ⟨q.1, List.mem_range.mpr h1, by rw [h2]; obtain ⟨a, b⟩ := q; simp at h3; subst h3; rfl⟩
def am_lr (G : am_G) (n : Nat) (ls : am_L) (LS : Array Slot) : Prop := ls.length = n ∧ lv_has LS n (am_la G n ls)
theorem am_get_lt {ls : am_L} {i : Nat} {v : Value} (h : am_get ls i = some v) : i < ls.length := by
  unfold am_get at h
  by_cases hi : i < ls.length
  · exact hi
  · rw [List.getElem?_eq_none (by omega)] at h
    cases h
theorem am_lr.get {G : am_G} {n : Nat} {ls : am_L} {LS : Array Slot} (h : am_lr G n ls LS) {i : Nat} {v : Value} (hv : am_get ls i = some v) : LS[i]? = some (.val (am_cv G v)) :=
  h.2.2.2 (i, am_cv G v) (am_la_mem.mpr ⟨by rw [← h.1]; exact am_get_lt hv, v, hv, rfl⟩)
theorem am_get_cons0 (x : Option Value) (r : am_L) : am_get (x :: r) 0 = x := rfl
theorem am_get_cons (x : Option Value) (r : am_L) (i : Nat) : am_get (x :: r) (i + 1) = am_get r i := rfl
theorem am_put_spec : ∀ (ls : am_L) (i : Nat) (v : Value) (ls' : am_L), am_put ls i v = some ls' → ls'.length = ls.length ∧ i < ls.length ∧ am_get ls' i = some v ∧ (∀ j, j ≠ i → am_get ls' j = am_get ls j) ∧ ∀ j, j + 1 = i → am_lg (am_get ls j) = false
  | [], _, _, _, h => by simp [am_put] at h
  | x :: r, 0, v, ls', h => by
    simp only [am_put, Option.some.injEq] at h
    subst h
    refine ⟨rfl, by simp, rfl, fun j hj => ?_, fun j hj => by omega⟩
    cases j with
    | zero => exact absurd rfl hj
    | succ j => rfl
  | x :: r, 1, v, ls', h => by
    unfold am_put at h
    split at h
    · cases h
    · rename_i hx
      split at h
      · cases h
      · simp only [Option.some.injEq] at h
        subst h
        refine ⟨by simp, by simp, rfl, fun j hj => ?_, fun j hj => ?_⟩
        · match j, hj with
          | 0, _ => rfl
          | j + 2, _ => rfl
        · have : j = 0 := by omega
          subst this
          exact (by simpa using hx : am_lg x = false)
  | x :: r, i + 2, v, ls', h => by
    unfold am_put at h
    split at h
    · cases h
    · rename_i r' hr
      simp only [Option.some.injEq] at h
      subst h
      obtain ⟨h1, h2, h3, h4, h5⟩ := am_put_spec r (i + 1) v r' hr
      refine ⟨by simp [h1], by simp; omega, h3, fun j hj => ?_, fun j hj => ?_⟩
      · cases j with
        | zero => rfl
        | succ j => exact h4 j (by omega)
      · cases j with
        | zero => omega
        | succ j => exact h5 j (by omega)
theorem am_put2_spec : ∀ (ls : am_L) (i : Nat) (v : Value) (ls' : am_L), am_put2 ls i v = some ls' → ls'.length = ls.length ∧ i + 1 < ls.length ∧ am_get ls' i = some v ∧ am_get ls' (i + 1) = none ∧ (∀ j, j ≠ i → j ≠ i + 1 → am_get ls' j = am_get ls j) ∧ ∀ j, j + 1 = i → am_lg (am_get ls j) = false
  | [], _, _, _, h => by simp [am_put2] at h
  | [x], 0, _, _, h => by simp [am_put2] at h
  | x :: y :: r, 0, v, ls', h => by
    simp only [am_put2, Option.some.injEq] at h
    subst h
    refine ⟨rfl, by simp, rfl, rfl, fun j hj hj2 => ?_, fun j hj => by omega⟩
    match j, hj, hj2 with
    | 0, h, _ => exact absurd rfl h
    | 1, _, h => exact absurd rfl h
    | j + 2, _, _ => rfl
  | x :: r, 1, v, ls', h => by
    unfold am_put2 at h
    split at h
    · cases h
    · rename_i hx
      split at h
      · simp only [Option.some.injEq] at h
        subst h
        refine ⟨by simp, by simp, rfl, rfl, fun j hj hj2 => ?_, fun j hj => ?_⟩
        · match j, hj, hj2 with
          | 0, _, _ => rfl
          | 1, h, _ => exact absurd rfl h
          | 2, _, h => exact absurd rfl h
          | j + 3, _, _ => rfl
        · have : j = 0 := by omega
          subst this
          exact (by simpa using hx : am_lg x = false)
      · cases h
  | x :: r, i + 2, v, ls', h => by
    unfold am_put2 at h
    split at h
    · cases h
    · rename_i r' hr
      simp only [Option.some.injEq] at h
      subst h
      obtain ⟨h1, h2, h3, h6, h4, h5⟩ := am_put2_spec r (i + 1) v r' hr
      refine ⟨by simp [h1], by simp; omega, h3, h6, fun j hj hj2 => ?_, fun j hj => ?_⟩
      · cases j with
        | zero => rfl
        | succ j => exact h4 j (by omega) (by omega)
      · cases j with
        | zero => omega
        | succ j => exact h5 j (by omega)
def am_fvOk (G : am_G) : Prop := G.2.2.2.1 = .null ∨ ∃ t, G.2.2.2.1 = .ref t
theorem am_cat {G : am_G} (hf : am_fvOk G) (v : Value) : (am_cv G v).category = v.category := by
  cases v with
  | float b =>
    show (G.2.2.2.1).category = 1
    rcases hf with h | ⟨t, h⟩ <;> rw [h] <;> rfl
  | _ => rfl
theorem am_lr.put {G : am_G} (hf : am_fvOk G) {n i : Nat} {ls ls' : am_L} {LS LS' : Array Slot} {v : Value} (h : am_lr G n ls LS) (hp : am_put ls i v = some ls') (h2 : lv_has LS' n ((i, am_cv G v) :: (am_la G n ls).filter (fun q => !(q.1 == i) && !(q.1 + 1 == i && q.2.category == 2)))) : am_lr G n ls' LS' := by
  obtain ⟨p1, p2, p3, p4, p5⟩ := am_put_spec ls i v ls' hp
  refine ⟨p1.trans h.1, h2.1, h2.2.1, fun q hq => ?_⟩
  obtain ⟨q1, w, q2, q3⟩ := am_la_mem.mp hq
  by_cases hi : q.1 = i
  · rw [hi, p3] at q2
    cases q2
    refine h2.2.2 q ?_
    obtain ⟨a, b⟩ := q
    simp at hi q3
    subst hi; subst q3
    exact List.mem_cons_self
  · rw [p4 q.1 hi] at q2
    refine h2.2.2 q (List.mem_cons_of_mem _ (List.mem_filter.mpr ⟨am_la_mem.mpr ⟨q1, w, q2, q3⟩, ?_⟩))
    simp only [Bool.and_eq_true, Bool.not_eq_true', beq_eq_false_iff_ne, ne_eq, hi, not_false_eq_true, true_and, Bool.and_eq_false_iff]
    by_cases hj : q.1 + 1 = i
    · right
      have := p5 q.1 hj
      rw [q2] at this
      rw [q3, am_cat hf]
      cases w <;> simp_all [Value.category, am_lg]
    · exact Or.inl hj
theorem am_lr.put2 {G : am_G} (hf : am_fvOk G) {n i : Nat} {ls ls' : am_L} {LS LS' : Array Slot} {v : Value} (h : am_lr G n ls LS) (hp : am_put2 ls i v = some ls') (h2 : lv_has LS' n ((i, am_cv G v) :: (am_la G n ls).filter (fun q => !(q.1 == i) && (!(q.1 == i + 1) && !(q.1 + 1 == i && q.2.category == 2))))) : am_lr G n ls' LS' := by
  obtain ⟨p1, p2, p3, p6, p4, p5⟩ := am_put2_spec ls i v ls' hp
  refine ⟨p1.trans h.1, h2.1, h2.2.1, fun q hq => ?_⟩
  obtain ⟨q1, w, q2, q3⟩ := am_la_mem.mp hq
  by_cases hi : q.1 = i
  · rw [hi, p3] at q2
    cases q2
    refine h2.2.2 q ?_
    obtain ⟨a, b⟩ := q
    simp at hi q3
    subst hi; subst q3
    exact List.mem_cons_self
  · by_cases hi2 : q.1 = i + 1
    · rw [hi2, p6] at q2
      cases q2
    · rw [p4 q.1 hi hi2] at q2
      refine h2.2.2 q (List.mem_cons_of_mem _ (List.mem_filter.mpr ⟨am_la_mem.mpr ⟨q1, w, q2, q3⟩, ?_⟩))
      simp only [Bool.and_eq_true, Bool.not_eq_true', beq_eq_false_iff_ne, ne_eq, hi, hi2, not_false_eq_true, true_and, Bool.and_eq_false_iff]
      by_cases hj : q.1 + 1 = i
      · right
        have := p5 q.1 hj
        rw [q2] at this
        rw [q3, am_cat hf]
        cases w <;> simp_all [Value.category, am_lg]
      · exact Or.inl hj
theorem am_ini_len : ∀ (n : Nat) (as : List Value), (am_ini n as).length = n
  | n, [] => by simp [am_ini]
  | 0, v :: r => by cases v <;> simp [am_ini]
  | 1, v :: r => by cases v <;> simp [am_ini, am_ini_len 0 r]
  | n + 2, v :: r => by cases v <;> simp [am_ini, am_ini_len n r, am_ini_len (n + 1) r]
theorem am_ini_get {G : am_G} (hf : am_fvOk G) : ∀ (as : List Value) (n b : Nat), am_wd as ≤ n → ∀ j w, am_get (am_ini n as) j = some w → (b + j, am_cv G w) ∈ lv_args b (as.map (am_cv G))
  | [], n, b, _, j, w, h => by
    simp only [am_ini, am_get, List.getElem?_replicate] at h
    split at h <;> simp_all
  | v :: r, n, b, hw, j, w, h => by
    have hw' : v.category + am_wd r ≤ n := by simpa [am_wd] using hw
    have hc := am_cat hf v
    rcases lv_cat v with h1 | h1
    · obtain ⟨n, rfl⟩ : ∃ m, n = m + 1 := ⟨n - 1, by omega⟩
      have e : am_ini (n + 1) (v :: r) = some v :: am_ini n r := by
        cases v <;> first | rfl | (simp [Value.category] at h1; done) | (cases n <;> rfl)
      rw [e] at h
      show _ ∈ lv_args b (am_cv G v :: r.map (am_cv G))
      unfold lv_args
      cases j with
      | zero =>
        cases h
        exact List.mem_cons_self
      | succ j =>
        rw [if_neg (by rw [hc]; omega)]
        have := am_ini_get hf r n (b + 1) (by omega) j w h
        rw [show b + 1 + j = b + (j + 1) by omega] at this
        exact List.mem_cons_of_mem _ this
    · obtain ⟨n, rfl⟩ : ∃ m, n = m + 2 := ⟨n - 2, by omega⟩
      have e : am_ini (n + 2) (v :: r) = some v :: none :: am_ini n r := by
        cases v <;> first | rfl | (simp [Value.category] at h1; done)
      rw [e] at h
      show _ ∈ lv_args b (am_cv G v :: r.map (am_cv G))
      unfold lv_args
      match j, h with
      | 0, h =>
        cases h
        exact List.mem_cons_self
      | 1, h => cases h
      | j + 2, h =>
        rw [if_pos (by rw [hc]; exact h1)]
        have := am_ini_get hf r n (b + 2) (by omega) j w h
        rw [show b + 2 + j = b + (j + 2) by omega] at this
        exact List.mem_cons_of_mem _ this
theorem am_sl_len {G : am_G} (hf : am_fvOk G) : ∀ (as : List Value), (lg_sl (as.map (am_cv G))).length = am_wd as
  | [] => rfl
  | v :: r => by
    have ih := am_sl_len hf r
    have e : lg_sl ((v :: r).map (am_cv G)) = (if (am_cv G v).category = 2 then [.val (am_cv G v), .second] else [.val (am_cv G v)]) ++ lg_sl (r.map (am_cv G)) := rfl
    rw [e, List.length_append, ih]
    have e2 : am_wd (v :: r) = v.category + am_wd r := by simp [am_wd]
    rw [e2, am_cat hf v]
    rcases lv_cat v with h1 | h1 <;> simp [h1]
theorem am_lr.ini {G : am_G} (hf : am_fvOk G) {as : List Value} {n : Nat} (hw : am_wd as ≤ n) : am_lr G n (am_ini n as) ((lg_sl (as.map (am_cv G)) ++ List.replicate (n - (lg_sl (as.map (am_cv G))).length) Slot.unset).toArray) := by
  have h := lv_entry (as.map (am_cv G)) (n := n) (by rw [am_sl_len hf]; exact hw)
  refine ⟨am_ini_len n as, h.1, h.2.1, fun q hq => h.2.2 q ?_⟩
  obtain ⟨q1, w, q2, q3⟩ := am_la_mem.mp hq
  have := am_ini_get (G := G) hf as n 0 hw q.1 w q2
  rw [Nat.zero_add] at this
  obtain ⟨a, b⟩ := q
  simp at q3
  subst q3
  exact this
