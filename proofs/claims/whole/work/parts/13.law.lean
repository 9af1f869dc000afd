/-- what is left: the abstract machine's run of the law's method comes to 1, in the claim's room -/
def am_Owed : Prop := ∀ (L : Nat) (xs : Nat → Int32), L ≤ 3072 → ∃ h' : am_H, am_ev 10 223 0 (am_ini 4 [.ref 1000000]) [] (am_h0 L xs) = some (some (.int 1), h') ∧ h'.1 ≤ 600000 ∧ h'.2.1 ≤ 7302250
/-! THE CLAIM OUT OF ONE WALK OF THE LAW'S BODY. Your part is whole_start (and what it stands on); all else here is the same for every law, but numbers. -/
def R_law : String := "PaternosterRideLaw"
def lw_P (b : Addr) (xs : List Int32) (args : Array Value) (s : State) : Prop := args = #[.ref b] ∧ s.IntsAt b xs ∧ xs.length ≤ 3072 ∧ (Jvm.Cond.and given_1 narrow_1).before args s = true
def lw_Q (_ : Array Value) (s : State) (o : Outcome) (t : State) : Prop := o = .returned (some (.int 1)) ∧ Framed s o t [] 600000 7302250
def lw_Z (below : List Frame) (a : Array Value) (s : State) : State → Prop := fun t => ∃ o, t.status = .running ∧ Ended t below o ∧ lw_Q a s o t
/-- the law's own end, with 1 on the stack, nothing written that was there before, its room as the claim has it -/
theorem lw_ret {p : Program} {l : Launch} {e : Env} {s : State} {m : MethodId} {below : List Frame} {meth : Method} {c : Code} {b : Nat} (hx : p.tables.exec = Jvm.exec) (hb : c.code = code) (hr : meth.sig.returnType = ret) (hlocks : meth.locks = false) {pc : Nat} {H : Heap} {ls : Array Slot} (hdg : decode code pc = .ok (.ireturn, 1)) : W p l e room_1 s m #[Value.ref b] below meth c H [] 600000 7302250 (lw_Z below #[Value.ref b] s) (F0 m pc ls [.int 1]) := by
  intro T hT X
  obtain ⟨fs, hret, hrun, hended, hW, hframe⟩ := X.leave (v := some (.int 1)) (hlocks := hlocks) (fun h => by rw [hr] at h; cases h)
  have hmeth' : T.vm.method? m = some meth := X.method'
  refine ⟨T.setFrames fs, ?_, .returned (some (.int 1)), hrun, hended, rfl, ⟨_, rfl⟩, hW, hframe⟩
  jvm_step X.here [X.here.top, hx, hb, hdg, hmeth', hr, ret, narrow_b1]
  (try refine ⟨rfl, ?_⟩); (try refine ⟨rfl, ?_⟩)
  first | (intro acts; rw [hret _ acts rfl rfl rfl]) | rw [hret _ _ rfl rfl rfl]
  exact Steps.refl _
/-- what holds at the law's entry: the machine, the code, the tables' words (any of lw_tbl by 'hts w (by decide +kernel)'), the script of L ints xs at the cell b, what the Statement gives of the start (any of its parts by flat_of_before) -/
def lw_At (p : Program) (s : State) (m : MethodId) (meth : Method) (c : Code) (b L : Nat) (xs : Nat → Int32) : Prop :=
  p.tables.exec = Jvm.exec ∧ c.code = code ∧ meth.sig.returnType = ret ∧ c.maxLocals = 4 ∧ s.vm.findClass R_law = some m.cls ∧ (∀ w ∈ lw_tbl, w.before #[Value.ref b] s = true) ∧ va_X b L xs s s.heap ∧ b < s.heap.size ∧ meth.locks = false ∧ (Jvm.Cond.and given_1 narrow_1).before #[Value.ref b] s = true
theorem am_h0_rel {G : am_G} {s : State} {L : Nat} {xs : Nat → Int32} (hB : G.2.1 = s.heap.size) : am_rel G (am_stc L xs) (am_h0 L xs) s.heap := by
  refine ⟨by rw [hB]; rfl, by show 0 ≤ _; omega, fun k q h => ?_, fun k hk => ?_, fun k _ hk => ?_, fun j => ?_⟩
  · exact absurd h (by simp [am_ws, am_h0])
  · exact absurd hk (Nat.not_lt_zero k)
  · show (if k < 1000000 then none else _) = none
    rw [if_pos hk]
  · show (if 1000000 + j < 1000000 then none else am_stc L xs (1000000 + j - 1000000)) = _
    rw [if_neg (by omega), Nat.add_sub_cancel_left]
set_option maxRecDepth 100000 in
theorem am_law_mt : am_mt[223]? = some (⟨"PaternosterRideLaw", "law", "([I)Z"⟩, code, 4, some .boolean, 15, 1, 0, 0, 0, 0, 0) := rfl
theorem am_start (hO : am_Owed) {p : Program} {e : Env} {s : State} {m : MethodId} {below : List Frame} {meth : Method} {c : Code} (l : Launch) {b L : Nat} {xs : Nat → Int32} (hL : L ≤ 3072) (C0 : lw_At p s m meth c b L xs) : W p l e room_1 s m #[Value.ref b] below meth c s.heap [] 0 0 (lw_Z below #[Value.ref b] s) (entryFrame m ([Value.ref b] : List Value).toArray 4) := by
  obtain ⟨hx, hb, hr, hml, hown, hts, hX, hbl, hlocks, hgv⟩ := id C0
  obtain ⟨G, hB, hfv, hsa, hen, had⟩ := am_env hgv hts hX hbl (by omega)
  obtain ⟨h', hev, hc1, hc2⟩ := hO L xs hL
  obtain ⟨n, hn⟩ := am_ev_some hev
  have K : am_Kx G (am_stc L xs) p room_1 s m #[Value.ref b] meth c 223 (⟨"PaternosterRideLaw", "law", "([I)Z"⟩, code, 4, some .boolean, 15, 1, 0, 0, 0, 0, 0) 10 :=
    ⟨hx, am_law_mt, hb, hml, hown, fun w h _ => hts w h, hen, fun hi => absurd (am_isI_of am_law_mt hi) (by decide), ⟨by decide, by decide⟩, Nat.le_of_eq hB, hfv, hsa⟩
  have hcv : am_cv G (.ref 1000000) = .ref b := by show Value.ref (am_ad G 1000000) = _; rw [had]
  have hmap : ([.ref 1000000] : List Value).map (am_cv G) = [.ref b] := by simp [hcv]
  rw [lg_entry_eq]
  have hl := am_lr.ini (G := G) hfv (as := [.ref 1000000]) (n := 4) (by decide)
  rw [hmap] at hl
  have := am_body (below := below) (e := e) (Q := lw_Z below #[Value.ref b] s) (n0 := 0) (z0 := 0) (r := (some (.int 1), h')) K (fun d' hd => am_sound l G (am_stc L xs) hfv hsa d') ⟨hc1, hc2⟩ (fun pc LS H locs hrt hrel hS => ?_) n 0 (am_ini 4 [.ref 1000000]) [] (am_h0 L xs) _ s.heap [] hn hl (am_h0_rel hB) va_S.rf ⟨Nat.le_refl _, Nat.le_refl _⟩
  · exact this
  · rcases hrt with ⟨v, ty, e1, e2, e3, e4⟩ | ⟨a, nm, e1, e2, e3⟩ | ⟨e1, e2, e3⟩
    · refine va_forget (fun z hz => by rw [← hB]; exact hS.2.2 z hz) ?_
      refine W.widen (k := 600000) (n := 7302250) hc1 hc2 ?_
      exact lw_ret hx hb hr hlocks e4
    · cases e1
    · cases e1
