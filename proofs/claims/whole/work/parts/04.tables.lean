/-! the tables of part 02 are those of the claim -/
def am_cnm (c : Nat) : String := am_cn.getD c ""
def am_T (ci : Nat) : u_T := fun k => (am_ft.getD ci []).getD k ("", "", "", false)
def am_N (ci : Nat) : Nat := (am_ft.getD ci []).length
def am_ty (ci : Nat) : Nat → FieldType := fun k => (am_tt.getD ci []).getD k .int
def am_roN (ci : Nat) : String := if ci = 20 then "PaternosterRide$Kind" else "java/lang/String"
def am_roF (ci k : Nat) : String × String × String := (am_ro.getD (ci - 20) []).getD k ("", "", "")
def am_host : String := "PaternosterRide"
def am_w (i : Nat) (w : Cond) : Bool := decide (lw_tbl[i]? = some w) && goodWord w
def am_wn (i : Nat) (w : Cond) : Bool := decide (lw_tbl[i]? = some w)
def am_okF (q : Nat × Nat × Nat × Nat × Nat) : Bool := if q.2.2.1 < 9 then decide (q.2.2.2.1 < am_N q.2.2.1) && am_w q.2.2.2.2 (.fieldLink (am_cnm q.1) q.2.1 (am_T q.2.2.1 q.2.2.2.1).1 (am_T q.2.2.1 q.2.2.2.1).2.1 (am_T q.2.2.1 q.2.2.2.1).2.2.1)
  else decide (q.2.2.1 = 20 ∨ q.2.2.1 = 21) && decide (q.2.2.2.1 < 4) && am_w q.2.2.2.2 (.fieldLink (am_cnm q.1) q.2.1 (am_roF q.2.2.1 q.2.2.2.1).1 (am_roF q.2.2.1 q.2.2.2.1).2.1 (am_roF q.2.2.1 q.2.2.2.1).2.2)
def am_svd : String × String × String × Value := ("", "", "", .null)
def am_okS (q : Nat × Nat × Nat × Nat × Nat) : Bool := decide (q.2.2.1 < am_sv.length) && (if q.2.2.2.2 = 0 then am_w q.2.2.2.1 (.fieldLink (am_cnm q.1) q.2.1 (am_sv.getD q.2.2.1 am_svd).1 (am_sv.getD q.2.2.1 am_svd).2.1 (am_sv.getD q.2.2.1 am_svd).2.2.1)
  else am_wn q.2.2.2.1 (.fieldLinkNest (am_cnm q.1) q.2.1 (am_sv.getD q.2.2.1 am_svd).1 (am_sv.getD q.2.2.1 am_svd).2.1 (am_sv.getD q.2.2.1 am_svd).2.2.1 am_host))
def am_okN (q : Nat × Nat × Nat × Nat) : Bool := decide (q.2.2.1 < 9) && am_w q.2.2.2 (.classLink (am_cnm q.1) q.2.1 (am_cnm q.2.2.1))
def am_el (t : Nat) : String := if t = 2 then "PaternosterRide$Kind" else if t = 3 then "PaternosterRide$House" else "PaternosterRide$Notes"
def am_okA (q : Nat × Nat × Nat × Nat) : Bool := decide (q.2.2.1 = 2 ∨ q.2.2.1 = 3 ∨ q.2.2.1 = 4) && am_w q.2.2.2 (.classLink (am_cnm q.1) q.2.1 (am_el q.2.2.1))
def am_md : am_M := (⟨"", "", ""⟩, .empty, 0, none, 0, 0, 0, 0, 0, 0, 0)
def am_okM (q : Nat × Nat × Nat × Nat × Nat) : Bool := if q.2.2.1 = 9999 then am_w q.2.2.2.1 (.methodLink (am_cnm q.1) q.2.1 objectInit) else if q.2.2.1 = 9998 then am_w q.2.2.2.1 (.methodLink (am_cnm q.1) q.2.1 arraycopyName)
  else decide (q.2.2.1 < 223) && (if q.2.2.2.2 = 0 then am_w q.2.2.2.1 (.methodLink (am_cnm q.1) q.2.1 (am_mt.getD q.2.2.1 am_md).1) else am_wn q.2.2.2.1 (.methodLinkNest (am_cnm q.1) q.2.1 (am_mt.getD q.2.2.1 am_md).1 am_host))
def am_okI (q : Nat × Nat × Int × Nat) : Bool := am_w q.2.2.2 (.constant (am_cnm q.1) q.2.1 (Int32.ofInt q.2.2.1))
def am_okL (q : Nat × Nat × Int × Nat) : Bool := am_w q.2.2.2 (.constantLong (am_cnm q.1) q.2.1 (Int64.ofInt q.2.2.1))
def am_tx (j : Nat) : String := ["plain", "timid", "bearer", "idler", "hasty", "hall", "room", "shut"].getD (j - 7) ""
def am_okT (q : Nat × Nat × Nat × Nat) : Bool := am_wn q.2.2.2 (.stringRef (am_cnm q.1) q.2.1 (am_tx q.2.2.1))
def am_okm (q : am_M) : Bool := decide (q.1.cls = am_cnm q.2.2.2.2.1) && (if q.2.2.2.2.2.2.2.1 = 0 then am_w q.2.2.2.2.2.2.2.2.1 (.static q.1) else am_w q.2.2.2.2.2.2.2.2.1 (.instanceMethod q.1)) && am_w q.2.2.2.2.2.2.2.2.2.1 (.initialized q.1.cls)
  && (if q.2.2.2.2.2.2.2.1 = 1 then am_w q.2.2.2.2.2.2.2.2.2.2 (.selects q.1.cls q.1 q.1) else true) && (if q.2.2.2.2.2.2.2.1 = 2 then decide (q.1.name = "<init>") && decide (q.2.2.2.1 = none) else true) && decide (q.1.cls ≠ "java/lang/invoke/MethodHandle" ∧ q.1.cls ≠ "java/lang/invoke/VarHandle") && plainFor q.1
  && decide ((parseMethodDescriptor q.1.desc).map (fun d => d.parameters.length) = some (if q.2.2.2.2.2.2.2.1 = 0 then q.2.2.2.2.2.1 else q.2.2.2.2.2.1 - 1)) && (decide (q.2.2.2.2.2.2.2.1 = 0) || decide (0 < q.2.2.2.2.2.1)) && decide (q.2.2.1 ≤ 17) && decide (q.2.2.2.2.2.2.2.1 ≤ 2)
  && (match q.2.2.2.1 with | none => true | some .int => true | some .boolean => true | some .char => true | some .byte => true | some (.object _) => true | _ => false)
set_option maxRecDepth 100000 in
theorem am_F_ok : am_pF.all am_okF = true := by decide +kernel
set_option maxRecDepth 100000 in
theorem am_S_ok : am_pS.all am_okS = true := by decide +kernel
set_option maxRecDepth 100000 in
theorem am_N_ok : am_pN.all am_okN = true := by decide +kernel
set_option maxRecDepth 100000 in
theorem am_A_ok : am_pA.all am_okA = true := by decide +kernel
set_option maxRecDepth 100000 in
theorem am_M_ok : am_pM.all am_okM = true := by decide +kernel
set_option maxRecDepth 100000 in
theorem am_I_ok : am_pI.all am_okI = true := by decide +kernel
set_option maxRecDepth 100000 in
theorem am_L_ok : am_pL.all am_okL = true := by decide +kernel
set_option maxRecDepth 100000 in
theorem am_T_ok : am_pT.all am_okT = true := by decide +kernel
set_option maxRecDepth 100000 in
theorem am_m_ok : (am_mt.take 223).all am_okm = true := by decide +kernel
def am_cwP (q : am_M) : Prop := lw_tbl[q.2.2.2.2.2.2.1]? = some (Cond.code q.1 q.2.1 q.2.2.1 q.2.2.2.1)
set_option maxRecDepth 100000 in
theorem am_cw0 : ∀ q ∈ am_mt0, am_cwP q := by
  intro q hq
  simp only [am_mt0, List.mem_cons, List.not_mem_nil, or_false] at hq
  rcases hq with rfl | rfl | rfl | rfl | rfl | rfl | rfl | rfl | rfl | rfl | rfl | rfl | rfl | rfl | rfl | rfl | rfl | rfl | rfl | rfl | rfl | rfl | rfl | rfl | rfl | rfl | rfl | rfl | rfl | rfl | rfl | rfl | rfl | rfl | rfl | rfl | rfl | rfl | rfl | rfl <;> exact rfl
set_option maxRecDepth 100000 in
theorem am_cw1 : ∀ q ∈ am_mt1, am_cwP q := by
  intro q hq
  simp only [am_mt1, List.mem_cons, List.not_mem_nil, or_false] at hq
  rcases hq with rfl | rfl | rfl | rfl | rfl | rfl | rfl | rfl | rfl | rfl | rfl | rfl | rfl | rfl | rfl | rfl | rfl | rfl | rfl | rfl | rfl | rfl | rfl | rfl | rfl | rfl | rfl | rfl | rfl | rfl | rfl | rfl | rfl | rfl | rfl | rfl | rfl | rfl | rfl | rfl <;> exact rfl
set_option maxRecDepth 100000 in
theorem am_cw2 : ∀ q ∈ am_mt2, am_cwP q := by
  intro q hq
  simp only [am_mt2, List.mem_cons, List.not_mem_nil, or_false] at hq
  rcases hq with rfl | rfl | rfl | rfl | rfl | rfl | rfl | rfl | rfl | rfl | rfl | rfl | rfl | rfl | rfl | rfl | rfl | rfl | rfl | rfl | rfl | rfl | rfl | rfl | rfl | rfl | rfl | rfl | rfl | rfl | rfl | rfl | rfl | rfl | rfl | rfl | rfl | rfl | rfl | rfl <;> exact rfl
set_option maxRecDepth 100000 in
theorem am_cw3 : ∀ q ∈ am_mt3, am_cwP q := by
  intro q hq
  simp only [am_mt3, List.mem_cons, List.not_mem_nil, or_false] at hq
  rcases hq with rfl | rfl | rfl | rfl | rfl | rfl | rfl | rfl | rfl | rfl | rfl | rfl | rfl | rfl | rfl | rfl | rfl | rfl | rfl | rfl | rfl | rfl | rfl | rfl | rfl | rfl | rfl | rfl | rfl | rfl | rfl | rfl | rfl | rfl | rfl | rfl | rfl | rfl | rfl | rfl <;> exact rfl
set_option maxRecDepth 100000 in
theorem am_cw4 : ∀ q ∈ am_mt4, am_cwP q := by
  intro q hq
  simp only [am_mt4, List.mem_cons, List.not_mem_nil, or_false] at hq
  rcases hq with rfl | rfl | rfl | rfl | rfl | rfl | rfl | rfl | rfl | rfl | rfl | rfl | rfl | rfl | rfl | rfl | rfl | rfl | rfl | rfl | rfl | rfl | rfl | rfl | rfl | rfl | rfl | rfl | rfl | rfl | rfl | rfl | rfl | rfl | rfl | rfl | rfl | rfl | rfl | rfl <;> exact rfl
set_option maxRecDepth 100000 in
theorem am_cw5 : ∀ q ∈ am_mt5.take 23, am_cwP q := by
  intro q hq
  simp only [am_mt5, List.take_succ_cons, List.take_zero, List.mem_cons, List.not_mem_nil, or_false] at hq
  rcases hq with rfl | rfl | rfl | rfl | rfl | rfl | rfl | rfl | rfl | rfl | rfl | rfl | rfl | rfl | rfl | rfl | rfl | rfl | rfl | rfl | rfl | rfl | rfl <;> exact rfl
theorem am_m_len : am_mt.length = 224 := by decide +kernel
def am_okC (ci : Nat) : Bool := (u_ws (am_cnm ci) (am_T ci) (am_N ci)).all (fun w => decide (w ∈ lw_tbl) && goodWord w)
set_option maxRecDepth 100000 in
theorem am_C_ok : (List.range 9).all am_okC = true := by decide +kernel
theorem am_ty_ok : ∀ ci, ci < 9 → ∀ k, k < am_N ci → parseFieldDescriptor (am_T ci k).2.2.1 = some (am_ty ci k) := by decide +kernel
theorem am_nm_ok : ∀ ci, ci < 9 → ∀ a, a < am_N ci → ∀ b, b < am_N ci → a ≠ b → (am_T ci a).2.1 ≠ (am_T ci b).2.1 := by decide +kernel
theorem am_dc_ok : ∀ ci, ci < 9 → ∀ k, k < am_N ci → (am_T ci k).1 = am_cnm ci := by decide +kernel
theorem am_df_ok : ∀ ci, ci < 9 → (am_dflt ci).length = am_N ci ∧ (∀ k, k < am_N ci → defaultValue (am_ty ci k) = vp_V (am_dflt ci) k) ∧ (∀ v ∈ am_dflt ci, v = .null ∨ v = .int 0) := by decide +kernel
set_option maxRecDepth 100000 in
theorem am_ins_ok : ∀ ci, ci < 9 → Cond.instantiable (am_cnm ci) (am_N ci) ∈ lw_tbl ∧ Cond.initialized (am_cnm ci) ∈ lw_tbl := by decide +kernel
def am_sys : List Cond := [.instanceMethod objectInit, .code objectInit ⟨#[0xb1]⟩ 1 none, .native arraycopyName, .static arraycopyName, .initialized "java/lang/System", .arrayClass .int, .arrayClass .boolean]
set_option maxRecDepth 100000 in
theorem am_sys_ok : am_sys.all (fun w => decide (w ∈ lw_tbl) && goodWord w) = true := by decide +kernel
