/-! the claim's start: what was there ahead; the law's run out of the abstract machine's -/
def am_byt : List (List Int32) := [[112, 108, 97, 105, 110], [116, 105, 109, 105, 100], [98, 101, 97, 114, 101, 114], [105, 100, 108, 101, 114], [104, 97, 115, 116, 121], [104, 97, 108, 108], [114, 111, 111, 109], [115, 104, 117, 116]]
def am_len : List Nat := [5, 5, 6, 5, 5, 4, 4, 4]
def am_stc (L : Nat) (xs : Nat → Int32) (j : Nat) : Option va_E :=
  if j = 0 then some (.inl (10, L, .inl xs)) else if j = 1 then some (.inl (10, 8, .inl (fun i => nI i)))
  else if j < 7 then some (.inr (20, [.int (nI (j - 2)), .ref (1000007 + (j - 2)), .int (([0, 1, 1, 0, 4] : List Int32).getD (j - 2) 0), .int (([1, 1, 2, 1, 1] : List Int32).getD (j - 2) 0)]))
  else if j < 15 then some (.inr (21, [.ref (1000015 + (j - 7)), .int 0]))
  else if j < 23 then some (.inl (11, am_len.getD (j - 15) 0, .inl (fun i => (am_byt.getD (j - 15) []).getD i 0)))
  else none
def am_h0 (L : Nat) (xs : Nat → Int32) : am_H := (0, 0, fun k => if k < 1000000 then none else am_stc L xs (k - 1000000))
def am_kn : List String := ["PLAIN", "TIMID", "BEARER", "IDLER", "HASTY"]
def am_kt (i : Nat) : Term := .static "PaternosterRide$Kind" (am_kn.getD i "") "LPaternosterRide$Kind;"
def am_so : List (String × Nat) := [("PaternosterRide$Kind", 53), ("PaternosterRide$Kind", 59), ("PaternosterRide$Kind", 62), ("PaternosterRide$Kind", 65), ("PaternosterRide$Kind", 68), ("PaternosterRide$Reader", 46), ("PaternosterRide$Reader", 55), ("PaternosterRide$Reader", 60)]
def am_st (i : Nat) : Term := .string (am_so.getD i ("", 0)).1 (am_so.getD i ("", 0)).2
def am_fl : List Cond := flatC (Jvm.Cond.and given_1 narrow_1)
def am_rt : Term := .static "PaternosterRide" "RISING" "[I"
theorem am_q1 : ∀ i, i < 5 → Cond.exactly (am_kt i) "PaternosterRide$Kind" ∈ am_fl ∧ Cond.eq (.field (am_kt i) "PaternosterRide$Kind" "number" "I") (.int (nI i)) ∈ am_fl ∧ Cond.eq (.field (am_kt i) "PaternosterRide$Kind" "word" "Ljava/lang/String;") (am_st i) ∈ am_fl ∧ Cond.eq (.field (am_kt i) "PaternosterRide$Kind" "parent" "I") (.int (([0, 1, 1, 0, 4] : List Int32).getD i 0)) ∈ am_fl ∧ Cond.eq (.field (am_kt i) "PaternosterRide$Kind" "takes" "I") (.int (([1, 1, 2, 1, 1] : List Int32).getD i 0)) ∈ am_fl := by decide +kernel
theorem am_q2 : ∀ i, i < 5 → ∀ j, j < 5 → i < j → Cond.not (.eq (am_kt i) (am_kt j)) ∈ am_fl := by decide +kernel
theorem am_q3 : ∀ i, i < 8 → Cond.exactly (am_st i) "java/lang/String" ∈ am_fl ∧ Cond.eq (.field (am_st i) "java/lang/String" "coder" "B") (.int 0) ∈ am_fl ∧ Cond.arrayOf (.field (am_st i) "java/lang/String" "value" "[B") .byte ∈ am_fl ∧ Cond.eq (.length (.field (am_st i) "java/lang/String" "value" "[B")) (.int (Int32.ofNat (am_len.getD i 0))) ∈ am_fl := by decide +kernel
theorem am_q4 : ∀ i, i < 8 → ∀ j, j < am_len.getD i 0 → Cond.eq (.elem (.field (am_st i) "java/lang/String" "value" "[B") (.int (Int32.ofNat j))) (.int ((am_byt.getD i []).getD j 0)) ∈ am_fl := by decide +kernel
theorem am_q5 : ∀ i, i < 8 → ∀ j, j < 8 → i ≠ j → Cond.not (Cond.eq (am_st i) (am_st j)) ∈ am_fl ∨ Cond.not (Cond.eq (am_st j) (am_st i)) ∈ am_fl := by decide +kernel
theorem am_q6 : Cond.arrayOf am_rt .int ∈ am_fl ∧ Cond.eq (.length am_rt) (.int (Int32.ofNat 8)) ∈ am_fl ∧ Cond.eq (.static "java/lang/String" "COMPACT_STRINGS" "Z") (.int 1) ∈ am_fl ∧ Cond.isRef (.static "jdk/internal/util/Preconditions" "SIOOBE_FORMATTER" "Ljava/util/function/BiFunction;") ∈ am_fl := by decide +kernel
theorem am_q7 : ∀ j, j < 8 → Cond.eq (.elem am_rt (.int (Int32.ofNat j))) (.int (nI j)) ∈ am_fl := by decide +kernel
set_option maxRecDepth 100000 in
theorem am_q8 : (∀ q ∈ am_sv, Cond.laysStatic q.1 q.2.1 q.2.2.1 ∈ lw_tbl ∧ Cond.initialized q.1 ∈ lw_tbl) ∧ (∀ t, t < 5 → 2 ≤ t → Cond.arrayOver (.object (am_el t)) ∈ lw_tbl) := by decide +kernel
theorem am_q9 : ∀ i, i < 8 → lw_tbl.contains (.stringRef (am_so.getD i ("", 0)).1 (am_so.getD i ("", 0)).2 (am_tx (7 + i))) = true := by decide +kernel
theorem am_q10 : ∀ q ∈ am_pT, ∃ i, i < 8 ∧ am_cnm q.1 = (am_so.getD i ("", 0)).1 ∧ q.2.1 = (am_so.getD i ("", 0)).2 ∧ q.2.2.1 = 7 + i := by decide +kernel
