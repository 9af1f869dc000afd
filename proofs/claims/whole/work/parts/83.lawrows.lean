/-! 223: PaternosterRideLaw law ([I)Z -/
theorem e_223_0 {d : Nat} {ls : am_L} {st : List Value} {h : am_H} (hn : h.1 < 1000000) : am_ev d 223 0 ls st h = am_ev d 223 3 ls (.ref h.1 :: st) (am_new h (am_dflt 7).length (.inr (7, am_dflt 7))) := x_new (show am_code 223 0 = some (.new 7, 3) by decide +kernel) (by decide) hn rfl
theorem e_223_3 {d : Nat} {ls : am_L} {st : List Value} {h : am_H} {x : Nat} : am_ev d 223 3 ls (.ref x :: st) h = am_ev d 223 4 ls (.ref x :: .ref x :: st) h := x_dupA (show am_code 223 3 = some (.dup, 1) by decide +kernel) rfl
theorem e_223_4 {d : Nat} {ls : am_L} {st : List Value} {h : am_H} {a : Nat} (hw : am_wd st ≤ 8) : am_ev (d + 1) 223 4 ls (.ref a :: st) h = am_bk (d + 1) 223 7 ls st (am_cal (d + 1) 82 [.ref a] h) := x_inv (q := mt_82) (show am_code 223 4 = some (.invokespecial 82, 3) by decide +kernel) (Or.inr (Or.inr ⟨rfl, rfl, by decide⟩)) mt_82_at rfl rfl rfl hw (Nat.le_of_ble_eq_true rfl) (fun _ => ⟨_, _, rfl, Or.inl rfl⟩) rfl
theorem e_223_7 {d : Nat} {x0 x1 x2 x3 : Option Value} {v : Nat} {st : List Value} {h : am_H} (hx : am_lg x0 = false) : am_ev d 223 7 [x0, x1, x2, x3] (.ref v :: st) h = am_ev d 223 8 [x0, some (.ref v), x2, x3] st h := x_astore (show am_code 223 7 = some (.astore 1, 1) by decide +kernel) (p_4_1 hx) rfl
theorem e_223_8 {d : Nat} {ls : am_L} {st : List Value} {h : am_H} (hn : h.1 < 1000000) : am_ev d 223 8 ls st h = am_ev d 223 11 ls (.ref h.1 :: st) (am_new h (am_dflt 8).length (.inr (8, am_dflt 8))) := x_new (show am_code 223 8 = some (.new 8, 3) by decide +kernel) (by decide) hn rfl
theorem e_223_11 {d : Nat} {ls : am_L} {st : List Value} {h : am_H} {x : Nat} : am_ev d 223 11 ls (.ref x :: st) h = am_ev d 223 12 ls (.ref x :: .ref x :: st) h := x_dupA (show am_code 223 11 = some (.dup, 1) by decide +kernel) rfl
theorem e_223_12 {d : Nat} {ls : am_L} {st : List Value} {h : am_H} {a : Nat} (hw : am_wd st ≤ 8) : am_ev (d + 1) 223 12 ls (.ref a :: st) h = am_bk (d + 1) 223 15 ls st (am_cal (d + 1) 126 [.ref a] h) := x_inv (q := mt_126) (show am_code 223 12 = some (.invokespecial 126, 3) by decide +kernel) (Or.inr (Or.inr ⟨rfl, rfl, by decide⟩)) mt_126_at rfl rfl rfl hw (Nat.le_of_ble_eq_true rfl) (fun _ => ⟨_, _, rfl, Or.inl rfl⟩) rfl
theorem e_223_15 {d : Nat} {x0 x1 x2 x3 : Option Value} {v : Nat} {st : List Value} {h : am_H} (hx : am_lg x1 = false) : am_ev d 223 15 [x0, x1, x2, x3] (.ref v :: st) h = am_ev d 223 16 [x0, x1, some (.ref v), x3] st h := x_astore (show am_code 223 15 = some (.astore 2, 1) by decide +kernel) (p_4_2 hx) rfl
theorem e_223_16 {d : Nat} {ls : am_L} {st : List Value} {h : am_H} : am_ev d 223 16 ls st h = am_ev d 223 17 ls (.int 0 :: st) h := x_iconst (show am_code 223 16 = some (.iconst 0, 1) by decide +kernel) (by decide +kernel) rfl
theorem e_223_17 {d : Nat} {x0 x1 x2 x3 : Option Value} {v : Int32} {st : List Value} {h : am_H} (hx : am_lg x2 = false) : am_ev d 223 17 [x0, x1, x2, x3] (.int v :: st) h = am_ev d 223 18 [x0, x1, x2, some (.int v)] st h := x_istore (show am_code 223 17 = some (.istore 3, 1) by decide +kernel) (p_4_3 hx) rfl
theorem e_223_18 {d : Nat} {x0 x1 x2 : Option Value} {v : Int32} {st : List Value} {h : am_H} : am_ev d 223 18 [x0, x1, x2, some (.int v)] st h = am_ev d 223 19 [x0, x1, x2, some (.int v)] (.int v :: st) h := x_iload (show am_code 223 18 = some (.iload 3, 1) by decide +kernel) rfl rfl
theorem e_223_19 {d : Nat} {x1 x2 x3 : Option Value} {v : Nat} {st : List Value} {h : am_H} : am_ev d 223 19 [some (.ref v), x1, x2, x3] st h = am_ev d 223 20 [some (.ref v), x1, x2, x3] (.ref v :: st) h := x_aload (show am_code 223 19 = some (.aload 0, 1) by decide +kernel) rfl rfl
theorem e_223_20 {d : Nat} {ls : am_L} {st : List Value} {h : am_H} {a t n : Nat} {g : (Nat → Int32) ⊕ (Nat → Int64) ⊕ (Nat → UInt32) ⊕ (Nat → UInt64) ⊕ (Nat → Option Nat)} (ha : am_at h a = some (.inl (t, n, g))) : am_ev d 223 20 ls (.ref a :: st) h = am_ev d 223 21 ls (.int (nI n) :: st) h := x_alen (show am_code 223 20 = some (.arraylength, 1) by decide +kernel) rfl ha
theorem e_223_21 {d : Nat} {ls : am_L} {st : List Value} {h : am_H} : am_ev d 223 21 ls st h = am_ev d 223 23 ls (.int 6 :: st) h := x_bipush (show am_code 223 21 = some (.bipush 6, 2) by decide +kernel) (by decide +kernel) rfl
theorem e_223_23 {d : Nat} {ls : am_L} {st : List Value} {h : am_H} {x y : Int32} : am_ev d 223 23 ls (.int y :: .int x :: st) h = am_ev d 223 24 ls (.int (x - y) :: st) h := x_isub (show am_code 223 23 = some (.isub, 1) by decide +kernel) rfl
theorem e_223_24 {d : Nat} {ls : am_L} {st : List Value} {h : am_H} {x y : Int32} : am_ev d 223 24 ls (.int y :: .int x :: st) h = if y < x then am_ev d 223 1182 ls st h else am_ev d 223 27 ls st h := x_icmp inferInstance (show am_code 223 24 = some (.if_icmp .gt 1182, 3) by decide +kernel) rfl rfl (xc_gt _ _)
theorem e_223_27 {d : Nat} {x1 x2 x3 : Option Value} {v : Nat} {st : List Value} {h : am_H} : am_ev d 223 27 [some (.ref v), x1, x2, x3] st h = am_ev d 223 28 [some (.ref v), x1, x2, x3] (.ref v :: st) h := x_aload (show am_code 223 27 = some (.aload 0, 1) by decide +kernel) rfl rfl
theorem e_223_28 {d : Nat} {x0 x1 x2 : Option Value} {v : Int32} {st : List Value} {h : am_H} : am_ev d 223 28 [x0, x1, x2, some (.int v)] st h = am_ev d 223 29 [x0, x1, x2, some (.int v)] (.int v :: st) h := x_iload (show am_code 223 28 = some (.iload 3, 1) by decide +kernel) rfl rfl
theorem e_223_29 {d : Nat} {ls : am_L} {st : List Value} {h : am_H} {a : Nat} {i : Int32} : am_ev d 223 29 ls (.int i :: .ref a :: st) h = am_ak (am_at h a) 0 10 i (fun v => am_ev d 223 30 ls (.int v :: st) h) := x_iald (show am_code 223 29 = some (.iaload, 1) by decide +kernel) rfl
theorem e_223_30 {d : Nat} {ls : am_L} {st : List Value} {h : am_H} : am_ev d 223 30 ls st h = am_ev d 223 32 ls (.int 63 :: st) h := x_bipush (show am_code 223 30 = some (.bipush 63, 2) by decide +kernel) (by decide +kernel) rfl
theorem e_223_32 {d : Nat} {ls : am_L} {st : List Value} {h : am_H} {x y : Int32} : am_ev d 223 32 ls (.int y :: .int x :: st) h = am_ev d 223 33 ls (.int (x &&& y) :: st) h := x_iand (show am_code 223 32 = some (.iand, 1) by decide +kernel) rfl
theorem e_223_33 {d : Nat} {ls : am_L} {st : List Value} {h : am_H} {x : Int32} : am_ev d 223 33 ls (.int x :: st) h = if x = 0 then am_ev d 223 184 ls st h else if x = 1 then am_ev d 223 207 ls st h else if x = 2 then am_ev d 223 220 ls st h else if x = 3 then am_ev d 223 233 ls st h else if x = 4 then am_ev d 223 246 ls st h else if x = 5 then am_ev d 223 279 ls st h else if x = 6 then am_ev d 223 312 ls st h else if x = 7 then am_ev d 223 345 ls st h else if x = 8 then am_ev d 223 368 ls st h else if x = 9 then am_ev d 223 391 ls st h else if x = 10 then am_ev d 223 414 ls st h else if x = 11 then am_ev d 223 427 ls st h else if x = 12 then am_ev d 223 450 ls st h else if x = 13 then am_ev d 223 473 ls st h else if x = 14 then am_ev d 223 516 ls st h else if x = 15 then am_ev d 223 539 ls st h else if x = 16 then am_ev d 223 552 ls st h else if x = 17 then am_ev d 223 585 ls st h else if x = 18 then am_ev d 223 608 ls st h else if x = 19 then am_ev d 223 631 ls st h else if x = 20 then am_ev d 223 684 ls st h else if x = 21 then am_ev d 223 727 ls st h else if x = 22 then am_ev d 223 740 ls st h else if x = 23 then am_ev d 223 753 ls st h else if x = 24 then am_ev d 223 766 ls st h else if x = 25 then am_ev d 223 789 ls st h else if x = 26 then am_ev d 223 842 ls st h else if x = 27 then am_ev d 223 885 ls st h else if x = 28 then am_ev d 223 928 ls st h else if x = 29 then am_ev d 223 981 ls st h else if x = 30 then am_ev d 223 1024 ls st h else if x = 31 then am_ev d 223 1087 ls st h else if x = 32 then am_ev d 223 1130 ls st h else if x = 33 then am_ev d 223 1153 ls st h else am_ev d 223 1176 ls st h := (x_tab (show am_code 223 33 = some (.tableswitch 1176 0 33 #[184, 207, 220, 233, 246, 279, 312, 345, 368, 391, 414, 427, 450, 473, 516, 539, 552, 585, 608, 631, 684, 727, 740, 753, 766, 789, 842, 885, 928, 981, 1024, 1087, 1130, 1153], 151) by decide +kernel)).trans (by
  by_cases h9 : x.toInt < 0 ∨ 33 < x.toInt
  · rw [if_pos h9]
    rw [if_neg (by rw [xt_eq]; show ¬ x.toInt = 0; omega)]
    rw [if_neg (by rw [xt_eq]; show ¬ x.toInt = 1; omega)]
    rw [if_neg (by rw [xt_eq]; show ¬ x.toInt = 2; omega)]
    rw [if_neg (by rw [xt_eq]; show ¬ x.toInt = 3; omega)]
    rw [if_neg (by rw [xt_eq]; show ¬ x.toInt = 4; omega)]
    rw [if_neg (by rw [xt_eq]; show ¬ x.toInt = 5; omega)]
    rw [if_neg (by rw [xt_eq]; show ¬ x.toInt = 6; omega)]
    rw [if_neg (by rw [xt_eq]; show ¬ x.toInt = 7; omega)]
    rw [if_neg (by rw [xt_eq]; show ¬ x.toInt = 8; omega)]
    rw [if_neg (by rw [xt_eq]; show ¬ x.toInt = 9; omega)]
    rw [if_neg (by rw [xt_eq]; show ¬ x.toInt = 10; omega)]
    rw [if_neg (by rw [xt_eq]; show ¬ x.toInt = 11; omega)]
    rw [if_neg (by rw [xt_eq]; show ¬ x.toInt = 12; omega)]
    rw [if_neg (by rw [xt_eq]; show ¬ x.toInt = 13; omega)]
    rw [if_neg (by rw [xt_eq]; show ¬ x.toInt = 14; omega)]
    rw [if_neg (by rw [xt_eq]; show ¬ x.toInt = 15; omega)]
    rw [if_neg (by rw [xt_eq]; show ¬ x.toInt = 16; omega)]
    rw [if_neg (by rw [xt_eq]; show ¬ x.toInt = 17; omega)]
    rw [if_neg (by rw [xt_eq]; show ¬ x.toInt = 18; omega)]
    rw [if_neg (by rw [xt_eq]; show ¬ x.toInt = 19; omega)]
    rw [if_neg (by rw [xt_eq]; show ¬ x.toInt = 20; omega)]
    rw [if_neg (by rw [xt_eq]; show ¬ x.toInt = 21; omega)]
    rw [if_neg (by rw [xt_eq]; show ¬ x.toInt = 22; omega)]
    rw [if_neg (by rw [xt_eq]; show ¬ x.toInt = 23; omega)]
    rw [if_neg (by rw [xt_eq]; show ¬ x.toInt = 24; omega)]
    rw [if_neg (by rw [xt_eq]; show ¬ x.toInt = 25; omega)]
    rw [if_neg (by rw [xt_eq]; show ¬ x.toInt = 26; omega)]
    rw [if_neg (by rw [xt_eq]; show ¬ x.toInt = 27; omega)]
    rw [if_neg (by rw [xt_eq]; show ¬ x.toInt = 28; omega)]
    rw [if_neg (by rw [xt_eq]; show ¬ x.toInt = 29; omega)]
    rw [if_neg (by rw [xt_eq]; show ¬ x.toInt = 30; omega)]
    rw [if_neg (by rw [xt_eq]; show ¬ x.toInt = 31; omega)]
    rw [if_neg (by rw [xt_eq]; show ¬ x.toInt = 32; omega)]
    rw [if_neg (by rw [xt_eq]; show ¬ x.toInt = 33; omega)]
    rfl
  · rw [if_neg h9]
    have h8 : x.toInt = 0 ∨ x.toInt = 1 ∨ x.toInt = 2 ∨ x.toInt = 3 ∨ x.toInt = 4 ∨ x.toInt = 5 ∨ x.toInt = 6 ∨ x.toInt = 7 ∨ x.toInt = 8 ∨ x.toInt = 9 ∨ x.toInt = 10 ∨ x.toInt = 11 ∨ x.toInt = 12 ∨ x.toInt = 13 ∨ x.toInt = 14 ∨ x.toInt = 15 ∨ x.toInt = 16 ∨ x.toInt = 17 ∨ x.toInt = 18 ∨ x.toInt = 19 ∨ x.toInt = 20 ∨ x.toInt = 21 ∨ x.toInt = 22 ∨ x.toInt = 23 ∨ x.toInt = 24 ∨ x.toInt = 25 ∨ x.toInt = 26 ∨ x.toInt = 27 ∨ x.toInt = 28 ∨ x.toInt = 29 ∨ x.toInt = 30 ∨ x.toInt = 31 ∨ x.toInt = 32 ∨ x.toInt = 33 := by omega
    rcases h8 with h8 | h8 | h8 | h8 | h8 | h8 | h8 | h8 | h8 | h8 | h8 | h8 | h8 | h8 | h8 | h8 | h8 | h8 | h8 | h8 | h8 | h8 | h8 | h8 | h8 | h8 | h8 | h8 | h8 | h8 | h8 | h8 | h8 | h8
    · rw [h8]
      rw [if_pos (by rw [xt_eq]; exact h8)]
      rfl
    · rw [h8]
      rw [if_neg (by rw [xt_eq]; show ¬ x.toInt = 0; omega)]
      rw [if_pos (by rw [xt_eq]; exact h8)]
      rfl
    · rw [h8]
      rw [if_neg (by rw [xt_eq]; show ¬ x.toInt = 0; omega)]
      rw [if_neg (by rw [xt_eq]; show ¬ x.toInt = 1; omega)]
      rw [if_pos (by rw [xt_eq]; exact h8)]
      rfl
    · rw [h8]
      rw [if_neg (by rw [xt_eq]; show ¬ x.toInt = 0; omega)]
      rw [if_neg (by rw [xt_eq]; show ¬ x.toInt = 1; omega)]
      rw [if_neg (by rw [xt_eq]; show ¬ x.toInt = 2; omega)]
      rw [if_pos (by rw [xt_eq]; exact h8)]
      rfl
    · rw [h8]
      rw [if_neg (by rw [xt_eq]; show ¬ x.toInt = 0; omega)]
      rw [if_neg (by rw [xt_eq]; show ¬ x.toInt = 1; omega)]
      rw [if_neg (by rw [xt_eq]; show ¬ x.toInt = 2; omega)]
      rw [if_neg (by rw [xt_eq]; show ¬ x.toInt = 3; omega)]
      rw [if_pos (by rw [xt_eq]; exact h8)]
      rfl
    · rw [h8]
      rw [if_neg (by rw [xt_eq]; show ¬ x.toInt = 0; omega)]
      rw [if_neg (by rw [xt_eq]; show ¬ x.toInt = 1; omega)]
      rw [if_neg (by rw [xt_eq]; show ¬ x.toInt = 2; omega)]
      rw [if_neg (by rw [xt_eq]; show ¬ x.toInt = 3; omega)]
      rw [if_neg (by rw [xt_eq]; show ¬ x.toInt = 4; omega)]
      rw [if_pos (by rw [xt_eq]; exact h8)]
      rfl
    · rw [h8]
      rw [if_neg (by rw [xt_eq]; show ¬ x.toInt = 0; omega)]
      rw [if_neg (by rw [xt_eq]; show ¬ x.toInt = 1; omega)]
      rw [if_neg (by rw [xt_eq]; show ¬ x.toInt = 2; omega)]
      rw [if_neg (by rw [xt_eq]; show ¬ x.toInt = 3; omega)]
      rw [if_neg (by rw [xt_eq]; show ¬ x.toInt = 4; omega)]
      rw [if_neg (by rw [xt_eq]; show ¬ x.toInt = 5; omega)]
      rw [if_pos (by rw [xt_eq]; exact h8)]
      rfl
    · rw [h8]
      rw [if_neg (by rw [xt_eq]; show ¬ x.toInt = 0; omega)]
      rw [if_neg (by rw [xt_eq]; show ¬ x.toInt = 1; omega)]
      rw [if_neg (by rw [xt_eq]; show ¬ x.toInt = 2; omega)]
      rw [if_neg (by rw [xt_eq]; show ¬ x.toInt = 3; omega)]
      rw [if_neg (by rw [xt_eq]; show ¬ x.toInt = 4; omega)]
      rw [if_neg (by rw [xt_eq]; show ¬ x.toInt = 5; omega)]
      rw [if_neg (by rw [xt_eq]; show ¬ x.toInt = 6; omega)]
      rw [if_pos (by rw [xt_eq]; exact h8)]
      rfl
    · rw [h8]
      rw [if_neg (by rw [xt_eq]; show ¬ x.toInt = 0; omega)]
      rw [if_neg (by rw [xt_eq]; show ¬ x.toInt = 1; omega)]
      rw [if_neg (by rw [xt_eq]; show ¬ x.toInt = 2; omega)]
      rw [if_neg (by rw [xt_eq]; show ¬ x.toInt = 3; omega)]
      rw [if_neg (by rw [xt_eq]; show ¬ x.toInt = 4; omega)]
      rw [if_neg (by rw [xt_eq]; show ¬ x.toInt = 5; omega)]
      rw [if_neg (by rw [xt_eq]; show ¬ x.toInt = 6; omega)]
      rw [if_neg (by rw [xt_eq]; show ¬ x.toInt = 7; omega)]
      rw [if_pos (by rw [xt_eq]; exact h8)]
      rfl
    · rw [h8]
      rw [if_neg (by rw [xt_eq]; show ¬ x.toInt = 0; omega)]
      rw [if_neg (by rw [xt_eq]; show ¬ x.toInt = 1; omega)]
      rw [if_neg (by rw [xt_eq]; show ¬ x.toInt = 2; omega)]
      rw [if_neg (by rw [xt_eq]; show ¬ x.toInt = 3; omega)]
      rw [if_neg (by rw [xt_eq]; show ¬ x.toInt = 4; omega)]
      rw [if_neg (by rw [xt_eq]; show ¬ x.toInt = 5; omega)]
      rw [if_neg (by rw [xt_eq]; show ¬ x.toInt = 6; omega)]
      rw [if_neg (by rw [xt_eq]; show ¬ x.toInt = 7; omega)]
      rw [if_neg (by rw [xt_eq]; show ¬ x.toInt = 8; omega)]
      rw [if_pos (by rw [xt_eq]; exact h8)]
      rfl
    · rw [h8]
      rw [if_neg (by rw [xt_eq]; show ¬ x.toInt = 0; omega)]
      rw [if_neg (by rw [xt_eq]; show ¬ x.toInt = 1; omega)]
      rw [if_neg (by rw [xt_eq]; show ¬ x.toInt = 2; omega)]
      rw [if_neg (by rw [xt_eq]; show ¬ x.toInt = 3; omega)]
      rw [if_neg (by rw [xt_eq]; show ¬ x.toInt = 4; omega)]
      rw [if_neg (by rw [xt_eq]; show ¬ x.toInt = 5; omega)]
      rw [if_neg (by rw [xt_eq]; show ¬ x.toInt = 6; omega)]
      rw [if_neg (by rw [xt_eq]; show ¬ x.toInt = 7; omega)]
      rw [if_neg (by rw [xt_eq]; show ¬ x.toInt = 8; omega)]
      rw [if_neg (by rw [xt_eq]; show ¬ x.toInt = 9; omega)]
      rw [if_pos (by rw [xt_eq]; exact h8)]
      rfl
    · rw [h8]
      rw [if_neg (by rw [xt_eq]; show ¬ x.toInt = 0; omega)]
      rw [if_neg (by rw [xt_eq]; show ¬ x.toInt = 1; omega)]
      rw [if_neg (by rw [xt_eq]; show ¬ x.toInt = 2; omega)]
      rw [if_neg (by rw [xt_eq]; show ¬ x.toInt = 3; omega)]
      rw [if_neg (by rw [xt_eq]; show ¬ x.toInt = 4; omega)]
      rw [if_neg (by rw [xt_eq]; show ¬ x.toInt = 5; omega)]
      rw [if_neg (by rw [xt_eq]; show ¬ x.toInt = 6; omega)]
      rw [if_neg (by rw [xt_eq]; show ¬ x.toInt = 7; omega)]
      rw [if_neg (by rw [xt_eq]; show ¬ x.toInt = 8; omega)]
      rw [if_neg (by rw [xt_eq]; show ¬ x.toInt = 9; omega)]
      rw [if_neg (by rw [xt_eq]; show ¬ x.toInt = 10; omega)]
      rw [if_pos (by rw [xt_eq]; exact h8)]
      rfl
    · rw [h8]
      rw [if_neg (by rw [xt_eq]; show ¬ x.toInt = 0; omega)]
      rw [if_neg (by rw [xt_eq]; show ¬ x.toInt = 1; omega)]
      rw [if_neg (by rw [xt_eq]; show ¬ x.toInt = 2; omega)]
      rw [if_neg (by rw [xt_eq]; show ¬ x.toInt = 3; omega)]
      rw [if_neg (by rw [xt_eq]; show ¬ x.toInt = 4; omega)]
      rw [if_neg (by rw [xt_eq]; show ¬ x.toInt = 5; omega)]
      rw [if_neg (by rw [xt_eq]; show ¬ x.toInt = 6; omega)]
      rw [if_neg (by rw [xt_eq]; show ¬ x.toInt = 7; omega)]
      rw [if_neg (by rw [xt_eq]; show ¬ x.toInt = 8; omega)]
      rw [if_neg (by rw [xt_eq]; show ¬ x.toInt = 9; omega)]
      rw [if_neg (by rw [xt_eq]; show ¬ x.toInt = 10; omega)]
      rw [if_neg (by rw [xt_eq]; show ¬ x.toInt = 11; omega)]
      rw [if_pos (by rw [xt_eq]; exact h8)]
      rfl
    · rw [h8]
      rw [if_neg (by rw [xt_eq]; show ¬ x.toInt = 0; omega)]
      rw [if_neg (by rw [xt_eq]; show ¬ x.toInt = 1; omega)]
      rw [if_neg (by rw [xt_eq]; show ¬ x.toInt = 2; omega)]
      rw [if_neg (by rw [xt_eq]; show ¬ x.toInt = 3; omega)]
      rw [if_neg (by rw [xt_eq]; show ¬ x.toInt = 4; omega)]
      rw [if_neg (by rw [xt_eq]; show ¬ x.toInt = 5; omega)]
      rw [if_neg (by rw [xt_eq]; show ¬ x.toInt = 6; omega)]
      rw [if_neg (by rw [xt_eq]; show ¬ x.toInt = 7; omega)]
      rw [if_neg (by rw [xt_eq]; show ¬ x.toInt = 8; omega)]
      rw [if_neg (by rw [xt_eq]; show ¬ x.toInt = 9; omega)]
      rw [if_neg (by rw [xt_eq]; show ¬ x.toInt = 10; omega)]
      rw [if_neg (by rw [xt_eq]; show ¬ x.toInt = 11; omega)]
      rw [if_neg (by rw [xt_eq]; show ¬ x.toInt = 12; omega)]
      rw [if_pos (by rw [xt_eq]; exact h8)]
      rfl
    · rw [h8]
      rw [if_neg (by rw [xt_eq]; show ¬ x.toInt = 0; omega)]
      rw [if_neg (by rw [xt_eq]; show ¬ x.toInt = 1; omega)]
      rw [if_neg (by rw [xt_eq]; show ¬ x.toInt = 2; omega)]
      rw [if_neg (by rw [xt_eq]; show ¬ x.toInt = 3; omega)]
      rw [if_neg (by rw [xt_eq]; show ¬ x.toInt = 4; omega)]
      rw [if_neg (by rw [xt_eq]; show ¬ x.toInt = 5; omega)]
      rw [if_neg (by rw [xt_eq]; show ¬ x.toInt = 6; omega)]
      rw [if_neg (by rw [xt_eq]; show ¬ x.toInt = 7; omega)]
      rw [if_neg (by rw [xt_eq]; show ¬ x.toInt = 8; omega)]
      rw [if_neg (by rw [xt_eq]; show ¬ x.toInt = 9; omega)]
      rw [if_neg (by rw [xt_eq]; show ¬ x.toInt = 10; omega)]
      rw [if_neg (by rw [xt_eq]; show ¬ x.toInt = 11; omega)]
      rw [if_neg (by rw [xt_eq]; show ¬ x.toInt = 12; omega)]
      rw [if_neg (by rw [xt_eq]; show ¬ x.toInt = 13; omega)]
      rw [if_pos (by rw [xt_eq]; exact h8)]
      rfl
    · rw [h8]
      rw [if_neg (by rw [xt_eq]; show ¬ x.toInt = 0; omega)]
      rw [if_neg (by rw [xt_eq]; show ¬ x.toInt = 1; omega)]
      rw [if_neg (by rw [xt_eq]; show ¬ x.toInt = 2; omega)]
      rw [if_neg (by rw [xt_eq]; show ¬ x.toInt = 3; omega)]
      rw [if_neg (by rw [xt_eq]; show ¬ x.toInt = 4; omega)]
      rw [if_neg (by rw [xt_eq]; show ¬ x.toInt = 5; omega)]
      rw [if_neg (by rw [xt_eq]; show ¬ x.toInt = 6; omega)]
      rw [if_neg (by rw [xt_eq]; show ¬ x.toInt = 7; omega)]
      rw [if_neg (by rw [xt_eq]; show ¬ x.toInt = 8; omega)]
      rw [if_neg (by rw [xt_eq]; show ¬ x.toInt = 9; omega)]
      rw [if_neg (by rw [xt_eq]; show ¬ x.toInt = 10; omega)]
      rw [if_neg (by rw [xt_eq]; show ¬ x.toInt = 11; omega)]
      rw [if_neg (by rw [xt_eq]; show ¬ x.toInt = 12; omega)]
      rw [if_neg (by rw [xt_eq]; show ¬ x.toInt = 13; omega)]
      rw [if_neg (by rw [xt_eq]; show ¬ x.toInt = 14; omega)]
      rw [if_pos (by rw [xt_eq]; exact h8)]
      rfl
    · rw [h8]
      rw [if_neg (by rw [xt_eq]; show ¬ x.toInt = 0; omega)]
      rw [if_neg (by rw [xt_eq]; show ¬ x.toInt = 1; omega)]
      rw [if_neg (by rw [xt_eq]; show ¬ x.toInt = 2; omega)]
      rw [if_neg (by rw [xt_eq]; show ¬ x.toInt = 3; omega)]
      rw [if_neg (by rw [xt_eq]; show ¬ x.toInt = 4; omega)]
      rw [if_neg (by rw [xt_eq]; show ¬ x.toInt = 5; omega)]
      rw [if_neg (by rw [xt_eq]; show ¬ x.toInt = 6; omega)]
      rw [if_neg (by rw [xt_eq]; show ¬ x.toInt = 7; omega)]
      rw [if_neg (by rw [xt_eq]; show ¬ x.toInt = 8; omega)]
      rw [if_neg (by rw [xt_eq]; show ¬ x.toInt = 9; omega)]
      rw [if_neg (by rw [xt_eq]; show ¬ x.toInt = 10; omega)]
      rw [if_neg (by rw [xt_eq]; show ¬ x.toInt = 11; omega)]
      rw [if_neg (by rw [xt_eq]; show ¬ x.toInt = 12; omega)]
      rw [if_neg (by rw [xt_eq]; show ¬ x.toInt = 13; omega)]
      rw [if_neg (by rw [xt_eq]; show ¬ x.toInt = 14; omega)]
      rw [if_neg (by rw [xt_eq]; show ¬ x.toInt = 15; omega)]
      rw [if_pos (by rw [xt_eq]; exact h8)]
      rfl
    · rw [h8]
      rw [if_neg (by rw [xt_eq]; show ¬ x.toInt = 0; omega)]
      rw [if_neg (by rw [xt_eq]; show ¬ x.toInt = 1; omega)]
      rw [if_neg (by rw [xt_eq]; show ¬ x.toInt = 2; omega)]
      rw [if_neg (by rw [xt_eq]; show ¬ x.toInt = 3; omega)]
      rw [if_neg (by rw [xt_eq]; show ¬ x.toInt = 4; omega)]
      rw [if_neg (by rw [xt_eq]; show ¬ x.toInt = 5; omega)]
      rw [if_neg (by rw [xt_eq]; show ¬ x.toInt = 6; omega)]
      rw [if_neg (by rw [xt_eq]; show ¬ x.toInt = 7; omega)]
      rw [if_neg (by rw [xt_eq]; show ¬ x.toInt = 8; omega)]
      rw [if_neg (by rw [xt_eq]; show ¬ x.toInt = 9; omega)]
      rw [if_neg (by rw [xt_eq]; show ¬ x.toInt = 10; omega)]
      rw [if_neg (by rw [xt_eq]; show ¬ x.toInt = 11; omega)]
      rw [if_neg (by rw [xt_eq]; show ¬ x.toInt = 12; omega)]
      rw [if_neg (by rw [xt_eq]; show ¬ x.toInt = 13; omega)]
      rw [if_neg (by rw [xt_eq]; show ¬ x.toInt = 14; omega)]
      rw [if_neg (by rw [xt_eq]; show ¬ x.toInt = 15; omega)]
      rw [if_neg (by rw [xt_eq]; show ¬ x.toInt = 16; omega)]
      rw [if_pos (by rw [xt_eq]; exact h8)]
      rfl
    · rw [h8]
      rw [if_neg (by rw [xt_eq]; show ¬ x.toInt = 0; omega)]
      rw [if_neg (by rw [xt_eq]; show ¬ x.toInt = 1; omega)]
      rw [if_neg (by rw [xt_eq]; show ¬ x.toInt = 2; omega)]
      rw [if_neg (by rw [xt_eq]; show ¬ x.toInt = 3; omega)]
      rw [if_neg (by rw [xt_eq]; show ¬ x.toInt = 4; omega)]
      rw [if_neg (by rw [xt_eq]; show ¬ x.toInt = 5; omega)]
      rw [if_neg (by rw [xt_eq]; show ¬ x.toInt = 6; omega)]
      rw [if_neg (by rw [xt_eq]; show ¬ x.toInt = 7; omega)]
      rw [if_neg (by rw [xt_eq]; show ¬ x.toInt = 8; omega)]
      rw [if_neg (by rw [xt_eq]; show ¬ x.toInt = 9; omega)]
      rw [if_neg (by rw [xt_eq]; show ¬ x.toInt = 10; omega)]
      rw [if_neg (by rw [xt_eq]; show ¬ x.toInt = 11; omega)]
      rw [if_neg (by rw [xt_eq]; show ¬ x.toInt = 12; omega)]
      rw [if_neg (by rw [xt_eq]; show ¬ x.toInt = 13; omega)]
      rw [if_neg (by rw [xt_eq]; show ¬ x.toInt = 14; omega)]
      rw [if_neg (by rw [xt_eq]; show ¬ x.toInt = 15; omega)]
      rw [if_neg (by rw [xt_eq]; show ¬ x.toInt = 16; omega)]
      rw [if_neg (by rw [xt_eq]; show ¬ x.toInt = 17; omega)]
      rw [if_pos (by rw [xt_eq]; exact h8)]
      rfl
    · rw [h8]
      rw [if_neg (by rw [xt_eq]; show ¬ x.toInt = 0; omega)]
      rw [if_neg (by rw [xt_eq]; show ¬ x.toInt = 1; omega)]
      rw [if_neg (by rw [xt_eq]; show ¬ x.toInt = 2; omega)]
      rw [if_neg (by rw [xt_eq]; show ¬ x.toInt = 3; omega)]
      rw [if_neg (by rw [xt_eq]; show ¬ x.toInt = 4; omega)]
      rw [if_neg (by rw [xt_eq]; show ¬ x.toInt = 5; omega)]
      rw [if_neg (by rw [xt_eq]; show ¬ x.toInt = 6; omega)]
      rw [if_neg (by rw [xt_eq]; show ¬ x.toInt = 7; omega)]
      rw [if_neg (by rw [xt_eq]; show ¬ x.toInt = 8; omega)]
      rw [if_neg (by rw [xt_eq]; show ¬ x.toInt = 9; omega)]
      rw [if_neg (by rw [xt_eq]; show ¬ x.toInt = 10; omega)]
      rw [if_neg (by rw [xt_eq]; show ¬ x.toInt = 11; omega)]
      rw [if_neg (by rw [xt_eq]; show ¬ x.toInt = 12; omega)]
      rw [if_neg (by rw [xt_eq]; show ¬ x.toInt = 13; omega)]
      rw [if_neg (by rw [xt_eq]; show ¬ x.toInt = 14; omega)]
      rw [if_neg (by rw [xt_eq]; show ¬ x.toInt = 15; omega)]
      rw [if_neg (by rw [xt_eq]; show ¬ x.toInt = 16; omega)]
      rw [if_neg (by rw [xt_eq]; show ¬ x.toInt = 17; omega)]
      rw [if_neg (by rw [xt_eq]; show ¬ x.toInt = 18; omega)]
      rw [if_pos (by rw [xt_eq]; exact h8)]
      rfl
    · rw [h8]
      rw [if_neg (by rw [xt_eq]; show ¬ x.toInt = 0; omega)]
      rw [if_neg (by rw [xt_eq]; show ¬ x.toInt = 1; omega)]
      rw [if_neg (by rw [xt_eq]; show ¬ x.toInt = 2; omega)]
      rw [if_neg (by rw [xt_eq]; show ¬ x.toInt = 3; omega)]
      rw [if_neg (by rw [xt_eq]; show ¬ x.toInt = 4; omega)]
      rw [if_neg (by rw [xt_eq]; show ¬ x.toInt = 5; omega)]
      rw [if_neg (by rw [xt_eq]; show ¬ x.toInt = 6; omega)]
      rw [if_neg (by rw [xt_eq]; show ¬ x.toInt = 7; omega)]
      rw [if_neg (by rw [xt_eq]; show ¬ x.toInt = 8; omega)]
      rw [if_neg (by rw [xt_eq]; show ¬ x.toInt = 9; omega)]
      rw [if_neg (by rw [xt_eq]; show ¬ x.toInt = 10; omega)]
      rw [if_neg (by rw [xt_eq]; show ¬ x.toInt = 11; omega)]
      rw [if_neg (by rw [xt_eq]; show ¬ x.toInt = 12; omega)]
      rw [if_neg (by rw [xt_eq]; show ¬ x.toInt = 13; omega)]
      rw [if_neg (by rw [xt_eq]; show ¬ x.toInt = 14; omega)]
      rw [if_neg (by rw [xt_eq]; show ¬ x.toInt = 15; omega)]
      rw [if_neg (by rw [xt_eq]; show ¬ x.toInt = 16; omega)]
      rw [if_neg (by rw [xt_eq]; show ¬ x.toInt = 17; omega)]
      rw [if_neg (by rw [xt_eq]; show ¬ x.toInt = 18; omega)]
      rw [if_neg (by rw [xt_eq]; show ¬ x.toInt = 19; omega)]
      rw [if_pos (by rw [xt_eq]; exact h8)]
      rfl
    · rw [h8]
      rw [if_neg (by rw [xt_eq]; show ¬ x.toInt = 0; omega)]
      rw [if_neg (by rw [xt_eq]; show ¬ x.toInt = 1; omega)]
      rw [if_neg (by rw [xt_eq]; show ¬ x.toInt = 2; omega)]
      rw [if_neg (by rw [xt_eq]; show ¬ x.toInt = 3; omega)]
      rw [if_neg (by rw [xt_eq]; show ¬ x.toInt = 4; omega)]
      rw [if_neg (by rw [xt_eq]; show ¬ x.toInt = 5; omega)]
      rw [if_neg (by rw [xt_eq]; show ¬ x.toInt = 6; omega)]
      rw [if_neg (by rw [xt_eq]; show ¬ x.toInt = 7; omega)]
      rw [if_neg (by rw [xt_eq]; show ¬ x.toInt = 8; omega)]
      rw [if_neg (by rw [xt_eq]; show ¬ x.toInt = 9; omega)]
      rw [if_neg (by rw [xt_eq]; show ¬ x.toInt = 10; omega)]
      rw [if_neg (by rw [xt_eq]; show ¬ x.toInt = 11; omega)]
      rw [if_neg (by rw [xt_eq]; show ¬ x.toInt = 12; omega)]
      rw [if_neg (by rw [xt_eq]; show ¬ x.toInt = 13; omega)]
      rw [if_neg (by rw [xt_eq]; show ¬ x.toInt = 14; omega)]
      rw [if_neg (by rw [xt_eq]; show ¬ x.toInt = 15; omega)]
      rw [if_neg (by rw [xt_eq]; show ¬ x.toInt = 16; omega)]
      rw [if_neg (by rw [xt_eq]; show ¬ x.toInt = 17; omega)]
      rw [if_neg (by rw [xt_eq]; show ¬ x.toInt = 18; omega)]
      rw [if_neg (by rw [xt_eq]; show ¬ x.toInt = 19; omega)]
      rw [if_neg (by rw [xt_eq]; show ¬ x.toInt = 20; omega)]
      rw [if_pos (by rw [xt_eq]; exact h8)]
      rfl
    · rw [h8]
      rw [if_neg (by rw [xt_eq]; show ¬ x.toInt = 0; omega)]
      rw [if_neg (by rw [xt_eq]; show ¬ x.toInt = 1; omega)]
      rw [if_neg (by rw [xt_eq]; show ¬ x.toInt = 2; omega)]
      rw [if_neg (by rw [xt_eq]; show ¬ x.toInt = 3; omega)]
      rw [if_neg (by rw [xt_eq]; show ¬ x.toInt = 4; omega)]
      rw [if_neg (by rw [xt_eq]; show ¬ x.toInt = 5; omega)]
      rw [if_neg (by rw [xt_eq]; show ¬ x.toInt = 6; omega)]
      rw [if_neg (by rw [xt_eq]; show ¬ x.toInt = 7; omega)]
      rw [if_neg (by rw [xt_eq]; show ¬ x.toInt = 8; omega)]
      rw [if_neg (by rw [xt_eq]; show ¬ x.toInt = 9; omega)]
      rw [if_neg (by rw [xt_eq]; show ¬ x.toInt = 10; omega)]
      rw [if_neg (by rw [xt_eq]; show ¬ x.toInt = 11; omega)]
      rw [if_neg (by rw [xt_eq]; show ¬ x.toInt = 12; omega)]
      rw [if_neg (by rw [xt_eq]; show ¬ x.toInt = 13; omega)]
      rw [if_neg (by rw [xt_eq]; show ¬ x.toInt = 14; omega)]
      rw [if_neg (by rw [xt_eq]; show ¬ x.toInt = 15; omega)]
      rw [if_neg (by rw [xt_eq]; show ¬ x.toInt = 16; omega)]
      rw [if_neg (by rw [xt_eq]; show ¬ x.toInt = 17; omega)]
      rw [if_neg (by rw [xt_eq]; show ¬ x.toInt = 18; omega)]
      rw [if_neg (by rw [xt_eq]; show ¬ x.toInt = 19; omega)]
      rw [if_neg (by rw [xt_eq]; show ¬ x.toInt = 20; omega)]
      rw [if_neg (by rw [xt_eq]; show ¬ x.toInt = 21; omega)]
      rw [if_pos (by rw [xt_eq]; exact h8)]
      rfl
    · rw [h8]
      rw [if_neg (by rw [xt_eq]; show ¬ x.toInt = 0; omega)]
      rw [if_neg (by rw [xt_eq]; show ¬ x.toInt = 1; omega)]
      rw [if_neg (by rw [xt_eq]; show ¬ x.toInt = 2; omega)]
      rw [if_neg (by rw [xt_eq]; show ¬ x.toInt = 3; omega)]
      rw [if_neg (by rw [xt_eq]; show ¬ x.toInt = 4; omega)]
      rw [if_neg (by rw [xt_eq]; show ¬ x.toInt = 5; omega)]
      rw [if_neg (by rw [xt_eq]; show ¬ x.toInt = 6; omega)]
      rw [if_neg (by rw [xt_eq]; show ¬ x.toInt = 7; omega)]
      rw [if_neg (by rw [xt_eq]; show ¬ x.toInt = 8; omega)]
      rw [if_neg (by rw [xt_eq]; show ¬ x.toInt = 9; omega)]
      rw [if_neg (by rw [xt_eq]; show ¬ x.toInt = 10; omega)]
      rw [if_neg (by rw [xt_eq]; show ¬ x.toInt = 11; omega)]
      rw [if_neg (by rw [xt_eq]; show ¬ x.toInt = 12; omega)]
      rw [if_neg (by rw [xt_eq]; show ¬ x.toInt = 13; omega)]
      rw [if_neg (by rw [xt_eq]; show ¬ x.toInt = 14; omega)]
      rw [if_neg (by rw [xt_eq]; show ¬ x.toInt = 15; omega)]
      rw [if_neg (by rw [xt_eq]; show ¬ x.toInt = 16; omega)]
      rw [if_neg (by rw [xt_eq]; show ¬ x.toInt = 17; omega)]
      rw [if_neg (by rw [xt_eq]; show ¬ x.toInt = 18; omega)]
      rw [if_neg (by rw [xt_eq]; show ¬ x.toInt = 19; omega)]
      rw [if_neg (by rw [xt_eq]; show ¬ x.toInt = 20; omega)]
      rw [if_neg (by rw [xt_eq]; show ¬ x.toInt = 21; omega)]
      rw [if_neg (by rw [xt_eq]; show ¬ x.toInt = 22; omega)]
      rw [if_pos (by rw [xt_eq]; exact h8)]
      rfl
    · rw [h8]
      rw [if_neg (by rw [xt_eq]; show ¬ x.toInt = 0; omega)]
      rw [if_neg (by rw [xt_eq]; show ¬ x.toInt = 1; omega)]
      rw [if_neg (by rw [xt_eq]; show ¬ x.toInt = 2; omega)]
      rw [if_neg (by rw [xt_eq]; show ¬ x.toInt = 3; omega)]
      rw [if_neg (by rw [xt_eq]; show ¬ x.toInt = 4; omega)]
      rw [if_neg (by rw [xt_eq]; show ¬ x.toInt = 5; omega)]
      rw [if_neg (by rw [xt_eq]; show ¬ x.toInt = 6; omega)]
      rw [if_neg (by rw [xt_eq]; show ¬ x.toInt = 7; omega)]
      rw [if_neg (by rw [xt_eq]; show ¬ x.toInt = 8; omega)]
      rw [if_neg (by rw [xt_eq]; show ¬ x.toInt = 9; omega)]
      rw [if_neg (by rw [xt_eq]; show ¬ x.toInt = 10; omega)]
      rw [if_neg (by rw [xt_eq]; show ¬ x.toInt = 11; omega)]
      rw [if_neg (by rw [xt_eq]; show ¬ x.toInt = 12; omega)]
      rw [if_neg (by rw [xt_eq]; show ¬ x.toInt = 13; omega)]
      rw [if_neg (by rw [xt_eq]; show ¬ x.toInt = 14; omega)]
      rw [if_neg (by rw [xt_eq]; show ¬ x.toInt = 15; omega)]
      rw [if_neg (by rw [xt_eq]; show ¬ x.toInt = 16; omega)]
      rw [if_neg (by rw [xt_eq]; show ¬ x.toInt = 17; omega)]
      rw [if_neg (by rw [xt_eq]; show ¬ x.toInt = 18; omega)]
      rw [if_neg (by rw [xt_eq]; show ¬ x.toInt = 19; omega)]
      rw [if_neg (by rw [xt_eq]; show ¬ x.toInt = 20; omega)]
      rw [if_neg (by rw [xt_eq]; show ¬ x.toInt = 21; omega)]
      rw [if_neg (by rw [xt_eq]; show ¬ x.toInt = 22; omega)]
      rw [if_neg (by rw [xt_eq]; show ¬ x.toInt = 23; omega)]
      rw [if_pos (by rw [xt_eq]; exact h8)]
      rfl
    · rw [h8]
      rw [if_neg (by rw [xt_eq]; show ¬ x.toInt = 0; omega)]
      rw [if_neg (by rw [xt_eq]; show ¬ x.toInt = 1; omega)]
      rw [if_neg (by rw [xt_eq]; show ¬ x.toInt = 2; omega)]
      rw [if_neg (by rw [xt_eq]; show ¬ x.toInt = 3; omega)]
      rw [if_neg (by rw [xt_eq]; show ¬ x.toInt = 4; omega)]
      rw [if_neg (by rw [xt_eq]; show ¬ x.toInt = 5; omega)]
      rw [if_neg (by rw [xt_eq]; show ¬ x.toInt = 6; omega)]
      rw [if_neg (by rw [xt_eq]; show ¬ x.toInt = 7; omega)]
      rw [if_neg (by rw [xt_eq]; show ¬ x.toInt = 8; omega)]
      rw [if_neg (by rw [xt_eq]; show ¬ x.toInt = 9; omega)]
      rw [if_neg (by rw [xt_eq]; show ¬ x.toInt = 10; omega)]
      rw [if_neg (by rw [xt_eq]; show ¬ x.toInt = 11; omega)]
      rw [if_neg (by rw [xt_eq]; show ¬ x.toInt = 12; omega)]
      rw [if_neg (by rw [xt_eq]; show ¬ x.toInt = 13; omega)]
      rw [if_neg (by rw [xt_eq]; show ¬ x.toInt = 14; omega)]
      rw [if_neg (by rw [xt_eq]; show ¬ x.toInt = 15; omega)]
      rw [if_neg (by rw [xt_eq]; show ¬ x.toInt = 16; omega)]
      rw [if_neg (by rw [xt_eq]; show ¬ x.toInt = 17; omega)]
      rw [if_neg (by rw [xt_eq]; show ¬ x.toInt = 18; omega)]
      rw [if_neg (by rw [xt_eq]; show ¬ x.toInt = 19; omega)]
      rw [if_neg (by rw [xt_eq]; show ¬ x.toInt = 20; omega)]
      rw [if_neg (by rw [xt_eq]; show ¬ x.toInt = 21; omega)]
      rw [if_neg (by rw [xt_eq]; show ¬ x.toInt = 22; omega)]
      rw [if_neg (by rw [xt_eq]; show ¬ x.toInt = 23; omega)]
      rw [if_neg (by rw [xt_eq]; show ¬ x.toInt = 24; omega)]
      rw [if_pos (by rw [xt_eq]; exact h8)]
      rfl
    · rw [h8]
      rw [if_neg (by rw [xt_eq]; show ¬ x.toInt = 0; omega)]
      rw [if_neg (by rw [xt_eq]; show ¬ x.toInt = 1; omega)]
      rw [if_neg (by rw [xt_eq]; show ¬ x.toInt = 2; omega)]
      rw [if_neg (by rw [xt_eq]; show ¬ x.toInt = 3; omega)]
      rw [if_neg (by rw [xt_eq]; show ¬ x.toInt = 4; omega)]
      rw [if_neg (by rw [xt_eq]; show ¬ x.toInt = 5; omega)]
      rw [if_neg (by rw [xt_eq]; show ¬ x.toInt = 6; omega)]
      rw [if_neg (by rw [xt_eq]; show ¬ x.toInt = 7; omega)]
      rw [if_neg (by rw [xt_eq]; show ¬ x.toInt = 8; omega)]
      rw [if_neg (by rw [xt_eq]; show ¬ x.toInt = 9; omega)]
      rw [if_neg (by rw [xt_eq]; show ¬ x.toInt = 10; omega)]
      rw [if_neg (by rw [xt_eq]; show ¬ x.toInt = 11; omega)]
      rw [if_neg (by rw [xt_eq]; show ¬ x.toInt = 12; omega)]
      rw [if_neg (by rw [xt_eq]; show ¬ x.toInt = 13; omega)]
      rw [if_neg (by rw [xt_eq]; show ¬ x.toInt = 14; omega)]
      rw [if_neg (by rw [xt_eq]; show ¬ x.toInt = 15; omega)]
      rw [if_neg (by rw [xt_eq]; show ¬ x.toInt = 16; omega)]
      rw [if_neg (by rw [xt_eq]; show ¬ x.toInt = 17; omega)]
      rw [if_neg (by rw [xt_eq]; show ¬ x.toInt = 18; omega)]
      rw [if_neg (by rw [xt_eq]; show ¬ x.toInt = 19; omega)]
      rw [if_neg (by rw [xt_eq]; show ¬ x.toInt = 20; omega)]
      rw [if_neg (by rw [xt_eq]; show ¬ x.toInt = 21; omega)]
      rw [if_neg (by rw [xt_eq]; show ¬ x.toInt = 22; omega)]
      rw [if_neg (by rw [xt_eq]; show ¬ x.toInt = 23; omega)]
      rw [if_neg (by rw [xt_eq]; show ¬ x.toInt = 24; omega)]
      rw [if_neg (by rw [xt_eq]; show ¬ x.toInt = 25; omega)]
      rw [if_pos (by rw [xt_eq]; exact h8)]
      rfl
    · rw [h8]
      rw [if_neg (by rw [xt_eq]; show ¬ x.toInt = 0; omega)]
      rw [if_neg (by rw [xt_eq]; show ¬ x.toInt = 1; omega)]
      rw [if_neg (by rw [xt_eq]; show ¬ x.toInt = 2; omega)]
      rw [if_neg (by rw [xt_eq]; show ¬ x.toInt = 3; omega)]
      rw [if_neg (by rw [xt_eq]; show ¬ x.toInt = 4; omega)]
      rw [if_neg (by rw [xt_eq]; show ¬ x.toInt = 5; omega)]
      rw [if_neg (by rw [xt_eq]; show ¬ x.toInt = 6; omega)]
      rw [if_neg (by rw [xt_eq]; show ¬ x.toInt = 7; omega)]
      rw [if_neg (by rw [xt_eq]; show ¬ x.toInt = 8; omega)]
      rw [if_neg (by rw [xt_eq]; show ¬ x.toInt = 9; omega)]
      rw [if_neg (by rw [xt_eq]; show ¬ x.toInt = 10; omega)]
      rw [if_neg (by rw [xt_eq]; show ¬ x.toInt = 11; omega)]
      rw [if_neg (by rw [xt_eq]; show ¬ x.toInt = 12; omega)]
      rw [if_neg (by rw [xt_eq]; show ¬ x.toInt = 13; omega)]
      rw [if_neg (by rw [xt_eq]; show ¬ x.toInt = 14; omega)]
      rw [if_neg (by rw [xt_eq]; show ¬ x.toInt = 15; omega)]
      rw [if_neg (by rw [xt_eq]; show ¬ x.toInt = 16; omega)]
      rw [if_neg (by rw [xt_eq]; show ¬ x.toInt = 17; omega)]
      rw [if_neg (by rw [xt_eq]; show ¬ x.toInt = 18; omega)]
      rw [if_neg (by rw [xt_eq]; show ¬ x.toInt = 19; omega)]
      rw [if_neg (by rw [xt_eq]; show ¬ x.toInt = 20; omega)]
      rw [if_neg (by rw [xt_eq]; show ¬ x.toInt = 21; omega)]
      rw [if_neg (by rw [xt_eq]; show ¬ x.toInt = 22; omega)]
      rw [if_neg (by rw [xt_eq]; show ¬ x.toInt = 23; omega)]
      rw [if_neg (by rw [xt_eq]; show ¬ x.toInt = 24; omega)]
      rw [if_neg (by rw [xt_eq]; show ¬ x.toInt = 25; omega)]
      rw [if_neg (by rw [xt_eq]; show ¬ x.toInt = 26; omega)]
      rw [if_pos (by rw [xt_eq]; exact h8)]
      rfl
    · rw [h8]
      rw [if_neg (by rw [xt_eq]; show ¬ x.toInt = 0; omega)]
      rw [if_neg (by rw [xt_eq]; show ¬ x.toInt = 1; omega)]
      rw [if_neg (by rw [xt_eq]; show ¬ x.toInt = 2; omega)]
      rw [if_neg (by rw [xt_eq]; show ¬ x.toInt = 3; omega)]
      rw [if_neg (by rw [xt_eq]; show ¬ x.toInt = 4; omega)]
      rw [if_neg (by rw [xt_eq]; show ¬ x.toInt = 5; omega)]
      rw [if_neg (by rw [xt_eq]; show ¬ x.toInt = 6; omega)]
      rw [if_neg (by rw [xt_eq]; show ¬ x.toInt = 7; omega)]
      rw [if_neg (by rw [xt_eq]; show ¬ x.toInt = 8; omega)]
      rw [if_neg (by rw [xt_eq]; show ¬ x.toInt = 9; omega)]
      rw [if_neg (by rw [xt_eq]; show ¬ x.toInt = 10; omega)]
      rw [if_neg (by rw [xt_eq]; show ¬ x.toInt = 11; omega)]
      rw [if_neg (by rw [xt_eq]; show ¬ x.toInt = 12; omega)]
      rw [if_neg (by rw [xt_eq]; show ¬ x.toInt = 13; omega)]
      rw [if_neg (by rw [xt_eq]; show ¬ x.toInt = 14; omega)]
      rw [if_neg (by rw [xt_eq]; show ¬ x.toInt = 15; omega)]
      rw [if_neg (by rw [xt_eq]; show ¬ x.toInt = 16; omega)]
      rw [if_neg (by rw [xt_eq]; show ¬ x.toInt = 17; omega)]
      rw [if_neg (by rw [xt_eq]; show ¬ x.toInt = 18; omega)]
      rw [if_neg (by rw [xt_eq]; show ¬ x.toInt = 19; omega)]
      rw [if_neg (by rw [xt_eq]; show ¬ x.toInt = 20; omega)]
      rw [if_neg (by rw [xt_eq]; show ¬ x.toInt = 21; omega)]
      rw [if_neg (by rw [xt_eq]; show ¬ x.toInt = 22; omega)]
      rw [if_neg (by rw [xt_eq]; show ¬ x.toInt = 23; omega)]
      rw [if_neg (by rw [xt_eq]; show ¬ x.toInt = 24; omega)]
      rw [if_neg (by rw [xt_eq]; show ¬ x.toInt = 25; omega)]
      rw [if_neg (by rw [xt_eq]; show ¬ x.toInt = 26; omega)]
      rw [if_neg (by rw [xt_eq]; show ¬ x.toInt = 27; omega)]
      rw [if_pos (by rw [xt_eq]; exact h8)]
      rfl
    · rw [h8]
      rw [if_neg (by rw [xt_eq]; show ¬ x.toInt = 0; omega)]
      rw [if_neg (by rw [xt_eq]; show ¬ x.toInt = 1; omega)]
      rw [if_neg (by rw [xt_eq]; show ¬ x.toInt = 2; omega)]
      rw [if_neg (by rw [xt_eq]; show ¬ x.toInt = 3; omega)]
      rw [if_neg (by rw [xt_eq]; show ¬ x.toInt = 4; omega)]
      rw [if_neg (by rw [xt_eq]; show ¬ x.toInt = 5; omega)]
      rw [if_neg (by rw [xt_eq]; show ¬ x.toInt = 6; omega)]
      rw [if_neg (by rw [xt_eq]; show ¬ x.toInt = 7; omega)]
      rw [if_neg (by rw [xt_eq]; show ¬ x.toInt = 8; omega)]
      rw [if_neg (by rw [xt_eq]; show ¬ x.toInt = 9; omega)]
      rw [if_neg (by rw [xt_eq]; show ¬ x.toInt = 10; omega)]
      rw [if_neg (by rw [xt_eq]; show ¬ x.toInt = 11; omega)]
      rw [if_neg (by rw [xt_eq]; show ¬ x.toInt = 12; omega)]
      rw [if_neg (by rw [xt_eq]; show ¬ x.toInt = 13; omega)]
      rw [if_neg (by rw [xt_eq]; show ¬ x.toInt = 14; omega)]
      rw [if_neg (by rw [xt_eq]; show ¬ x.toInt = 15; omega)]
      rw [if_neg (by rw [xt_eq]; show ¬ x.toInt = 16; omega)]
      rw [if_neg (by rw [xt_eq]; show ¬ x.toInt = 17; omega)]
      rw [if_neg (by rw [xt_eq]; show ¬ x.toInt = 18; omega)]
      rw [if_neg (by rw [xt_eq]; show ¬ x.toInt = 19; omega)]
      rw [if_neg (by rw [xt_eq]; show ¬ x.toInt = 20; omega)]
      rw [if_neg (by rw [xt_eq]; show ¬ x.toInt = 21; omega)]
      rw [if_neg (by rw [xt_eq]; show ¬ x.toInt = 22; omega)]
      rw [if_neg (by rw [xt_eq]; show ¬ x.toInt = 23; omega)]
      rw [if_neg (by rw [xt_eq]; show ¬ x.toInt = 24; omega)]
      rw [if_neg (by rw [xt_eq]; show ¬ x.toInt = 25; omega)]
      rw [if_neg (by rw [xt_eq]; show ¬ x.toInt = 26; omega)]
      rw [if_neg (by rw [xt_eq]; show ¬ x.toInt = 27; omega)]
      rw [if_neg (by rw [xt_eq]; show ¬ x.toInt = 28; omega)]
      rw [if_pos (by rw [xt_eq]; exact h8)]
      rfl
    · rw [h8]
      rw [if_neg (by rw [xt_eq]; show ¬ x.toInt = 0; omega)]
      rw [if_neg (by rw [xt_eq]; show ¬ x.toInt = 1; omega)]
      rw [if_neg (by rw [xt_eq]; show ¬ x.toInt = 2; omega)]
      rw [if_neg (by rw [xt_eq]; show ¬ x.toInt = 3; omega)]
      rw [if_neg (by rw [xt_eq]; show ¬ x.toInt = 4; omega)]
      rw [if_neg (by rw [xt_eq]; show ¬ x.toInt = 5; omega)]
      rw [if_neg (by rw [xt_eq]; show ¬ x.toInt = 6; omega)]
      rw [if_neg (by rw [xt_eq]; show ¬ x.toInt = 7; omega)]
      rw [if_neg (by rw [xt_eq]; show ¬ x.toInt = 8; omega)]
      rw [if_neg (by rw [xt_eq]; show ¬ x.toInt = 9; omega)]
      rw [if_neg (by rw [xt_eq]; show ¬ x.toInt = 10; omega)]
      rw [if_neg (by rw [xt_eq]; show ¬ x.toInt = 11; omega)]
      rw [if_neg (by rw [xt_eq]; show ¬ x.toInt = 12; omega)]
      rw [if_neg (by rw [xt_eq]; show ¬ x.toInt = 13; omega)]
      rw [if_neg (by rw [xt_eq]; show ¬ x.toInt = 14; omega)]
      rw [if_neg (by rw [xt_eq]; show ¬ x.toInt = 15; omega)]
      rw [if_neg (by rw [xt_eq]; show ¬ x.toInt = 16; omega)]
      rw [if_neg (by rw [xt_eq]; show ¬ x.toInt = 17; omega)]
      rw [if_neg (by rw [xt_eq]; show ¬ x.toInt = 18; omega)]
      rw [if_neg (by rw [xt_eq]; show ¬ x.toInt = 19; omega)]
      rw [if_neg (by rw [xt_eq]; show ¬ x.toInt = 20; omega)]
      rw [if_neg (by rw [xt_eq]; show ¬ x.toInt = 21; omega)]
      rw [if_neg (by rw [xt_eq]; show ¬ x.toInt = 22; omega)]
      rw [if_neg (by rw [xt_eq]; show ¬ x.toInt = 23; omega)]
      rw [if_neg (by rw [xt_eq]; show ¬ x.toInt = 24; omega)]
      rw [if_neg (by rw [xt_eq]; show ¬ x.toInt = 25; omega)]
      rw [if_neg (by rw [xt_eq]; show ¬ x.toInt = 26; omega)]
      rw [if_neg (by rw [xt_eq]; show ¬ x.toInt = 27; omega)]
      rw [if_neg (by rw [xt_eq]; show ¬ x.toInt = 28; omega)]
      rw [if_neg (by rw [xt_eq]; show ¬ x.toInt = 29; omega)]
      rw [if_pos (by rw [xt_eq]; exact h8)]
      rfl
    · rw [h8]
      rw [if_neg (by rw [xt_eq]; show ¬ x.toInt = 0; omega)]
      rw [if_neg (by rw [xt_eq]; show ¬ x.toInt = 1; omega)]
      rw [if_neg (by rw [xt_eq]; show ¬ x.toInt = 2; omega)]
      rw [if_neg (by rw [xt_eq]; show ¬ x.toInt = 3; omega)]
      rw [if_neg (by rw [xt_eq]; show ¬ x.toInt = 4; omega)]
      rw [if_neg (by rw [xt_eq]; show ¬ x.toInt = 5; omega)]
      rw [if_neg (by rw [xt_eq]; show ¬ x.toInt = 6; omega)]
      rw [if_neg (by rw [xt_eq]; show ¬ x.toInt = 7; omega)]
      rw [if_neg (by rw [xt_eq]; show ¬ x.toInt = 8; omega)]
      rw [if_neg (by rw [xt_eq]; show ¬ x.toInt = 9; omega)]
      rw [if_neg (by rw [xt_eq]; show ¬ x.toInt = 10; omega)]
      rw [if_neg (by rw [xt_eq]; show ¬ x.toInt = 11; omega)]
      rw [if_neg (by rw [xt_eq]; show ¬ x.toInt = 12; omega)]
      rw [if_neg (by rw [xt_eq]; show ¬ x.toInt = 13; omega)]
      rw [if_neg (by rw [xt_eq]; show ¬ x.toInt = 14; omega)]
      rw [if_neg (by rw [xt_eq]; show ¬ x.toInt = 15; omega)]
      rw [if_neg (by rw [xt_eq]; show ¬ x.toInt = 16; omega)]
      rw [if_neg (by rw [xt_eq]; show ¬ x.toInt = 17; omega)]
      rw [if_neg (by rw [xt_eq]; show ¬ x.toInt = 18; omega)]
      rw [if_neg (by rw [xt_eq]; show ¬ x.toInt = 19; omega)]
      rw [if_neg (by rw [xt_eq]; show ¬ x.toInt = 20; omega)]
      rw [if_neg (by rw [xt_eq]; show ¬ x.toInt = 21; omega)]
      rw [if_neg (by rw [xt_eq]; show ¬ x.toInt = 22; omega)]
      rw [if_neg (by rw [xt_eq]; show ¬ x.toInt = 23; omega)]
      rw [if_neg (by rw [xt_eq]; show ¬ x.toInt = 24; omega)]
      rw [if_neg (by rw [xt_eq]; show ¬ x.toInt = 25; omega)]
      rw [if_neg (by rw [xt_eq]; show ¬ x.toInt = 26; omega)]
      rw [if_neg (by rw [xt_eq]; show ¬ x.toInt = 27; omega)]
      rw [if_neg (by rw [xt_eq]; show ¬ x.toInt = 28; omega)]
      rw [if_neg (by rw [xt_eq]; show ¬ x.toInt = 29; omega)]
      rw [if_neg (by rw [xt_eq]; show ¬ x.toInt = 30; omega)]
      rw [if_pos (by rw [xt_eq]; exact h8)]
      rfl
    · rw [h8]
      rw [if_neg (by rw [xt_eq]; show ¬ x.toInt = 0; omega)]
      rw [if_neg (by rw [xt_eq]; show ¬ x.toInt = 1; omega)]
      rw [if_neg (by rw [xt_eq]; show ¬ x.toInt = 2; omega)]
      rw [if_neg (by rw [xt_eq]; show ¬ x.toInt = 3; omega)]
      rw [if_neg (by rw [xt_eq]; show ¬ x.toInt = 4; omega)]
      rw [if_neg (by rw [xt_eq]; show ¬ x.toInt = 5; omega)]
      rw [if_neg (by rw [xt_eq]; show ¬ x.toInt = 6; omega)]
      rw [if_neg (by rw [xt_eq]; show ¬ x.toInt = 7; omega)]
      rw [if_neg (by rw [xt_eq]; show ¬ x.toInt = 8; omega)]
      rw [if_neg (by rw [xt_eq]; show ¬ x.toInt = 9; omega)]
      rw [if_neg (by rw [xt_eq]; show ¬ x.toInt = 10; omega)]
      rw [if_neg (by rw [xt_eq]; show ¬ x.toInt = 11; omega)]
      rw [if_neg (by rw [xt_eq]; show ¬ x.toInt = 12; omega)]
      rw [if_neg (by rw [xt_eq]; show ¬ x.toInt = 13; omega)]
      rw [if_neg (by rw [xt_eq]; show ¬ x.toInt = 14; omega)]
      rw [if_neg (by rw [xt_eq]; show ¬ x.toInt = 15; omega)]
      rw [if_neg (by rw [xt_eq]; show ¬ x.toInt = 16; omega)]
      rw [if_neg (by rw [xt_eq]; show ¬ x.toInt = 17; omega)]
      rw [if_neg (by rw [xt_eq]; show ¬ x.toInt = 18; omega)]
      rw [if_neg (by rw [xt_eq]; show ¬ x.toInt = 19; omega)]
      rw [if_neg (by rw [xt_eq]; show ¬ x.toInt = 20; omega)]
      rw [if_neg (by rw [xt_eq]; show ¬ x.toInt = 21; omega)]
      rw [if_neg (by rw [xt_eq]; show ¬ x.toInt = 22; omega)]
      rw [if_neg (by rw [xt_eq]; show ¬ x.toInt = 23; omega)]
      rw [if_neg (by rw [xt_eq]; show ¬ x.toInt = 24; omega)]
      rw [if_neg (by rw [xt_eq]; show ¬ x.toInt = 25; omega)]
      rw [if_neg (by rw [xt_eq]; show ¬ x.toInt = 26; omega)]
      rw [if_neg (by rw [xt_eq]; show ¬ x.toInt = 27; omega)]
      rw [if_neg (by rw [xt_eq]; show ¬ x.toInt = 28; omega)]
      rw [if_neg (by rw [xt_eq]; show ¬ x.toInt = 29; omega)]
      rw [if_neg (by rw [xt_eq]; show ¬ x.toInt = 30; omega)]
      rw [if_neg (by rw [xt_eq]; show ¬ x.toInt = 31; omega)]
      rw [if_pos (by rw [xt_eq]; exact h8)]
      rfl
    · rw [h8]
      rw [if_neg (by rw [xt_eq]; show ¬ x.toInt = 0; omega)]
      rw [if_neg (by rw [xt_eq]; show ¬ x.toInt = 1; omega)]
      rw [if_neg (by rw [xt_eq]; show ¬ x.toInt = 2; omega)]
      rw [if_neg (by rw [xt_eq]; show ¬ x.toInt = 3; omega)]
      rw [if_neg (by rw [xt_eq]; show ¬ x.toInt = 4; omega)]
      rw [if_neg (by rw [xt_eq]; show ¬ x.toInt = 5; omega)]
      rw [if_neg (by rw [xt_eq]; show ¬ x.toInt = 6; omega)]
      rw [if_neg (by rw [xt_eq]; show ¬ x.toInt = 7; omega)]
      rw [if_neg (by rw [xt_eq]; show ¬ x.toInt = 8; omega)]
      rw [if_neg (by rw [xt_eq]; show ¬ x.toInt = 9; omega)]
      rw [if_neg (by rw [xt_eq]; show ¬ x.toInt = 10; omega)]
      rw [if_neg (by rw [xt_eq]; show ¬ x.toInt = 11; omega)]
      rw [if_neg (by rw [xt_eq]; show ¬ x.toInt = 12; omega)]
      rw [if_neg (by rw [xt_eq]; show ¬ x.toInt = 13; omega)]
      rw [if_neg (by rw [xt_eq]; show ¬ x.toInt = 14; omega)]
      rw [if_neg (by rw [xt_eq]; show ¬ x.toInt = 15; omega)]
      rw [if_neg (by rw [xt_eq]; show ¬ x.toInt = 16; omega)]
      rw [if_neg (by rw [xt_eq]; show ¬ x.toInt = 17; omega)]
      rw [if_neg (by rw [xt_eq]; show ¬ x.toInt = 18; omega)]
      rw [if_neg (by rw [xt_eq]; show ¬ x.toInt = 19; omega)]
      rw [if_neg (by rw [xt_eq]; show ¬ x.toInt = 20; omega)]
      rw [if_neg (by rw [xt_eq]; show ¬ x.toInt = 21; omega)]
      rw [if_neg (by rw [xt_eq]; show ¬ x.toInt = 22; omega)]
      rw [if_neg (by rw [xt_eq]; show ¬ x.toInt = 23; omega)]
      rw [if_neg (by rw [xt_eq]; show ¬ x.toInt = 24; omega)]
      rw [if_neg (by rw [xt_eq]; show ¬ x.toInt = 25; omega)]
      rw [if_neg (by rw [xt_eq]; show ¬ x.toInt = 26; omega)]
      rw [if_neg (by rw [xt_eq]; show ¬ x.toInt = 27; omega)]
      rw [if_neg (by rw [xt_eq]; show ¬ x.toInt = 28; omega)]
      rw [if_neg (by rw [xt_eq]; show ¬ x.toInt = 29; omega)]
      rw [if_neg (by rw [xt_eq]; show ¬ x.toInt = 30; omega)]
      rw [if_neg (by rw [xt_eq]; show ¬ x.toInt = 31; omega)]
      rw [if_neg (by rw [xt_eq]; show ¬ x.toInt = 32; omega)]
      rw [if_pos (by rw [xt_eq]; exact h8)]
      rfl)
theorem e_223_184 {d : Nat} {x0 x2 x3 : Option Value} {v : Nat} {st : List Value} {h : am_H} : am_ev d 223 184 [x0, some (.ref v), x2, x3] st h = am_ev d 223 185 [x0, some (.ref v), x2, x3] (.ref v :: st) h := x_aload (show am_code 223 184 = some (.aload 1, 1) by decide +kernel) rfl rfl
theorem e_223_185 {d : Nat} {x1 x2 x3 : Option Value} {v : Nat} {st : List Value} {h : am_H} : am_ev d 223 185 [some (.ref v), x1, x2, x3] st h = am_ev d 223 186 [some (.ref v), x1, x2, x3] (.ref v :: st) h := x_aload (show am_code 223 185 = some (.aload 0, 1) by decide +kernel) rfl rfl
theorem e_223_186 {d : Nat} {x0 x1 x2 : Option Value} {v : Int32} {st : List Value} {h : am_H} : am_ev d 223 186 [x0, x1, x2, some (.int v)] st h = am_ev d 223 187 [x0, x1, x2, some (.int v)] (.int v :: st) h := x_iload (show am_code 223 186 = some (.iload 3, 1) by decide +kernel) rfl rfl
theorem e_223_187 {d : Nat} {ls : am_L} {st : List Value} {h : am_H} : am_ev d 223 187 ls st h = am_ev d 223 188 ls (.int 1 :: st) h := x_iconst (show am_code 223 187 = some (.iconst 1, 1) by decide +kernel) (by decide +kernel) rfl
theorem e_223_188 {d : Nat} {ls : am_L} {st : List Value} {h : am_H} {x y : Int32} : am_ev d 223 188 ls (.int y :: .int x :: st) h = am_ev d 223 189 ls (.int (x + y) :: st) h := x_iadd (show am_code 223 188 = some (.iadd, 1) by decide +kernel) rfl
theorem e_223_189 {d : Nat} {ls : am_L} {st : List Value} {h : am_H} {a : Nat} {i : Int32} : am_ev d 223 189 ls (.int i :: .ref a :: st) h = am_ak (am_at h a) 0 10 i (fun v => am_ev d 223 190 ls (.int v :: st) h) := x_iald (show am_code 223 189 = some (.iaload, 1) by decide +kernel) rfl
theorem e_223_190 {d : Nat} {ls : am_L} {st : List Value} {h : am_H} {a : Nat} {v0 : Int32} (hw : am_wd st ≤ 8) (hi : am_is (am_at h a) 7 = true) : am_ev (d + 1) 223 190 ls (.int v0 :: .ref a :: st) h = am_bk (d + 1) 223 193 ls st (am_cal (d + 1) 83 [.ref a, .int v0] h) := x_inv (q := mt_83) (show am_code 223 190 = some (.invokevirtual 83, 3) by decide +kernel) (Or.inl ⟨rfl, rfl⟩) mt_83_at rfl rfl rfl hw (Nat.le_of_ble_eq_true rfl) (fun _ => ⟨_, _, rfl, Or.inr hi⟩) rfl
theorem e_223_193 {d : Nat} {x0 x1 x3 : Option Value} {v : Nat} {st : List Value} {h : am_H} : am_ev d 223 193 [x0, x1, some (.ref v), x3] st h = am_ev d 223 194 [x0, x1, some (.ref v), x3] (.ref v :: st) h := x_aload (show am_code 223 193 = some (.aload 2, 1) by decide +kernel) rfl rfl
theorem e_223_194 {d : Nat} {x1 x2 x3 : Option Value} {v : Nat} {st : List Value} {h : am_H} : am_ev d 223 194 [some (.ref v), x1, x2, x3] st h = am_ev d 223 195 [some (.ref v), x1, x2, x3] (.ref v :: st) h := x_aload (show am_code 223 194 = some (.aload 0, 1) by decide +kernel) rfl rfl
theorem e_223_195 {d : Nat} {x0 x1 x2 : Option Value} {v : Int32} {st : List Value} {h : am_H} : am_ev d 223 195 [x0, x1, x2, some (.int v)] st h = am_ev d 223 196 [x0, x1, x2, some (.int v)] (.int v :: st) h := x_iload (show am_code 223 195 = some (.iload 3, 1) by decide +kernel) rfl rfl
theorem e_223_196 {d : Nat} {ls : am_L} {st : List Value} {h : am_H} : am_ev d 223 196 ls st h = am_ev d 223 197 ls (.int 1 :: st) h := x_iconst (show am_code 223 196 = some (.iconst 1, 1) by decide +kernel) (by decide +kernel) rfl
theorem e_223_197 {d : Nat} {ls : am_L} {st : List Value} {h : am_H} {x y : Int32} : am_ev d 223 197 ls (.int y :: .int x :: st) h = am_ev d 223 198 ls (.int (x + y) :: st) h := x_iadd (show am_code 223 197 = some (.iadd, 1) by decide +kernel) rfl
theorem e_223_198 {d : Nat} {ls : am_L} {st : List Value} {h : am_H} {a : Nat} {i : Int32} : am_ev d 223 198 ls (.int i :: .ref a :: st) h = am_ak (am_at h a) 0 10 i (fun v => am_ev d 223 199 ls (.int v :: st) h) := x_iald (show am_code 223 198 = some (.iaload, 1) by decide +kernel) rfl
theorem e_223_199 {d : Nat} {ls : am_L} {st : List Value} {h : am_H} {a : Nat} {v0 : Int32} (hw : am_wd st ≤ 8) (hi : am_is (am_at h a) 8 = true) : am_ev (d + 1) 223 199 ls (.int v0 :: .ref a :: st) h = am_bk (d + 1) 223 202 ls st (am_cal (d + 1) 131 [.ref a, .int v0] h) := x_inv (q := mt_131) (show am_code 223 199 = some (.invokevirtual 131, 3) by decide +kernel) (Or.inl ⟨rfl, rfl⟩) mt_131_at rfl rfl rfl hw (Nat.le_of_ble_eq_true rfl) (fun _ => ⟨_, _, rfl, Or.inr hi⟩) rfl
theorem e_223_202 {d : Nat} {ls : am_L} {st : List Value} {h : am_H} {x y : Int32} : am_ev d 223 202 ls (.int y :: .int x :: st) h = if x = y then am_ev d 223 1176 ls st h else am_ev d 223 205 ls st h := x_icmp inferInstance (show am_code 223 202 = some (.if_icmp .eq 1176, 3) by decide +kernel) rfl rfl (xc_eq _ _)
theorem e_223_205 {d : Nat} {ls : am_L} {st : List Value} {h : am_H} : am_ev d 223 205 ls st h = am_ev d 223 206 ls (.int 0 :: st) h := x_iconst (show am_code 223 205 = some (.iconst 0, 1) by decide +kernel) (by decide +kernel) rfl
theorem e_223_206 {d : Nat} {ls : am_L} {h : am_H} {v : Int32} (hb : v &&& 1 = v) : am_ev d 223 206 ls [.int v] h = some (some (.int v), h) := x_ret (q := mt_223) (show am_code 223 206 = some (.ireturn, 1) by decide +kernel) mt_223_at rfl (am_n_bool hb)
theorem e_223_207 {d : Nat} {x0 x2 x3 : Option Value} {v : Nat} {st : List Value} {h : am_H} : am_ev d 223 207 [x0, some (.ref v), x2, x3] st h = am_ev d 223 208 [x0, some (.ref v), x2, x3] (.ref v :: st) h := x_aload (show am_code 223 207 = some (.aload 1, 1) by decide +kernel) rfl rfl
theorem e_223_208 {d : Nat} {ls : am_L} {st : List Value} {h : am_H} {a : Nat} (hw : am_wd st ≤ 8) (hi : am_is (am_at h a) 7 = true) : am_ev (d + 1) 223 208 ls (.ref a :: st) h = am_bk (d + 1) 223 211 ls st (am_cal (d + 1) 84 [.ref a] h) := x_inv (q := mt_84) (show am_code 223 208 = some (.invokevirtual 84, 3) by decide +kernel) (Or.inl ⟨rfl, rfl⟩) mt_84_at rfl rfl rfl hw (Nat.le_of_ble_eq_true rfl) (fun _ => ⟨_, _, rfl, Or.inr hi⟩) rfl
theorem e_223_211 {d : Nat} {x0 x1 x3 : Option Value} {v : Nat} {st : List Value} {h : am_H} : am_ev d 223 211 [x0, x1, some (.ref v), x3] st h = am_ev d 223 212 [x0, x1, some (.ref v), x3] (.ref v :: st) h := x_aload (show am_code 223 211 = some (.aload 2, 1) by decide +kernel) rfl rfl
theorem e_223_212 {d : Nat} {ls : am_L} {st : List Value} {h : am_H} {a : Nat} (hw : am_wd st ≤ 8) (hi : am_is (am_at h a) 8 = true) : am_ev (d + 1) 223 212 ls (.ref a :: st) h = am_bk (d + 1) 223 215 ls st (am_cal (d + 1) 132 [.ref a] h) := x_inv (q := mt_132) (show am_code 223 212 = some (.invokevirtual 132, 3) by decide +kernel) (Or.inl ⟨rfl, rfl⟩) mt_132_at rfl rfl rfl hw (Nat.le_of_ble_eq_true rfl) (fun _ => ⟨_, _, rfl, Or.inr hi⟩) rfl
theorem e_223_215 {d : Nat} {ls : am_L} {st : List Value} {h : am_H} {x y : Int32} : am_ev d 223 215 ls (.int y :: .int x :: st) h = if x = y then am_ev d 223 1176 ls st h else am_ev d 223 218 ls st h := x_icmp inferInstance (show am_code 223 215 = some (.if_icmp .eq 1176, 3) by decide +kernel) rfl rfl (xc_eq _ _)
theorem e_223_218 {d : Nat} {ls : am_L} {st : List Value} {h : am_H} : am_ev d 223 218 ls st h = am_ev d 223 219 ls (.int 0 :: st) h := x_iconst (show am_code 223 218 = some (.iconst 0, 1) by decide +kernel) (by decide +kernel) rfl
theorem e_223_219 {d : Nat} {ls : am_L} {h : am_H} {v : Int32} (hb : v &&& 1 = v) : am_ev d 223 219 ls [.int v] h = some (some (.int v), h) := x_ret (q := mt_223) (show am_code 223 219 = some (.ireturn, 1) by decide +kernel) mt_223_at rfl (am_n_bool hb)
theorem e_223_220 {d : Nat} {x0 x2 x3 : Option Value} {v : Nat} {st : List Value} {h : am_H} : am_ev d 223 220 [x0, some (.ref v), x2, x3] st h = am_ev d 223 221 [x0, some (.ref v), x2, x3] (.ref v :: st) h := x_aload (show am_code 223 220 = some (.aload 1, 1) by decide +kernel) rfl rfl
theorem e_223_221 {d : Nat} {ls : am_L} {st : List Value} {h : am_H} {a : Nat} (hw : am_wd st ≤ 8) (hi : am_is (am_at h a) 7 = true) : am_ev (d + 1) 223 221 ls (.ref a :: st) h = am_bk (d + 1) 223 224 ls st (am_cal (d + 1) 85 [.ref a] h) := x_inv (q := mt_85) (show am_code 223 221 = some (.invokevirtual 85, 3) by decide +kernel) (Or.inl ⟨rfl, rfl⟩) mt_85_at rfl rfl rfl hw (Nat.le_of_ble_eq_true rfl) (fun _ => ⟨_, _, rfl, Or.inr hi⟩) rfl
theorem e_223_224 {d : Nat} {x0 x1 x3 : Option Value} {v : Nat} {st : List Value} {h : am_H} : am_ev d 223 224 [x0, x1, some (.ref v), x3] st h = am_ev d 223 225 [x0, x1, some (.ref v), x3] (.ref v :: st) h := x_aload (show am_code 223 224 = some (.aload 2, 1) by decide +kernel) rfl rfl
theorem e_223_225 {d : Nat} {ls : am_L} {st : List Value} {h : am_H} {a : Nat} (hw : am_wd st ≤ 8) (hi : am_is (am_at h a) 8 = true) : am_ev (d + 1) 223 225 ls (.ref a :: st) h = am_bk (d + 1) 223 228 ls st (am_cal (d + 1) 145 [.ref a] h) := x_inv (q := mt_145) (show am_code 223 225 = some (.invokevirtual 145, 3) by decide +kernel) (Or.inl ⟨rfl, rfl⟩) mt_145_at rfl rfl rfl hw (Nat.le_of_ble_eq_true rfl) (fun _ => ⟨_, _, rfl, Or.inr hi⟩) rfl
theorem e_223_228 {d : Nat} {ls : am_L} {st : List Value} {h : am_H} {x y : Int32} : am_ev d 223 228 ls (.int y :: .int x :: st) h = if x = y then am_ev d 223 1176 ls st h else am_ev d 223 231 ls st h := x_icmp inferInstance (show am_code 223 228 = some (.if_icmp .eq 1176, 3) by decide +kernel) rfl rfl (xc_eq _ _)
theorem e_223_231 {d : Nat} {ls : am_L} {st : List Value} {h : am_H} : am_ev d 223 231 ls st h = am_ev d 223 232 ls (.int 0 :: st) h := x_iconst (show am_code 223 231 = some (.iconst 0, 1) by decide +kernel) (by decide +kernel) rfl
theorem e_223_232 {d : Nat} {ls : am_L} {h : am_H} {v : Int32} (hb : v &&& 1 = v) : am_ev d 223 232 ls [.int v] h = some (some (.int v), h) := x_ret (q := mt_223) (show am_code 223 232 = some (.ireturn, 1) by decide +kernel) mt_223_at rfl (am_n_bool hb)
theorem e_223_233 {d : Nat} {x0 x2 x3 : Option Value} {v : Nat} {st : List Value} {h : am_H} : am_ev d 223 233 [x0, some (.ref v), x2, x3] st h = am_ev d 223 234 [x0, some (.ref v), x2, x3] (.ref v :: st) h := x_aload (show am_code 223 233 = some (.aload 1, 1) by decide +kernel) rfl rfl
theorem e_223_234 {d : Nat} {ls : am_L} {st : List Value} {h : am_H} {a : Nat} (hw : am_wd st ≤ 8) (hi : am_is (am_at h a) 7 = true) : am_ev (d + 1) 223 234 ls (.ref a :: st) h = am_bk (d + 1) 223 237 ls st (am_cal (d + 1) 86 [.ref a] h) := x_inv (q := mt_86) (show am_code 223 234 = some (.invokevirtual 86, 3) by decide +kernel) (Or.inl ⟨rfl, rfl⟩) mt_86_at rfl rfl rfl hw (Nat.le_of_ble_eq_true rfl) (fun _ => ⟨_, _, rfl, Or.inr hi⟩) rfl
theorem e_223_237 {d : Nat} {x0 x1 x3 : Option Value} {v : Nat} {st : List Value} {h : am_H} : am_ev d 223 237 [x0, x1, some (.ref v), x3] st h = am_ev d 223 238 [x0, x1, some (.ref v), x3] (.ref v :: st) h := x_aload (show am_code 223 237 = some (.aload 2, 1) by decide +kernel) rfl rfl
theorem e_223_238 {d : Nat} {ls : am_L} {st : List Value} {h : am_H} {a : Nat} (hw : am_wd st ≤ 8) (hi : am_is (am_at h a) 8 = true) : am_ev (d + 1) 223 238 ls (.ref a :: st) h = am_bk (d + 1) 223 241 ls st (am_cal (d + 1) 147 [.ref a] h) := x_inv (q := mt_147) (show am_code 223 238 = some (.invokevirtual 147, 3) by decide +kernel) (Or.inl ⟨rfl, rfl⟩) mt_147_at rfl rfl rfl hw (Nat.le_of_ble_eq_true rfl) (fun _ => ⟨_, _, rfl, Or.inr hi⟩) rfl
theorem e_223_241 {d : Nat} {ls : am_L} {st : List Value} {h : am_H} {x y : Int32} : am_ev d 223 241 ls (.int y :: .int x :: st) h = if x = y then am_ev d 223 1176 ls st h else am_ev d 223 244 ls st h := x_icmp inferInstance (show am_code 223 241 = some (.if_icmp .eq 1176, 3) by decide +kernel) rfl rfl (xc_eq _ _)
theorem e_223_244 {d : Nat} {ls : am_L} {st : List Value} {h : am_H} : am_ev d 223 244 ls st h = am_ev d 223 245 ls (.int 0 :: st) h := x_iconst (show am_code 223 244 = some (.iconst 0, 1) by decide +kernel) (by decide +kernel) rfl
theorem e_223_245 {d : Nat} {ls : am_L} {h : am_H} {v : Int32} (hb : v &&& 1 = v) : am_ev d 223 245 ls [.int v] h = some (some (.int v), h) := x_ret (q := mt_223) (show am_code 223 245 = some (.ireturn, 1) by decide +kernel) mt_223_at rfl (am_n_bool hb)
theorem e_223_246 {d : Nat} {x0 x2 x3 : Option Value} {v : Nat} {st : List Value} {h : am_H} : am_ev d 223 246 [x0, some (.ref v), x2, x3] st h = am_ev d 223 247 [x0, some (.ref v), x2, x3] (.ref v :: st) h := x_aload (show am_code 223 246 = some (.aload 1, 1) by decide +kernel) rfl rfl
theorem e_223_247 {d : Nat} {x1 x2 x3 : Option Value} {v : Nat} {st : List Value} {h : am_H} : am_ev d 223 247 [some (.ref v), x1, x2, x3] st h = am_ev d 223 248 [some (.ref v), x1, x2, x3] (.ref v :: st) h := x_aload (show am_code 223 247 = some (.aload 0, 1) by decide +kernel) rfl rfl
theorem e_223_248 {d : Nat} {x0 x1 x2 : Option Value} {v : Int32} {st : List Value} {h : am_H} : am_ev d 223 248 [x0, x1, x2, some (.int v)] st h = am_ev d 223 249 [x0, x1, x2, some (.int v)] (.int v :: st) h := x_iload (show am_code 223 248 = some (.iload 3, 1) by decide +kernel) rfl rfl
theorem e_223_249 {d : Nat} {ls : am_L} {st : List Value} {h : am_H} : am_ev d 223 249 ls st h = am_ev d 223 250 ls (.int 1 :: st) h := x_iconst (show am_code 223 249 = some (.iconst 1, 1) by decide +kernel) (by decide +kernel) rfl
theorem e_223_250 {d : Nat} {ls : am_L} {st : List Value} {h : am_H} {x y : Int32} : am_ev d 223 250 ls (.int y :: .int x :: st) h = am_ev d 223 251 ls (.int (x + y) :: st) h := x_iadd (show am_code 223 250 = some (.iadd, 1) by decide +kernel) rfl
theorem e_223_251 {d : Nat} {ls : am_L} {st : List Value} {h : am_H} {a : Nat} {i : Int32} : am_ev d 223 251 ls (.int i :: .ref a :: st) h = am_ak (am_at h a) 0 10 i (fun v => am_ev d 223 252 ls (.int v :: st) h) := x_iald (show am_code 223 251 = some (.iaload, 1) by decide +kernel) rfl
theorem e_223_252 {d : Nat} {x1 x2 x3 : Option Value} {v : Nat} {st : List Value} {h : am_H} : am_ev d 223 252 [some (.ref v), x1, x2, x3] st h = am_ev d 223 253 [some (.ref v), x1, x2, x3] (.ref v :: st) h := x_aload (show am_code 223 252 = some (.aload 0, 1) by decide +kernel) rfl rfl
theorem e_223_253 {d : Nat} {x0 x1 x2 : Option Value} {v : Int32} {st : List Value} {h : am_H} : am_ev d 223 253 [x0, x1, x2, some (.int v)] st h = am_ev d 223 254 [x0, x1, x2, some (.int v)] (.int v :: st) h := x_iload (show am_code 223 253 = some (.iload 3, 1) by decide +kernel) rfl rfl
theorem e_223_254 {d : Nat} {ls : am_L} {st : List Value} {h : am_H} : am_ev d 223 254 ls st h = am_ev d 223 255 ls (.int 2 :: st) h := x_iconst (show am_code 223 254 = some (.iconst 2, 1) by decide +kernel) (by decide +kernel) rfl
theorem e_223_255 {d : Nat} {ls : am_L} {st : List Value} {h : am_H} {x y : Int32} : am_ev d 223 255 ls (.int y :: .int x :: st) h = am_ev d 223 256 ls (.int (x + y) :: st) h := x_iadd (show am_code 223 255 = some (.iadd, 1) by decide +kernel) rfl
theorem e_223_256 {d : Nat} {ls : am_L} {st : List Value} {h : am_H} {a : Nat} {i : Int32} : am_ev d 223 256 ls (.int i :: .ref a :: st) h = am_ak (am_at h a) 0 10 i (fun v => am_ev d 223 257 ls (.int v :: st) h) := x_iald (show am_code 223 256 = some (.iaload, 1) by decide +kernel) rfl
theorem e_223_257 {d : Nat} {ls : am_L} {st : List Value} {h : am_H} {a : Nat} {v0 : Int32} {v1 : Int32} (hw : am_wd st ≤ 8) (hi : am_is (am_at h a) 7 = true) : am_ev (d + 1) 223 257 ls (.int v1 :: .int v0 :: .ref a :: st) h = am_bk (d + 1) 223 260 ls st (am_cal (d + 1) 87 [.ref a, .int v0, .int v1] h) := x_inv (q := mt_87) (show am_code 223 257 = some (.invokevirtual 87, 3) by decide +kernel) (Or.inl ⟨rfl, rfl⟩) mt_87_at rfl rfl rfl hw (Nat.le_of_ble_eq_true rfl) (fun _ => ⟨_, _, rfl, Or.inr hi⟩) rfl
theorem e_223_260 {d : Nat} {x0 x1 x3 : Option Value} {v : Nat} {st : List Value} {h : am_H} : am_ev d 223 260 [x0, x1, some (.ref v), x3] st h = am_ev d 223 261 [x0, x1, some (.ref v), x3] (.ref v :: st) h := x_aload (show am_code 223 260 = some (.aload 2, 1) by decide +kernel) rfl rfl
theorem e_223_261 {d : Nat} {x1 x2 x3 : Option Value} {v : Nat} {st : List Value} {h : am_H} : am_ev d 223 261 [some (.ref v), x1, x2, x3] st h = am_ev d 223 262 [some (.ref v), x1, x2, x3] (.ref v :: st) h := x_aload (show am_code 223 261 = some (.aload 0, 1) by decide +kernel) rfl rfl
theorem e_223_262 {d : Nat} {x0 x1 x2 : Option Value} {v : Int32} {st : List Value} {h : am_H} : am_ev d 223 262 [x0, x1, x2, some (.int v)] st h = am_ev d 223 263 [x0, x1, x2, some (.int v)] (.int v :: st) h := x_iload (show am_code 223 262 = some (.iload 3, 1) by decide +kernel) rfl rfl
theorem e_223_263 {d : Nat} {ls : am_L} {st : List Value} {h : am_H} : am_ev d 223 263 ls st h = am_ev d 223 264 ls (.int 1 :: st) h := x_iconst (show am_code 223 263 = some (.iconst 1, 1) by decide +kernel) (by decide +kernel) rfl
theorem e_223_264 {d : Nat} {ls : am_L} {st : List Value} {h : am_H} {x y : Int32} : am_ev d 223 264 ls (.int y :: .int x :: st) h = am_ev d 223 265 ls (.int (x + y) :: st) h := x_iadd (show am_code 223 264 = some (.iadd, 1) by decide +kernel) rfl
theorem e_223_265 {d : Nat} {ls : am_L} {st : List Value} {h : am_H} {a : Nat} {i : Int32} : am_ev d 223 265 ls (.int i :: .ref a :: st) h = am_ak (am_at h a) 0 10 i (fun v => am_ev d 223 266 ls (.int v :: st) h) := x_iald (show am_code 223 265 = some (.iaload, 1) by decide +kernel) rfl
theorem e_223_266 {d : Nat} {x1 x2 x3 : Option Value} {v : Nat} {st : List Value} {h : am_H} : am_ev d 223 266 [some (.ref v), x1, x2, x3] st h = am_ev d 223 267 [some (.ref v), x1, x2, x3] (.ref v :: st) h := x_aload (show am_code 223 266 = some (.aload 0, 1) by decide +kernel) rfl rfl
theorem e_223_267 {d : Nat} {x0 x1 x2 : Option Value} {v : Int32} {st : List Value} {h : am_H} : am_ev d 223 267 [x0, x1, x2, some (.int v)] st h = am_ev d 223 268 [x0, x1, x2, some (.int v)] (.int v :: st) h := x_iload (show am_code 223 267 = some (.iload 3, 1) by decide +kernel) rfl rfl
theorem e_223_268 {d : Nat} {ls : am_L} {st : List Value} {h : am_H} : am_ev d 223 268 ls st h = am_ev d 223 269 ls (.int 2 :: st) h := x_iconst (show am_code 223 268 = some (.iconst 2, 1) by decide +kernel) (by decide +kernel) rfl
theorem e_223_269 {d : Nat} {ls : am_L} {st : List Value} {h : am_H} {x y : Int32} : am_ev d 223 269 ls (.int y :: .int x :: st) h = am_ev d 223 270 ls (.int (x + y) :: st) h := x_iadd (show am_code 223 269 = some (.iadd, 1) by decide +kernel) rfl
theorem e_223_270 {d : Nat} {ls : am_L} {st : List Value} {h : am_H} {a : Nat} {i : Int32} : am_ev d 223 270 ls (.int i :: .ref a :: st) h = am_ak (am_at h a) 0 10 i (fun v => am_ev d 223 271 ls (.int v :: st) h) := x_iald (show am_code 223 270 = some (.iaload, 1) by decide +kernel) rfl
theorem e_223_271 {d : Nat} {ls : am_L} {st : List Value} {h : am_H} {a : Nat} {v0 : Int32} {v1 : Int32} (hw : am_wd st ≤ 8) (hi : am_is (am_at h a) 8 = true) : am_ev (d + 1) 223 271 ls (.int v1 :: .int v0 :: .ref a :: st) h = am_bk (d + 1) 223 274 ls st (am_cal (d + 1) 161 [.ref a, .int v0, .int v1] h) := x_inv (q := mt_161) (show am_code 223 271 = some (.invokevirtual 161, 3) by decide +kernel) (Or.inl ⟨rfl, rfl⟩) mt_161_at rfl rfl rfl hw (Nat.le_of_ble_eq_true rfl) (fun _ => ⟨_, _, rfl, Or.inr hi⟩) rfl
theorem e_223_274 {d : Nat} {ls : am_L} {st : List Value} {h : am_H} {x y : Int32} : am_ev d 223 274 ls (.int y :: .int x :: st) h = if x = y then am_ev d 223 1176 ls st h else am_ev d 223 277 ls st h := x_icmp inferInstance (show am_code 223 274 = some (.if_icmp .eq 1176, 3) by decide +kernel) rfl rfl (xc_eq _ _)
theorem e_223_277 {d : Nat} {ls : am_L} {st : List Value} {h : am_H} : am_ev d 223 277 ls st h = am_ev d 223 278 ls (.int 0 :: st) h := x_iconst (show am_code 223 277 = some (.iconst 0, 1) by decide +kernel) (by decide +kernel) rfl
theorem e_223_278 {d : Nat} {ls : am_L} {h : am_H} {v : Int32} (hb : v &&& 1 = v) : am_ev d 223 278 ls [.int v] h = some (some (.int v), h) := x_ret (q := mt_223) (show am_code 223 278 = some (.ireturn, 1) by decide +kernel) mt_223_at rfl (am_n_bool hb)
theorem e_223_279 {d : Nat} {x0 x2 x3 : Option Value} {v : Nat} {st : List Value} {h : am_H} : am_ev d 223 279 [x0, some (.ref v), x2, x3] st h = am_ev d 223 280 [x0, some (.ref v), x2, x3] (.ref v :: st) h := x_aload (show am_code 223 279 = some (.aload 1, 1) by decide +kernel) rfl rfl
theorem e_223_280 {d : Nat} {x1 x2 x3 : Option Value} {v : Nat} {st : List Value} {h : am_H} : am_ev d 223 280 [some (.ref v), x1, x2, x3] st h = am_ev d 223 281 [some (.ref v), x1, x2, x3] (.ref v :: st) h := x_aload (show am_code 223 280 = some (.aload 0, 1) by decide +kernel) rfl rfl
theorem e_223_281 {d : Nat} {x0 x1 x2 : Option Value} {v : Int32} {st : List Value} {h : am_H} : am_ev d 223 281 [x0, x1, x2, some (.int v)] st h = am_ev d 223 282 [x0, x1, x2, some (.int v)] (.int v :: st) h := x_iload (show am_code 223 281 = some (.iload 3, 1) by decide +kernel) rfl rfl
theorem e_223_282 {d : Nat} {ls : am_L} {st : List Value} {h : am_H} : am_ev d 223 282 ls st h = am_ev d 223 283 ls (.int 1 :: st) h := x_iconst (show am_code 223 282 = some (.iconst 1, 1) by decide +kernel) (by decide +kernel) rfl
theorem e_223_283 {d : Nat} {ls : am_L} {st : List Value} {h : am_H} {x y : Int32} : am_ev d 223 283 ls (.int y :: .int x :: st) h = am_ev d 223 284 ls (.int (x + y) :: st) h := x_iadd (show am_code 223 283 = some (.iadd, 1) by decide +kernel) rfl
theorem e_223_284 {d : Nat} {ls : am_L} {st : List Value} {h : am_H} {a : Nat} {i : Int32} : am_ev d 223 284 ls (.int i :: .ref a :: st) h = am_ak (am_at h a) 0 10 i (fun v => am_ev d 223 285 ls (.int v :: st) h) := x_iald (show am_code 223 284 = some (.iaload, 1) by decide +kernel) rfl
theorem e_223_285 {d : Nat} {x1 x2 x3 : Option Value} {v : Nat} {st : List Value} {h : am_H} : am_ev d 223 285 [some (.ref v), x1, x2, x3] st h = am_ev d 223 286 [some (.ref v), x1, x2, x3] (.ref v :: st) h := x_aload (show am_code 223 285 = some (.aload 0, 1) by decide +kernel) rfl rfl
theorem e_223_286 {d : Nat} {x0 x1 x2 : Option Value} {v : Int32} {st : List Value} {h : am_H} : am_ev d 223 286 [x0, x1, x2, some (.int v)] st h = am_ev d 223 287 [x0, x1, x2, some (.int v)] (.int v :: st) h := x_iload (show am_code 223 286 = some (.iload 3, 1) by decide +kernel) rfl rfl
theorem e_223_287 {d : Nat} {ls : am_L} {st : List Value} {h : am_H} : am_ev d 223 287 ls st h = am_ev d 223 288 ls (.int 2 :: st) h := x_iconst (show am_code 223 287 = some (.iconst 2, 1) by decide +kernel) (by decide +kernel) rfl
theorem e_223_288 {d : Nat} {ls : am_L} {st : List Value} {h : am_H} {x y : Int32} : am_ev d 223 288 ls (.int y :: .int x :: st) h = am_ev d 223 289 ls (.int (x + y) :: st) h := x_iadd (show am_code 223 288 = some (.iadd, 1) by decide +kernel) rfl
theorem e_223_289 {d : Nat} {ls : am_L} {st : List Value} {h : am_H} {a : Nat} {i : Int32} : am_ev d 223 289 ls (.int i :: .ref a :: st) h = am_ak (am_at h a) 0 10 i (fun v => am_ev d 223 290 ls (.int v :: st) h) := x_iald (show am_code 223 289 = some (.iaload, 1) by decide +kernel) rfl
theorem e_223_290 {d : Nat} {ls : am_L} {st : List Value} {h : am_H} {a : Nat} {v0 : Int32} {v1 : Int32} (hw : am_wd st ≤ 8) (hi : am_is (am_at h a) 7 = true) : am_ev (d + 1) 223 290 ls (.int v1 :: .int v0 :: .ref a :: st) h = am_bk (d + 1) 223 293 ls st (am_cal (d + 1) 88 [.ref a, .int v0, .int v1] h) := x_inv (q := mt_88) (show am_code 223 290 = some (.invokevirtual 88, 3) by decide +kernel) (Or.inl ⟨rfl, rfl⟩) mt_88_at rfl rfl rfl hw (Nat.le_of_ble_eq_true rfl) (fun _ => ⟨_, _, rfl, Or.inr hi⟩) rfl
theorem e_223_293 {d : Nat} {x0 x1 x3 : Option Value} {v : Nat} {st : List Value} {h : am_H} : am_ev d 223 293 [x0, x1, some (.ref v), x3] st h = am_ev d 223 294 [x0, x1, some (.ref v), x3] (.ref v :: st) h := x_aload (show am_code 223 293 = some (.aload 2, 1) by decide +kernel) rfl rfl
theorem e_223_294 {d : Nat} {x1 x2 x3 : Option Value} {v : Nat} {st : List Value} {h : am_H} : am_ev d 223 294 [some (.ref v), x1, x2, x3] st h = am_ev d 223 295 [some (.ref v), x1, x2, x3] (.ref v :: st) h := x_aload (show am_code 223 294 = some (.aload 0, 1) by decide +kernel) rfl rfl
theorem e_223_295 {d : Nat} {x0 x1 x2 : Option Value} {v : Int32} {st : List Value} {h : am_H} : am_ev d 223 295 [x0, x1, x2, some (.int v)] st h = am_ev d 223 296 [x0, x1, x2, some (.int v)] (.int v :: st) h := x_iload (show am_code 223 295 = some (.iload 3, 1) by decide +kernel) rfl rfl
theorem e_223_296 {d : Nat} {ls : am_L} {st : List Value} {h : am_H} : am_ev d 223 296 ls st h = am_ev d 223 297 ls (.int 1 :: st) h := x_iconst (show am_code 223 296 = some (.iconst 1, 1) by decide +kernel) (by decide +kernel) rfl
theorem e_223_297 {d : Nat} {ls : am_L} {st : List Value} {h : am_H} {x y : Int32} : am_ev d 223 297 ls (.int y :: .int x :: st) h = am_ev d 223 298 ls (.int (x + y) :: st) h := x_iadd (show am_code 223 297 = some (.iadd, 1) by decide +kernel) rfl
theorem e_223_298 {d : Nat} {ls : am_L} {st : List Value} {h : am_H} {a : Nat} {i : Int32} : am_ev d 223 298 ls (.int i :: .ref a :: st) h = am_ak (am_at h a) 0 10 i (fun v => am_ev d 223 299 ls (.int v :: st) h) := x_iald (show am_code 223 298 = some (.iaload, 1) by decide +kernel) rfl
theorem e_223_299 {d : Nat} {x1 x2 x3 : Option Value} {v : Nat} {st : List Value} {h : am_H} : am_ev d 223 299 [some (.ref v), x1, x2, x3] st h = am_ev d 223 300 [some (.ref v), x1, x2, x3] (.ref v :: st) h := x_aload (show am_code 223 299 = some (.aload 0, 1) by decide +kernel) rfl rfl
theorem e_223_300 {d : Nat} {x0 x1 x2 : Option Value} {v : Int32} {st : List Value} {h : am_H} : am_ev d 223 300 [x0, x1, x2, some (.int v)] st h = am_ev d 223 301 [x0, x1, x2, some (.int v)] (.int v :: st) h := x_iload (show am_code 223 300 = some (.iload 3, 1) by decide +kernel) rfl rfl
theorem e_223_301 {d : Nat} {ls : am_L} {st : List Value} {h : am_H} : am_ev d 223 301 ls st h = am_ev d 223 302 ls (.int 2 :: st) h := x_iconst (show am_code 223 301 = some (.iconst 2, 1) by decide +kernel) (by decide +kernel) rfl
theorem e_223_302 {d : Nat} {ls : am_L} {st : List Value} {h : am_H} {x y : Int32} : am_ev d 223 302 ls (.int y :: .int x :: st) h = am_ev d 223 303 ls (.int (x + y) :: st) h := x_iadd (show am_code 223 302 = some (.iadd, 1) by decide +kernel) rfl
theorem e_223_303 {d : Nat} {ls : am_L} {st : List Value} {h : am_H} {a : Nat} {i : Int32} : am_ev d 223 303 ls (.int i :: .ref a :: st) h = am_ak (am_at h a) 0 10 i (fun v => am_ev d 223 304 ls (.int v :: st) h) := x_iald (show am_code 223 303 = some (.iaload, 1) by decide +kernel) rfl
theorem e_223_304 {d : Nat} {ls : am_L} {st : List Value} {h : am_H} {a : Nat} {v0 : Int32} {v1 : Int32} (hw : am_wd st ≤ 8) (hi : am_is (am_at h a) 8 = true) : am_ev (d + 1) 223 304 ls (.int v1 :: .int v0 :: .ref a :: st) h = am_bk (d + 1) 223 307 ls st (am_cal (d + 1) 163 [.ref a, .int v0, .int v1] h) := x_inv (q := mt_163) (show am_code 223 304 = some (.invokevirtual 163, 3) by decide +kernel) (Or.inl ⟨rfl, rfl⟩) mt_163_at rfl rfl rfl hw (Nat.le_of_ble_eq_true rfl) (fun _ => ⟨_, _, rfl, Or.inr hi⟩) rfl
theorem e_223_307 {d : Nat} {ls : am_L} {st : List Value} {h : am_H} {x y : Int32} : am_ev d 223 307 ls (.int y :: .int x :: st) h = if x = y then am_ev d 223 1176 ls st h else am_ev d 223 310 ls st h := x_icmp inferInstance (show am_code 223 307 = some (.if_icmp .eq 1176, 3) by decide +kernel) rfl rfl (xc_eq _ _)
theorem e_223_310 {d : Nat} {ls : am_L} {st : List Value} {h : am_H} : am_ev d 223 310 ls st h = am_ev d 223 311 ls (.int 0 :: st) h := x_iconst (show am_code 223 310 = some (.iconst 0, 1) by decide +kernel) (by decide +kernel) rfl
theorem e_223_311 {d : Nat} {ls : am_L} {h : am_H} {v : Int32} (hb : v &&& 1 = v) : am_ev d 223 311 ls [.int v] h = some (some (.int v), h) := x_ret (q := mt_223) (show am_code 223 311 = some (.ireturn, 1) by decide +kernel) mt_223_at rfl (am_n_bool hb)
theorem e_223_312 {d : Nat} {x0 x2 x3 : Option Value} {v : Nat} {st : List Value} {h : am_H} : am_ev d 223 312 [x0, some (.ref v), x2, x3] st h = am_ev d 223 313 [x0, some (.ref v), x2, x3] (.ref v :: st) h := x_aload (show am_code 223 312 = some (.aload 1, 1) by decide +kernel) rfl rfl
theorem e_223_313 {d : Nat} {x1 x2 x3 : Option Value} {v : Nat} {st : List Value} {h : am_H} : am_ev d 223 313 [some (.ref v), x1, x2, x3] st h = am_ev d 223 314 [some (.ref v), x1, x2, x3] (.ref v :: st) h := x_aload (show am_code 223 313 = some (.aload 0, 1) by decide +kernel) rfl rfl
theorem e_223_314 {d : Nat} {x0 x1 x2 : Option Value} {v : Int32} {st : List Value} {h : am_H} : am_ev d 223 314 [x0, x1, x2, some (.int v)] st h = am_ev d 223 315 [x0, x1, x2, some (.int v)] (.int v :: st) h := x_iload (show am_code 223 314 = some (.iload 3, 1) by decide +kernel) rfl rfl
theorem e_223_315 {d : Nat} {ls : am_L} {st : List Value} {h : am_H} : am_ev d 223 315 ls st h = am_ev d 223 316 ls (.int 1 :: st) h := x_iconst (show am_code 223 315 = some (.iconst 1, 1) by decide +kernel) (by decide +kernel) rfl
theorem e_223_316 {d : Nat} {ls : am_L} {st : List Value} {h : am_H} {x y : Int32} : am_ev d 223 316 ls (.int y :: .int x :: st) h = am_ev d 223 317 ls (.int (x + y) :: st) h := x_iadd (show am_code 223 316 = some (.iadd, 1) by decide +kernel) rfl
theorem e_223_317 {d : Nat} {ls : am_L} {st : List Value} {h : am_H} {a : Nat} {i : Int32} : am_ev d 223 317 ls (.int i :: .ref a :: st) h = am_ak (am_at h a) 0 10 i (fun v => am_ev d 223 318 ls (.int v :: st) h) := x_iald (show am_code 223 317 = some (.iaload, 1) by decide +kernel) rfl
theorem e_223_318 {d : Nat} {x1 x2 x3 : Option Value} {v : Nat} {st : List Value} {h : am_H} : am_ev d 223 318 [some (.ref v), x1, x2, x3] st h = am_ev d 223 319 [some (.ref v), x1, x2, x3] (.ref v :: st) h := x_aload (show am_code 223 318 = some (.aload 0, 1) by decide +kernel) rfl rfl
theorem e_223_319 {d : Nat} {x0 x1 x2 : Option Value} {v : Int32} {st : List Value} {h : am_H} : am_ev d 223 319 [x0, x1, x2, some (.int v)] st h = am_ev d 223 320 [x0, x1, x2, some (.int v)] (.int v :: st) h := x_iload (show am_code 223 319 = some (.iload 3, 1) by decide +kernel) rfl rfl
theorem e_223_320 {d : Nat} {ls : am_L} {st : List Value} {h : am_H} : am_ev d 223 320 ls st h = am_ev d 223 321 ls (.int 2 :: st) h := x_iconst (show am_code 223 320 = some (.iconst 2, 1) by decide +kernel) (by decide +kernel) rfl
theorem e_223_321 {d : Nat} {ls : am_L} {st : List Value} {h : am_H} {x y : Int32} : am_ev d 223 321 ls (.int y :: .int x :: st) h = am_ev d 223 322 ls (.int (x + y) :: st) h := x_iadd (show am_code 223 321 = some (.iadd, 1) by decide +kernel) rfl
theorem e_223_322 {d : Nat} {ls : am_L} {st : List Value} {h : am_H} {a : Nat} {i : Int32} : am_ev d 223 322 ls (.int i :: .ref a :: st) h = am_ak (am_at h a) 0 10 i (fun v => am_ev d 223 323 ls (.int v :: st) h) := x_iald (show am_code 223 322 = some (.iaload, 1) by decide +kernel) rfl
theorem e_223_323 {d : Nat} {ls : am_L} {st : List Value} {h : am_H} {a : Nat} {v0 : Int32} {v1 : Int32} (hw : am_wd st ≤ 8) (hi : am_is (am_at h a) 7 = true) : am_ev (d + 1) 223 323 ls (.int v1 :: .int v0 :: .ref a :: st) h = am_bk (d + 1) 223 326 ls st (am_cal (d + 1) 89 [.ref a, .int v0, .int v1] h) := x_inv (q := mt_89) (show am_code 223 323 = some (.invokevirtual 89, 3) by decide +kernel) (Or.inl ⟨rfl, rfl⟩) mt_89_at rfl rfl rfl hw (Nat.le_of_ble_eq_true rfl) (fun _ => ⟨_, _, rfl, Or.inr hi⟩) rfl
theorem e_223_326 {d : Nat} {x0 x1 x3 : Option Value} {v : Nat} {st : List Value} {h : am_H} : am_ev d 223 326 [x0, x1, some (.ref v), x3] st h = am_ev d 223 327 [x0, x1, some (.ref v), x3] (.ref v :: st) h := x_aload (show am_code 223 326 = some (.aload 2, 1) by decide +kernel) rfl rfl
theorem e_223_327 {d : Nat} {x1 x2 x3 : Option Value} {v : Nat} {st : List Value} {h : am_H} : am_ev d 223 327 [some (.ref v), x1, x2, x3] st h = am_ev d 223 328 [some (.ref v), x1, x2, x3] (.ref v :: st) h := x_aload (show am_code 223 327 = some (.aload 0, 1) by decide +kernel) rfl rfl
theorem e_223_328 {d : Nat} {x0 x1 x2 : Option Value} {v : Int32} {st : List Value} {h : am_H} : am_ev d 223 328 [x0, x1, x2, some (.int v)] st h = am_ev d 223 329 [x0, x1, x2, some (.int v)] (.int v :: st) h := x_iload (show am_code 223 328 = some (.iload 3, 1) by decide +kernel) rfl rfl
theorem e_223_329 {d : Nat} {ls : am_L} {st : List Value} {h : am_H} : am_ev d 223 329 ls st h = am_ev d 223 330 ls (.int 1 :: st) h := x_iconst (show am_code 223 329 = some (.iconst 1, 1) by decide +kernel) (by decide +kernel) rfl
theorem e_223_330 {d : Nat} {ls : am_L} {st : List Value} {h : am_H} {x y : Int32} : am_ev d 223 330 ls (.int y :: .int x :: st) h = am_ev d 223 331 ls (.int (x + y) :: st) h := x_iadd (show am_code 223 330 = some (.iadd, 1) by decide +kernel) rfl
theorem e_223_331 {d : Nat} {ls : am_L} {st : List Value} {h : am_H} {a : Nat} {i : Int32} : am_ev d 223 331 ls (.int i :: .ref a :: st) h = am_ak (am_at h a) 0 10 i (fun v => am_ev d 223 332 ls (.int v :: st) h) := x_iald (show am_code 223 331 = some (.iaload, 1) by decide +kernel) rfl
theorem e_223_332 {d : Nat} {x1 x2 x3 : Option Value} {v : Nat} {st : List Value} {h : am_H} : am_ev d 223 332 [some (.ref v), x1, x2, x3] st h = am_ev d 223 333 [some (.ref v), x1, x2, x3] (.ref v :: st) h := x_aload (show am_code 223 332 = some (.aload 0, 1) by decide +kernel) rfl rfl
theorem e_223_333 {d : Nat} {x0 x1 x2 : Option Value} {v : Int32} {st : List Value} {h : am_H} : am_ev d 223 333 [x0, x1, x2, some (.int v)] st h = am_ev d 223 334 [x0, x1, x2, some (.int v)] (.int v :: st) h := x_iload (show am_code 223 333 = some (.iload 3, 1) by decide +kernel) rfl rfl
theorem e_223_334 {d : Nat} {ls : am_L} {st : List Value} {h : am_H} : am_ev d 223 334 ls st h = am_ev d 223 335 ls (.int 2 :: st) h := x_iconst (show am_code 223 334 = some (.iconst 2, 1) by decide +kernel) (by decide +kernel) rfl
theorem e_223_335 {d : Nat} {ls : am_L} {st : List Value} {h : am_H} {x y : Int32} : am_ev d 223 335 ls (.int y :: .int x :: st) h = am_ev d 223 336 ls (.int (x + y) :: st) h := x_iadd (show am_code 223 335 = some (.iadd, 1) by decide +kernel) rfl
theorem e_223_336 {d : Nat} {ls : am_L} {st : List Value} {h : am_H} {a : Nat} {i : Int32} : am_ev d 223 336 ls (.int i :: .ref a :: st) h = am_ak (am_at h a) 0 10 i (fun v => am_ev d 223 337 ls (.int v :: st) h) := x_iald (show am_code 223 336 = some (.iaload, 1) by decide +kernel) rfl
theorem e_223_337 {d : Nat} {ls : am_L} {st : List Value} {h : am_H} {a : Nat} {v0 : Int32} {v1 : Int32} (hw : am_wd st ≤ 8) (hi : am_is (am_at h a) 8 = true) : am_ev (d + 1) 223 337 ls (.int v1 :: .int v0 :: .ref a :: st) h = am_bk (d + 1) 223 340 ls st (am_cal (d + 1) 164 [.ref a, .int v0, .int v1] h) := x_inv (q := mt_164) (show am_code 223 337 = some (.invokevirtual 164, 3) by decide +kernel) (Or.inl ⟨rfl, rfl⟩) mt_164_at rfl rfl rfl hw (Nat.le_of_ble_eq_true rfl) (fun _ => ⟨_, _, rfl, Or.inr hi⟩) rfl
theorem e_223_340 {d : Nat} {ls : am_L} {st : List Value} {h : am_H} {x y : Int32} : am_ev d 223 340 ls (.int y :: .int x :: st) h = if x = y then am_ev d 223 1176 ls st h else am_ev d 223 343 ls st h := x_icmp inferInstance (show am_code 223 340 = some (.if_icmp .eq 1176, 3) by decide +kernel) rfl rfl (xc_eq _ _)
theorem e_223_343 {d : Nat} {ls : am_L} {st : List Value} {h : am_H} : am_ev d 223 343 ls st h = am_ev d 223 344 ls (.int 0 :: st) h := x_iconst (show am_code 223 343 = some (.iconst 0, 1) by decide +kernel) (by decide +kernel) rfl
theorem e_223_344 {d : Nat} {ls : am_L} {h : am_H} {v : Int32} (hb : v &&& 1 = v) : am_ev d 223 344 ls [.int v] h = some (some (.int v), h) := x_ret (q := mt_223) (show am_code 223 344 = some (.ireturn, 1) by decide +kernel) mt_223_at rfl (am_n_bool hb)
theorem e_223_345 {d : Nat} {x0 x2 x3 : Option Value} {v : Nat} {st : List Value} {h : am_H} : am_ev d 223 345 [x0, some (.ref v), x2, x3] st h = am_ev d 223 346 [x0, some (.ref v), x2, x3] (.ref v :: st) h := x_aload (show am_code 223 345 = some (.aload 1, 1) by decide +kernel) rfl rfl
theorem e_223_346 {d : Nat} {x1 x2 x3 : Option Value} {v : Nat} {st : List Value} {h : am_H} : am_ev d 223 346 [some (.ref v), x1, x2, x3] st h = am_ev d 223 347 [some (.ref v), x1, x2, x3] (.ref v :: st) h := x_aload (show am_code 223 346 = some (.aload 0, 1) by decide +kernel) rfl rfl
theorem e_223_347 {d : Nat} {x0 x1 x2 : Option Value} {v : Int32} {st : List Value} {h : am_H} : am_ev d 223 347 [x0, x1, x2, some (.int v)] st h = am_ev d 223 348 [x0, x1, x2, some (.int v)] (.int v :: st) h := x_iload (show am_code 223 347 = some (.iload 3, 1) by decide +kernel) rfl rfl
theorem e_223_348 {d : Nat} {ls : am_L} {st : List Value} {h : am_H} : am_ev d 223 348 ls st h = am_ev d 223 349 ls (.int 1 :: st) h := x_iconst (show am_code 223 348 = some (.iconst 1, 1) by decide +kernel) (by decide +kernel) rfl
theorem e_223_349 {d : Nat} {ls : am_L} {st : List Value} {h : am_H} {x y : Int32} : am_ev d 223 349 ls (.int y :: .int x :: st) h = am_ev d 223 350 ls (.int (x + y) :: st) h := x_iadd (show am_code 223 349 = some (.iadd, 1) by decide +kernel) rfl
theorem e_223_350 {d : Nat} {ls : am_L} {st : List Value} {h : am_H} {a : Nat} {i : Int32} : am_ev d 223 350 ls (.int i :: .ref a :: st) h = am_ak (am_at h a) 0 10 i (fun v => am_ev d 223 351 ls (.int v :: st) h) := x_iald (show am_code 223 350 = some (.iaload, 1) by decide +kernel) rfl
theorem e_223_351 {d : Nat} {ls : am_L} {st : List Value} {h : am_H} {a : Nat} {v0 : Int32} (hw : am_wd st ≤ 8) (hi : am_is (am_at h a) 7 = true) : am_ev (d + 1) 223 351 ls (.int v0 :: .ref a :: st) h = am_bk (d + 1) 223 354 ls st (am_cal (d + 1) 90 [.ref a, .int v0] h) := x_inv (q := mt_90) (show am_code 223 351 = some (.invokevirtual 90, 3) by decide +kernel) (Or.inl ⟨rfl, rfl⟩) mt_90_at rfl rfl rfl hw (Nat.le_of_ble_eq_true rfl) (fun _ => ⟨_, _, rfl, Or.inr hi⟩) rfl
theorem e_223_354 {d : Nat} {x0 x1 x3 : Option Value} {v : Nat} {st : List Value} {h : am_H} : am_ev d 223 354 [x0, x1, some (.ref v), x3] st h = am_ev d 223 355 [x0, x1, some (.ref v), x3] (.ref v :: st) h := x_aload (show am_code 223 354 = some (.aload 2, 1) by decide +kernel) rfl rfl
theorem e_223_355 {d : Nat} {x1 x2 x3 : Option Value} {v : Nat} {st : List Value} {h : am_H} : am_ev d 223 355 [some (.ref v), x1, x2, x3] st h = am_ev d 223 356 [some (.ref v), x1, x2, x3] (.ref v :: st) h := x_aload (show am_code 223 355 = some (.aload 0, 1) by decide +kernel) rfl rfl
theorem e_223_356 {d : Nat} {x0 x1 x2 : Option Value} {v : Int32} {st : List Value} {h : am_H} : am_ev d 223 356 [x0, x1, x2, some (.int v)] st h = am_ev d 223 357 [x0, x1, x2, some (.int v)] (.int v :: st) h := x_iload (show am_code 223 356 = some (.iload 3, 1) by decide +kernel) rfl rfl
theorem e_223_357 {d : Nat} {ls : am_L} {st : List Value} {h : am_H} : am_ev d 223 357 ls st h = am_ev d 223 358 ls (.int 1 :: st) h := x_iconst (show am_code 223 357 = some (.iconst 1, 1) by decide +kernel) (by decide +kernel) rfl
theorem e_223_358 {d : Nat} {ls : am_L} {st : List Value} {h : am_H} {x y : Int32} : am_ev d 223 358 ls (.int y :: .int x :: st) h = am_ev d 223 359 ls (.int (x + y) :: st) h := x_iadd (show am_code 223 358 = some (.iadd, 1) by decide +kernel) rfl
theorem e_223_359 {d : Nat} {ls : am_L} {st : List Value} {h : am_H} {a : Nat} {i : Int32} : am_ev d 223 359 ls (.int i :: .ref a :: st) h = am_ak (am_at h a) 0 10 i (fun v => am_ev d 223 360 ls (.int v :: st) h) := x_iald (show am_code 223 359 = some (.iaload, 1) by decide +kernel) rfl
theorem e_223_360 {d : Nat} {ls : am_L} {st : List Value} {h : am_H} {a : Nat} {v0 : Int32} (hw : am_wd st ≤ 8) (hi : am_is (am_at h a) 8 = true) : am_ev (d + 1) 223 360 ls (.int v0 :: .ref a :: st) h = am_bk (d + 1) 223 363 ls st (am_cal (d + 1) 166 [.ref a, .int v0] h) := x_inv (q := mt_166) (show am_code 223 360 = some (.invokevirtual 166, 3) by decide +kernel) (Or.inl ⟨rfl, rfl⟩) mt_166_at rfl rfl rfl hw (Nat.le_of_ble_eq_true rfl) (fun _ => ⟨_, _, rfl, Or.inr hi⟩) rfl
theorem e_223_363 {d : Nat} {ls : am_L} {st : List Value} {h : am_H} {x y : Int32} : am_ev d 223 363 ls (.int y :: .int x :: st) h = if x = y then am_ev d 223 1176 ls st h else am_ev d 223 366 ls st h := x_icmp inferInstance (show am_code 223 363 = some (.if_icmp .eq 1176, 3) by decide +kernel) rfl rfl (xc_eq _ _)
theorem e_223_366 {d : Nat} {ls : am_L} {st : List Value} {h : am_H} : am_ev d 223 366 ls st h = am_ev d 223 367 ls (.int 0 :: st) h := x_iconst (show am_code 223 366 = some (.iconst 0, 1) by decide +kernel) (by decide +kernel) rfl
theorem e_223_367 {d : Nat} {ls : am_L} {h : am_H} {v : Int32} (hb : v &&& 1 = v) : am_ev d 223 367 ls [.int v] h = some (some (.int v), h) := x_ret (q := mt_223) (show am_code 223 367 = some (.ireturn, 1) by decide +kernel) mt_223_at rfl (am_n_bool hb)
theorem e_223_368 {d : Nat} {x0 x2 x3 : Option Value} {v : Nat} {st : List Value} {h : am_H} : am_ev d 223 368 [x0, some (.ref v), x2, x3] st h = am_ev d 223 369 [x0, some (.ref v), x2, x3] (.ref v :: st) h := x_aload (show am_code 223 368 = some (.aload 1, 1) by decide +kernel) rfl rfl
theorem e_223_369 {d : Nat} {x1 x2 x3 : Option Value} {v : Nat} {st : List Value} {h : am_H} : am_ev d 223 369 [some (.ref v), x1, x2, x3] st h = am_ev d 223 370 [some (.ref v), x1, x2, x3] (.ref v :: st) h := x_aload (show am_code 223 369 = some (.aload 0, 1) by decide +kernel) rfl rfl
theorem e_223_370 {d : Nat} {x0 x1 x2 : Option Value} {v : Int32} {st : List Value} {h : am_H} : am_ev d 223 370 [x0, x1, x2, some (.int v)] st h = am_ev d 223 371 [x0, x1, x2, some (.int v)] (.int v :: st) h := x_iload (show am_code 223 370 = some (.iload 3, 1) by decide +kernel) rfl rfl
theorem e_223_371 {d : Nat} {ls : am_L} {st : List Value} {h : am_H} : am_ev d 223 371 ls st h = am_ev d 223 372 ls (.int 1 :: st) h := x_iconst (show am_code 223 371 = some (.iconst 1, 1) by decide +kernel) (by decide +kernel) rfl
theorem e_223_372 {d : Nat} {ls : am_L} {st : List Value} {h : am_H} {x y : Int32} : am_ev d 223 372 ls (.int y :: .int x :: st) h = am_ev d 223 373 ls (.int (x + y) :: st) h := x_iadd (show am_code 223 372 = some (.iadd, 1) by decide +kernel) rfl
theorem e_223_373 {d : Nat} {ls : am_L} {st : List Value} {h : am_H} {a : Nat} {i : Int32} : am_ev d 223 373 ls (.int i :: .ref a :: st) h = am_ak (am_at h a) 0 10 i (fun v => am_ev d 223 374 ls (.int v :: st) h) := x_iald (show am_code 223 373 = some (.iaload, 1) by decide +kernel) rfl
theorem e_223_374 {d : Nat} {ls : am_L} {st : List Value} {h : am_H} {a : Nat} {v0 : Int32} (hw : am_wd st ≤ 8) (hi : am_is (am_at h a) 7 = true) : am_ev (d + 1) 223 374 ls (.int v0 :: .ref a :: st) h = am_bk (d + 1) 223 377 ls st (am_cal (d + 1) 91 [.ref a, .int v0] h) := x_inv (q := mt_91) (show am_code 223 374 = some (.invokevirtual 91, 3) by decide +kernel) (Or.inl ⟨rfl, rfl⟩) mt_91_at rfl rfl rfl hw (Nat.le_of_ble_eq_true rfl) (fun _ => ⟨_, _, rfl, Or.inr hi⟩) rfl
theorem e_223_377 {d : Nat} {x0 x1 x3 : Option Value} {v : Nat} {st : List Value} {h : am_H} : am_ev d 223 377 [x0, x1, some (.ref v), x3] st h = am_ev d 223 378 [x0, x1, some (.ref v), x3] (.ref v :: st) h := x_aload (show am_code 223 377 = some (.aload 2, 1) by decide +kernel) rfl rfl
theorem e_223_378 {d : Nat} {x1 x2 x3 : Option Value} {v : Nat} {st : List Value} {h : am_H} : am_ev d 223 378 [some (.ref v), x1, x2, x3] st h = am_ev d 223 379 [some (.ref v), x1, x2, x3] (.ref v :: st) h := x_aload (show am_code 223 378 = some (.aload 0, 1) by decide +kernel) rfl rfl
theorem e_223_379 {d : Nat} {x0 x1 x2 : Option Value} {v : Int32} {st : List Value} {h : am_H} : am_ev d 223 379 [x0, x1, x2, some (.int v)] st h = am_ev d 223 380 [x0, x1, x2, some (.int v)] (.int v :: st) h := x_iload (show am_code 223 379 = some (.iload 3, 1) by decide +kernel) rfl rfl
theorem e_223_380 {d : Nat} {ls : am_L} {st : List Value} {h : am_H} : am_ev d 223 380 ls st h = am_ev d 223 381 ls (.int 1 :: st) h := x_iconst (show am_code 223 380 = some (.iconst 1, 1) by decide +kernel) (by decide +kernel) rfl
theorem e_223_381 {d : Nat} {ls : am_L} {st : List Value} {h : am_H} {x y : Int32} : am_ev d 223 381 ls (.int y :: .int x :: st) h = am_ev d 223 382 ls (.int (x + y) :: st) h := x_iadd (show am_code 223 381 = some (.iadd, 1) by decide +kernel) rfl
theorem e_223_382 {d : Nat} {ls : am_L} {st : List Value} {h : am_H} {a : Nat} {i : Int32} : am_ev d 223 382 ls (.int i :: .ref a :: st) h = am_ak (am_at h a) 0 10 i (fun v => am_ev d 223 383 ls (.int v :: st) h) := x_iald (show am_code 223 382 = some (.iaload, 1) by decide +kernel) rfl
theorem e_223_383 {d : Nat} {ls : am_L} {st : List Value} {h : am_H} {a : Nat} {v0 : Int32} (hw : am_wd st ≤ 8) (hi : am_is (am_at h a) 8 = true) : am_ev (d + 1) 223 383 ls (.int v0 :: .ref a :: st) h = am_bk (d + 1) 223 386 ls st (am_cal (d + 1) 167 [.ref a, .int v0] h) := x_inv (q := mt_167) (show am_code 223 383 = some (.invokevirtual 167, 3) by decide +kernel) (Or.inl ⟨rfl, rfl⟩) mt_167_at rfl rfl rfl hw (Nat.le_of_ble_eq_true rfl) (fun _ => ⟨_, _, rfl, Or.inr hi⟩) rfl
theorem e_223_386 {d : Nat} {ls : am_L} {st : List Value} {h : am_H} {x y : Int32} : am_ev d 223 386 ls (.int y :: .int x :: st) h = if x = y then am_ev d 223 1176 ls st h else am_ev d 223 389 ls st h := x_icmp inferInstance (show am_code 223 386 = some (.if_icmp .eq 1176, 3) by decide +kernel) rfl rfl (xc_eq _ _)
theorem e_223_389 {d : Nat} {ls : am_L} {st : List Value} {h : am_H} : am_ev d 223 389 ls st h = am_ev d 223 390 ls (.int 0 :: st) h := x_iconst (show am_code 223 389 = some (.iconst 0, 1) by decide +kernel) (by decide +kernel) rfl
theorem e_223_390 {d : Nat} {ls : am_L} {h : am_H} {v : Int32} (hb : v &&& 1 = v) : am_ev d 223 390 ls [.int v] h = some (some (.int v), h) := x_ret (q := mt_223) (show am_code 223 390 = some (.ireturn, 1) by decide +kernel) mt_223_at rfl (am_n_bool hb)
theorem e_223_391 {d : Nat} {x0 x2 x3 : Option Value} {v : Nat} {st : List Value} {h : am_H} : am_ev d 223 391 [x0, some (.ref v), x2, x3] st h = am_ev d 223 392 [x0, some (.ref v), x2, x3] (.ref v :: st) h := x_aload (show am_code 223 391 = some (.aload 1, 1) by decide +kernel) rfl rfl
theorem e_223_392 {d : Nat} {x1 x2 x3 : Option Value} {v : Nat} {st : List Value} {h : am_H} : am_ev d 223 392 [some (.ref v), x1, x2, x3] st h = am_ev d 223 393 [some (.ref v), x1, x2, x3] (.ref v :: st) h := x_aload (show am_code 223 392 = some (.aload 0, 1) by decide +kernel) rfl rfl
theorem e_223_393 {d : Nat} {x0 x1 x2 : Option Value} {v : Int32} {st : List Value} {h : am_H} : am_ev d 223 393 [x0, x1, x2, some (.int v)] st h = am_ev d 223 394 [x0, x1, x2, some (.int v)] (.int v :: st) h := x_iload (show am_code 223 393 = some (.iload 3, 1) by decide +kernel) rfl rfl
theorem e_223_394 {d : Nat} {ls : am_L} {st : List Value} {h : am_H} : am_ev d 223 394 ls st h = am_ev d 223 395 ls (.int 1 :: st) h := x_iconst (show am_code 223 394 = some (.iconst 1, 1) by decide +kernel) (by decide +kernel) rfl
theorem e_223_395 {d : Nat} {ls : am_L} {st : List Value} {h : am_H} {x y : Int32} : am_ev d 223 395 ls (.int y :: .int x :: st) h = am_ev d 223 396 ls (.int (x + y) :: st) h := x_iadd (show am_code 223 395 = some (.iadd, 1) by decide +kernel) rfl
theorem e_223_396 {d : Nat} {ls : am_L} {st : List Value} {h : am_H} {a : Nat} {i : Int32} : am_ev d 223 396 ls (.int i :: .ref a :: st) h = am_ak (am_at h a) 0 10 i (fun v => am_ev d 223 397 ls (.int v :: st) h) := x_iald (show am_code 223 396 = some (.iaload, 1) by decide +kernel) rfl
theorem e_223_397 {d : Nat} {ls : am_L} {st : List Value} {h : am_H} {a : Nat} {v0 : Int32} (hw : am_wd st ≤ 8) (hi : am_is (am_at h a) 7 = true) : am_ev (d + 1) 223 397 ls (.int v0 :: .ref a :: st) h = am_bk (d + 1) 223 400 ls st (am_cal (d + 1) 92 [.ref a, .int v0] h) := x_inv (q := mt_92) (show am_code 223 397 = some (.invokevirtual 92, 3) by decide +kernel) (Or.inl ⟨rfl, rfl⟩) mt_92_at rfl rfl rfl hw (Nat.le_of_ble_eq_true rfl) (fun _ => ⟨_, _, rfl, Or.inr hi⟩) rfl
theorem e_223_400 {d : Nat} {x0 x1 x3 : Option Value} {v : Nat} {st : List Value} {h : am_H} : am_ev d 223 400 [x0, x1, some (.ref v), x3] st h = am_ev d 223 401 [x0, x1, some (.ref v), x3] (.ref v :: st) h := x_aload (show am_code 223 400 = some (.aload 2, 1) by decide +kernel) rfl rfl
theorem e_223_401 {d : Nat} {x1 x2 x3 : Option Value} {v : Nat} {st : List Value} {h : am_H} : am_ev d 223 401 [some (.ref v), x1, x2, x3] st h = am_ev d 223 402 [some (.ref v), x1, x2, x3] (.ref v :: st) h := x_aload (show am_code 223 401 = some (.aload 0, 1) by decide +kernel) rfl rfl
theorem e_223_402 {d : Nat} {x0 x1 x2 : Option Value} {v : Int32} {st : List Value} {h : am_H} : am_ev d 223 402 [x0, x1, x2, some (.int v)] st h = am_ev d 223 403 [x0, x1, x2, some (.int v)] (.int v :: st) h := x_iload (show am_code 223 402 = some (.iload 3, 1) by decide +kernel) rfl rfl
theorem e_223_403 {d : Nat} {ls : am_L} {st : List Value} {h : am_H} : am_ev d 223 403 ls st h = am_ev d 223 404 ls (.int 1 :: st) h := x_iconst (show am_code 223 403 = some (.iconst 1, 1) by decide +kernel) (by decide +kernel) rfl
theorem e_223_404 {d : Nat} {ls : am_L} {st : List Value} {h : am_H} {x y : Int32} : am_ev d 223 404 ls (.int y :: .int x :: st) h = am_ev d 223 405 ls (.int (x + y) :: st) h := x_iadd (show am_code 223 404 = some (.iadd, 1) by decide +kernel) rfl
theorem e_223_405 {d : Nat} {ls : am_L} {st : List Value} {h : am_H} {a : Nat} {i : Int32} : am_ev d 223 405 ls (.int i :: .ref a :: st) h = am_ak (am_at h a) 0 10 i (fun v => am_ev d 223 406 ls (.int v :: st) h) := x_iald (show am_code 223 405 = some (.iaload, 1) by decide +kernel) rfl
theorem e_223_406 {d : Nat} {ls : am_L} {st : List Value} {h : am_H} {a : Nat} {v0 : Int32} (hw : am_wd st ≤ 8) (hi : am_is (am_at h a) 8 = true) : am_ev (d + 1) 223 406 ls (.int v0 :: .ref a :: st) h = am_bk (d + 1) 223 409 ls st (am_cal (d + 1) 169 [.ref a, .int v0] h) := x_inv (q := mt_169) (show am_code 223 406 = some (.invokevirtual 169, 3) by decide +kernel) (Or.inl ⟨rfl, rfl⟩) mt_169_at rfl rfl rfl hw (Nat.le_of_ble_eq_true rfl) (fun _ => ⟨_, _, rfl, Or.inr hi⟩) rfl
theorem e_223_409 {d : Nat} {ls : am_L} {st : List Value} {h : am_H} {x y : Int32} : am_ev d 223 409 ls (.int y :: .int x :: st) h = if x = y then am_ev d 223 1176 ls st h else am_ev d 223 412 ls st h := x_icmp inferInstance (show am_code 223 409 = some (.if_icmp .eq 1176, 3) by decide +kernel) rfl rfl (xc_eq _ _)
theorem e_223_412 {d : Nat} {ls : am_L} {st : List Value} {h : am_H} : am_ev d 223 412 ls st h = am_ev d 223 413 ls (.int 0 :: st) h := x_iconst (show am_code 223 412 = some (.iconst 0, 1) by decide +kernel) (by decide +kernel) rfl
theorem e_223_413 {d : Nat} {ls : am_L} {h : am_H} {v : Int32} (hb : v &&& 1 = v) : am_ev d 223 413 ls [.int v] h = some (some (.int v), h) := x_ret (q := mt_223) (show am_code 223 413 = some (.ireturn, 1) by decide +kernel) mt_223_at rfl (am_n_bool hb)
theorem e_223_414 {d : Nat} {x0 x2 x3 : Option Value} {v : Nat} {st : List Value} {h : am_H} : am_ev d 223 414 [x0, some (.ref v), x2, x3] st h = am_ev d 223 415 [x0, some (.ref v), x2, x3] (.ref v :: st) h := x_aload (show am_code 223 414 = some (.aload 1, 1) by decide +kernel) rfl rfl
theorem e_223_415 {d : Nat} {ls : am_L} {st : List Value} {h : am_H} {a : Nat} (hw : am_wd st ≤ 8) (hi : am_is (am_at h a) 7 = true) : am_ev (d + 1) 223 415 ls (.ref a :: st) h = am_bk (d + 1) 223 418 ls st (am_cal (d + 1) 93 [.ref a] h) := x_inv (q := mt_93) (show am_code 223 415 = some (.invokevirtual 93, 3) by decide +kernel) (Or.inl ⟨rfl, rfl⟩) mt_93_at rfl rfl rfl hw (Nat.le_of_ble_eq_true rfl) (fun _ => ⟨_, _, rfl, Or.inr hi⟩) rfl
theorem e_223_418 {d : Nat} {x0 x1 x3 : Option Value} {v : Nat} {st : List Value} {h : am_H} : am_ev d 223 418 [x0, x1, some (.ref v), x3] st h = am_ev d 223 419 [x0, x1, some (.ref v), x3] (.ref v :: st) h := x_aload (show am_code 223 418 = some (.aload 2, 1) by decide +kernel) rfl rfl
theorem e_223_419 {d : Nat} {ls : am_L} {st : List Value} {h : am_H} {a : Nat} (hw : am_wd st ≤ 8) (hi : am_is (am_at h a) 8 = true) : am_ev (d + 1) 223 419 ls (.ref a :: st) h = am_bk (d + 1) 223 422 ls st (am_cal (d + 1) 170 [.ref a] h) := x_inv (q := mt_170) (show am_code 223 419 = some (.invokevirtual 170, 3) by decide +kernel) (Or.inl ⟨rfl, rfl⟩) mt_170_at rfl rfl rfl hw (Nat.le_of_ble_eq_true rfl) (fun _ => ⟨_, _, rfl, Or.inr hi⟩) rfl
theorem e_223_422 {d : Nat} {ls : am_L} {st : List Value} {h : am_H} {x y : Int32} : am_ev d 223 422 ls (.int y :: .int x :: st) h = if x = y then am_ev d 223 1176 ls st h else am_ev d 223 425 ls st h := x_icmp inferInstance (show am_code 223 422 = some (.if_icmp .eq 1176, 3) by decide +kernel) rfl rfl (xc_eq _ _)
theorem e_223_425 {d : Nat} {ls : am_L} {st : List Value} {h : am_H} : am_ev d 223 425 ls st h = am_ev d 223 426 ls (.int 0 :: st) h := x_iconst (show am_code 223 425 = some (.iconst 0, 1) by decide +kernel) (by decide +kernel) rfl
theorem e_223_426 {d : Nat} {ls : am_L} {h : am_H} {v : Int32} (hb : v &&& 1 = v) : am_ev d 223 426 ls [.int v] h = some (some (.int v), h) := x_ret (q := mt_223) (show am_code 223 426 = some (.ireturn, 1) by decide +kernel) mt_223_at rfl (am_n_bool hb)
theorem e_223_427 {d : Nat} {x0 x2 x3 : Option Value} {v : Nat} {st : List Value} {h : am_H} : am_ev d 223 427 [x0, some (.ref v), x2, x3] st h = am_ev d 223 428 [x0, some (.ref v), x2, x3] (.ref v :: st) h := x_aload (show am_code 223 427 = some (.aload 1, 1) by decide +kernel) rfl rfl
theorem e_223_428 {d : Nat} {x1 x2 x3 : Option Value} {v : Nat} {st : List Value} {h : am_H} : am_ev d 223 428 [some (.ref v), x1, x2, x3] st h = am_ev d 223 429 [some (.ref v), x1, x2, x3] (.ref v :: st) h := x_aload (show am_code 223 428 = some (.aload 0, 1) by decide +kernel) rfl rfl
theorem e_223_429 {d : Nat} {x0 x1 x2 : Option Value} {v : Int32} {st : List Value} {h : am_H} : am_ev d 223 429 [x0, x1, x2, some (.int v)] st h = am_ev d 223 430 [x0, x1, x2, some (.int v)] (.int v :: st) h := x_iload (show am_code 223 429 = some (.iload 3, 1) by decide +kernel) rfl rfl
theorem e_223_430 {d : Nat} {ls : am_L} {st : List Value} {h : am_H} : am_ev d 223 430 ls st h = am_ev d 223 431 ls (.int 1 :: st) h := x_iconst (show am_code 223 430 = some (.iconst 1, 1) by decide +kernel) (by decide +kernel) rfl
theorem e_223_431 {d : Nat} {ls : am_L} {st : List Value} {h : am_H} {x y : Int32} : am_ev d 223 431 ls (.int y :: .int x :: st) h = am_ev d 223 432 ls (.int (x + y) :: st) h := x_iadd (show am_code 223 431 = some (.iadd, 1) by decide +kernel) rfl
theorem e_223_432 {d : Nat} {ls : am_L} {st : List Value} {h : am_H} {a : Nat} {i : Int32} : am_ev d 223 432 ls (.int i :: .ref a :: st) h = am_ak (am_at h a) 0 10 i (fun v => am_ev d 223 433 ls (.int v :: st) h) := x_iald (show am_code 223 432 = some (.iaload, 1) by decide +kernel) rfl
theorem e_223_433 {d : Nat} {ls : am_L} {st : List Value} {h : am_H} {a : Nat} {v0 : Int32} (hw : am_wd st ≤ 8) (hi : am_is (am_at h a) 7 = true) : am_ev (d + 1) 223 433 ls (.int v0 :: .ref a :: st) h = am_bk (d + 1) 223 436 ls st (am_cal (d + 1) 94 [.ref a, .int v0] h) := x_inv (q := mt_94) (show am_code 223 433 = some (.invokevirtual 94, 3) by decide +kernel) (Or.inl ⟨rfl, rfl⟩) mt_94_at rfl rfl rfl hw (Nat.le_of_ble_eq_true rfl) (fun _ => ⟨_, _, rfl, Or.inr hi⟩) rfl
theorem e_223_436 {d : Nat} {x0 x1 x3 : Option Value} {v : Nat} {st : List Value} {h : am_H} : am_ev d 223 436 [x0, x1, some (.ref v), x3] st h = am_ev d 223 437 [x0, x1, some (.ref v), x3] (.ref v :: st) h := x_aload (show am_code 223 436 = some (.aload 2, 1) by decide +kernel) rfl rfl
theorem e_223_437 {d : Nat} {x1 x2 x3 : Option Value} {v : Nat} {st : List Value} {h : am_H} : am_ev d 223 437 [some (.ref v), x1, x2, x3] st h = am_ev d 223 438 [some (.ref v), x1, x2, x3] (.ref v :: st) h := x_aload (show am_code 223 437 = some (.aload 0, 1) by decide +kernel) rfl rfl
theorem e_223_438 {d : Nat} {x0 x1 x2 : Option Value} {v : Int32} {st : List Value} {h : am_H} : am_ev d 223 438 [x0, x1, x2, some (.int v)] st h = am_ev d 223 439 [x0, x1, x2, some (.int v)] (.int v :: st) h := x_iload (show am_code 223 438 = some (.iload 3, 1) by decide +kernel) rfl rfl
theorem e_223_439 {d : Nat} {ls : am_L} {st : List Value} {h : am_H} : am_ev d 223 439 ls st h = am_ev d 223 440 ls (.int 1 :: st) h := x_iconst (show am_code 223 439 = some (.iconst 1, 1) by decide +kernel) (by decide +kernel) rfl
theorem e_223_440 {d : Nat} {ls : am_L} {st : List Value} {h : am_H} {x y : Int32} : am_ev d 223 440 ls (.int y :: .int x :: st) h = am_ev d 223 441 ls (.int (x + y) :: st) h := x_iadd (show am_code 223 440 = some (.iadd, 1) by decide +kernel) rfl
theorem e_223_441 {d : Nat} {ls : am_L} {st : List Value} {h : am_H} {a : Nat} {i : Int32} : am_ev d 223 441 ls (.int i :: .ref a :: st) h = am_ak (am_at h a) 0 10 i (fun v => am_ev d 223 442 ls (.int v :: st) h) := x_iald (show am_code 223 441 = some (.iaload, 1) by decide +kernel) rfl
theorem e_223_442 {d : Nat} {ls : am_L} {st : List Value} {h : am_H} {a : Nat} {v0 : Int32} (hw : am_wd st ≤ 8) (hi : am_is (am_at h a) 8 = true) : am_ev (d + 1) 223 442 ls (.int v0 :: .ref a :: st) h = am_bk (d + 1) 223 445 ls st (am_cal (d + 1) 171 [.ref a, .int v0] h) := x_inv (q := mt_171) (show am_code 223 442 = some (.invokevirtual 171, 3) by decide +kernel) (Or.inl ⟨rfl, rfl⟩) mt_171_at rfl rfl rfl hw (Nat.le_of_ble_eq_true rfl) (fun _ => ⟨_, _, rfl, Or.inr hi⟩) rfl
theorem e_223_445 {d : Nat} {ls : am_L} {st : List Value} {h : am_H} {x y : Int32} : am_ev d 223 445 ls (.int y :: .int x :: st) h = if x = y then am_ev d 223 1176 ls st h else am_ev d 223 448 ls st h := x_icmp inferInstance (show am_code 223 445 = some (.if_icmp .eq 1176, 3) by decide +kernel) rfl rfl (xc_eq _ _)
theorem e_223_448 {d : Nat} {ls : am_L} {st : List Value} {h : am_H} : am_ev d 223 448 ls st h = am_ev d 223 449 ls (.int 0 :: st) h := x_iconst (show am_code 223 448 = some (.iconst 0, 1) by decide +kernel) (by decide +kernel) rfl
theorem e_223_449 {d : Nat} {ls : am_L} {h : am_H} {v : Int32} (hb : v &&& 1 = v) : am_ev d 223 449 ls [.int v] h = some (some (.int v), h) := x_ret (q := mt_223) (show am_code 223 449 = some (.ireturn, 1) by decide +kernel) mt_223_at rfl (am_n_bool hb)
theorem e_223_450 {d : Nat} {x0 x2 x3 : Option Value} {v : Nat} {st : List Value} {h : am_H} : am_ev d 223 450 [x0, some (.ref v), x2, x3] st h = am_ev d 223 451 [x0, some (.ref v), x2, x3] (.ref v :: st) h := x_aload (show am_code 223 450 = some (.aload 1, 1) by decide +kernel) rfl rfl
theorem e_223_451 {d : Nat} {x1 x2 x3 : Option Value} {v : Nat} {st : List Value} {h : am_H} : am_ev d 223 451 [some (.ref v), x1, x2, x3] st h = am_ev d 223 452 [some (.ref v), x1, x2, x3] (.ref v :: st) h := x_aload (show am_code 223 451 = some (.aload 0, 1) by decide +kernel) rfl rfl
theorem e_223_452 {d : Nat} {x0 x1 x2 : Option Value} {v : Int32} {st : List Value} {h : am_H} : am_ev d 223 452 [x0, x1, x2, some (.int v)] st h = am_ev d 223 453 [x0, x1, x2, some (.int v)] (.int v :: st) h := x_iload (show am_code 223 452 = some (.iload 3, 1) by decide +kernel) rfl rfl
theorem e_223_453 {d : Nat} {ls : am_L} {st : List Value} {h : am_H} : am_ev d 223 453 ls st h = am_ev d 223 454 ls (.int 1 :: st) h := x_iconst (show am_code 223 453 = some (.iconst 1, 1) by decide +kernel) (by decide +kernel) rfl
theorem e_223_454 {d : Nat} {ls : am_L} {st : List Value} {h : am_H} {x y : Int32} : am_ev d 223 454 ls (.int y :: .int x :: st) h = am_ev d 223 455 ls (.int (x + y) :: st) h := x_iadd (show am_code 223 454 = some (.iadd, 1) by decide +kernel) rfl
theorem e_223_455 {d : Nat} {ls : am_L} {st : List Value} {h : am_H} {a : Nat} {i : Int32} : am_ev d 223 455 ls (.int i :: .ref a :: st) h = am_ak (am_at h a) 0 10 i (fun v => am_ev d 223 456 ls (.int v :: st) h) := x_iald (show am_code 223 455 = some (.iaload, 1) by decide +kernel) rfl
theorem e_223_456 {d : Nat} {ls : am_L} {st : List Value} {h : am_H} {a : Nat} {v0 : Int32} (hw : am_wd st ≤ 8) (hi : am_is (am_at h a) 7 = true) : am_ev (d + 1) 223 456 ls (.int v0 :: .ref a :: st) h = am_bk (d + 1) 223 459 ls st (am_cal (d + 1) 95 [.ref a, .int v0] h) := x_inv (q := mt_95) (show am_code 223 456 = some (.invokevirtual 95, 3) by decide +kernel) (Or.inl ⟨rfl, rfl⟩) mt_95_at rfl rfl rfl hw (Nat.le_of_ble_eq_true rfl) (fun _ => ⟨_, _, rfl, Or.inr hi⟩) rfl
theorem e_223_459 {d : Nat} {x0 x1 x3 : Option Value} {v : Nat} {st : List Value} {h : am_H} : am_ev d 223 459 [x0, x1, some (.ref v), x3] st h = am_ev d 223 460 [x0, x1, some (.ref v), x3] (.ref v :: st) h := x_aload (show am_code 223 459 = some (.aload 2, 1) by decide +kernel) rfl rfl
theorem e_223_460 {d : Nat} {x1 x2 x3 : Option Value} {v : Nat} {st : List Value} {h : am_H} : am_ev d 223 460 [some (.ref v), x1, x2, x3] st h = am_ev d 223 461 [some (.ref v), x1, x2, x3] (.ref v :: st) h := x_aload (show am_code 223 460 = some (.aload 0, 1) by decide +kernel) rfl rfl
theorem e_223_461 {d : Nat} {x0 x1 x2 : Option Value} {v : Int32} {st : List Value} {h : am_H} : am_ev d 223 461 [x0, x1, x2, some (.int v)] st h = am_ev d 223 462 [x0, x1, x2, some (.int v)] (.int v :: st) h := x_iload (show am_code 223 461 = some (.iload 3, 1) by decide +kernel) rfl rfl
theorem e_223_462 {d : Nat} {ls : am_L} {st : List Value} {h : am_H} : am_ev d 223 462 ls st h = am_ev d 223 463 ls (.int 1 :: st) h := x_iconst (show am_code 223 462 = some (.iconst 1, 1) by decide +kernel) (by decide +kernel) rfl
theorem e_223_463 {d : Nat} {ls : am_L} {st : List Value} {h : am_H} {x y : Int32} : am_ev d 223 463 ls (.int y :: .int x :: st) h = am_ev d 223 464 ls (.int (x + y) :: st) h := x_iadd (show am_code 223 463 = some (.iadd, 1) by decide +kernel) rfl
theorem e_223_464 {d : Nat} {ls : am_L} {st : List Value} {h : am_H} {a : Nat} {i : Int32} : am_ev d 223 464 ls (.int i :: .ref a :: st) h = am_ak (am_at h a) 0 10 i (fun v => am_ev d 223 465 ls (.int v :: st) h) := x_iald (show am_code 223 464 = some (.iaload, 1) by decide +kernel) rfl
theorem e_223_465 {d : Nat} {ls : am_L} {st : List Value} {h : am_H} {a : Nat} {v0 : Int32} (hw : am_wd st ≤ 8) (hi : am_is (am_at h a) 8 = true) : am_ev (d + 1) 223 465 ls (.int v0 :: .ref a :: st) h = am_bk (d + 1) 223 468 ls st (am_cal (d + 1) 172 [.ref a, .int v0] h) := x_inv (q := mt_172) (show am_code 223 465 = some (.invokevirtual 172, 3) by decide +kernel) (Or.inl ⟨rfl, rfl⟩) mt_172_at rfl rfl rfl hw (Nat.le_of_ble_eq_true rfl) (fun _ => ⟨_, _, rfl, Or.inr hi⟩) rfl
theorem e_223_468 {d : Nat} {ls : am_L} {st : List Value} {h : am_H} {x y : Int32} : am_ev d 223 468 ls (.int y :: .int x :: st) h = if x = y then am_ev d 223 1176 ls st h else am_ev d 223 471 ls st h := x_icmp inferInstance (show am_code 223 468 = some (.if_icmp .eq 1176, 3) by decide +kernel) rfl rfl (xc_eq _ _)
theorem e_223_471 {d : Nat} {ls : am_L} {st : List Value} {h : am_H} : am_ev d 223 471 ls st h = am_ev d 223 472 ls (.int 0 :: st) h := x_iconst (show am_code 223 471 = some (.iconst 0, 1) by decide +kernel) (by decide +kernel) rfl
theorem e_223_472 {d : Nat} {ls : am_L} {h : am_H} {v : Int32} (hb : v &&& 1 = v) : am_ev d 223 472 ls [.int v] h = some (some (.int v), h) := x_ret (q := mt_223) (show am_code 223 472 = some (.ireturn, 1) by decide +kernel) mt_223_at rfl (am_n_bool hb)
theorem e_223_473 {d : Nat} {x0 x2 x3 : Option Value} {v : Nat} {st : List Value} {h : am_H} : am_ev d 223 473 [x0, some (.ref v), x2, x3] st h = am_ev d 223 474 [x0, some (.ref v), x2, x3] (.ref v :: st) h := x_aload (show am_code 223 473 = some (.aload 1, 1) by decide +kernel) rfl rfl
theorem e_223_474 {d : Nat} {x1 x2 x3 : Option Value} {v : Nat} {st : List Value} {h : am_H} : am_ev d 223 474 [some (.ref v), x1, x2, x3] st h = am_ev d 223 475 [some (.ref v), x1, x2, x3] (.ref v :: st) h := x_aload (show am_code 223 474 = some (.aload 0, 1) by decide +kernel) rfl rfl
theorem e_223_475 {d : Nat} {x0 x1 x2 : Option Value} {v : Int32} {st : List Value} {h : am_H} : am_ev d 223 475 [x0, x1, x2, some (.int v)] st h = am_ev d 223 476 [x0, x1, x2, some (.int v)] (.int v :: st) h := x_iload (show am_code 223 475 = some (.iload 3, 1) by decide +kernel) rfl rfl
theorem e_223_476 {d : Nat} {ls : am_L} {st : List Value} {h : am_H} : am_ev d 223 476 ls st h = am_ev d 223 477 ls (.int 1 :: st) h := x_iconst (show am_code 223 476 = some (.iconst 1, 1) by decide +kernel) (by decide +kernel) rfl
theorem e_223_477 {d : Nat} {ls : am_L} {st : List Value} {h : am_H} {x y : Int32} : am_ev d 223 477 ls (.int y :: .int x :: st) h = am_ev d 223 478 ls (.int (x + y) :: st) h := x_iadd (show am_code 223 477 = some (.iadd, 1) by decide +kernel) rfl
theorem e_223_478 {d : Nat} {ls : am_L} {st : List Value} {h : am_H} {a : Nat} {i : Int32} : am_ev d 223 478 ls (.int i :: .ref a :: st) h = am_ak (am_at h a) 0 10 i (fun v => am_ev d 223 479 ls (.int v :: st) h) := x_iald (show am_code 223 478 = some (.iaload, 1) by decide +kernel) rfl
theorem e_223_479 {d : Nat} {x1 x2 x3 : Option Value} {v : Nat} {st : List Value} {h : am_H} : am_ev d 223 479 [some (.ref v), x1, x2, x3] st h = am_ev d 223 480 [some (.ref v), x1, x2, x3] (.ref v :: st) h := x_aload (show am_code 223 479 = some (.aload 0, 1) by decide +kernel) rfl rfl
theorem e_223_480 {d : Nat} {x0 x1 x2 : Option Value} {v : Int32} {st : List Value} {h : am_H} : am_ev d 223 480 [x0, x1, x2, some (.int v)] st h = am_ev d 223 481 [x0, x1, x2, some (.int v)] (.int v :: st) h := x_iload (show am_code 223 480 = some (.iload 3, 1) by decide +kernel) rfl rfl
theorem e_223_481 {d : Nat} {ls : am_L} {st : List Value} {h : am_H} : am_ev d 223 481 ls st h = am_ev d 223 482 ls (.int 2 :: st) h := x_iconst (show am_code 223 481 = some (.iconst 2, 1) by decide +kernel) (by decide +kernel) rfl
theorem e_223_482 {d : Nat} {ls : am_L} {st : List Value} {h : am_H} {x y : Int32} : am_ev d 223 482 ls (.int y :: .int x :: st) h = am_ev d 223 483 ls (.int (x + y) :: st) h := x_iadd (show am_code 223 482 = some (.iadd, 1) by decide +kernel) rfl
theorem e_223_483 {d : Nat} {ls : am_L} {st : List Value} {h : am_H} {a : Nat} {i : Int32} : am_ev d 223 483 ls (.int i :: .ref a :: st) h = am_ak (am_at h a) 0 10 i (fun v => am_ev d 223 484 ls (.int v :: st) h) := x_iald (show am_code 223 483 = some (.iaload, 1) by decide +kernel) rfl
theorem e_223_484 {d : Nat} {x1 x2 x3 : Option Value} {v : Nat} {st : List Value} {h : am_H} : am_ev d 223 484 [some (.ref v), x1, x2, x3] st h = am_ev d 223 485 [some (.ref v), x1, x2, x3] (.ref v :: st) h := x_aload (show am_code 223 484 = some (.aload 0, 1) by decide +kernel) rfl rfl
theorem e_223_485 {d : Nat} {x0 x1 x2 : Option Value} {v : Int32} {st : List Value} {h : am_H} : am_ev d 223 485 [x0, x1, x2, some (.int v)] st h = am_ev d 223 486 [x0, x1, x2, some (.int v)] (.int v :: st) h := x_iload (show am_code 223 485 = some (.iload 3, 1) by decide +kernel) rfl rfl
theorem e_223_486 {d : Nat} {ls : am_L} {st : List Value} {h : am_H} : am_ev d 223 486 ls st h = am_ev d 223 487 ls (.int 3 :: st) h := x_iconst (show am_code 223 486 = some (.iconst 3, 1) by decide +kernel) (by decide +kernel) rfl
theorem e_223_487 {d : Nat} {ls : am_L} {st : List Value} {h : am_H} {x y : Int32} : am_ev d 223 487 ls (.int y :: .int x :: st) h = am_ev d 223 488 ls (.int (x + y) :: st) h := x_iadd (show am_code 223 487 = some (.iadd, 1) by decide +kernel) rfl
theorem e_223_488 {d : Nat} {ls : am_L} {st : List Value} {h : am_H} {a : Nat} {i : Int32} : am_ev d 223 488 ls (.int i :: .ref a :: st) h = am_ak (am_at h a) 0 10 i (fun v => am_ev d 223 489 ls (.int v :: st) h) := x_iald (show am_code 223 488 = some (.iaload, 1) by decide +kernel) rfl
theorem e_223_489 {d : Nat} {ls : am_L} {st : List Value} {h : am_H} {a : Nat} {v0 : Int32} {v1 : Int32} {v2 : Int32} (hw : am_wd st ≤ 8) (hi : am_is (am_at h a) 7 = true) : am_ev (d + 1) 223 489 ls (.int v2 :: .int v1 :: .int v0 :: .ref a :: st) h = am_bk (d + 1) 223 492 ls st (am_cal (d + 1) 96 [.ref a, .int v0, .int v1, .int v2] h) := x_inv (q := mt_96) (show am_code 223 489 = some (.invokevirtual 96, 3) by decide +kernel) (Or.inl ⟨rfl, rfl⟩) mt_96_at rfl rfl rfl hw (Nat.le_of_ble_eq_true rfl) (fun _ => ⟨_, _, rfl, Or.inr hi⟩) rfl
theorem e_223_492 {d : Nat} {x0 x1 x3 : Option Value} {v : Nat} {st : List Value} {h : am_H} : am_ev d 223 492 [x0, x1, some (.ref v), x3] st h = am_ev d 223 493 [x0, x1, some (.ref v), x3] (.ref v :: st) h := x_aload (show am_code 223 492 = some (.aload 2, 1) by decide +kernel) rfl rfl
theorem e_223_493 {d : Nat} {x1 x2 x3 : Option Value} {v : Nat} {st : List Value} {h : am_H} : am_ev d 223 493 [some (.ref v), x1, x2, x3] st h = am_ev d 223 494 [some (.ref v), x1, x2, x3] (.ref v :: st) h := x_aload (show am_code 223 493 = some (.aload 0, 1) by decide +kernel) rfl rfl
theorem e_223_494 {d : Nat} {x0 x1 x2 : Option Value} {v : Int32} {st : List Value} {h : am_H} : am_ev d 223 494 [x0, x1, x2, some (.int v)] st h = am_ev d 223 495 [x0, x1, x2, some (.int v)] (.int v :: st) h := x_iload (show am_code 223 494 = some (.iload 3, 1) by decide +kernel) rfl rfl
theorem e_223_495 {d : Nat} {ls : am_L} {st : List Value} {h : am_H} : am_ev d 223 495 ls st h = am_ev d 223 496 ls (.int 1 :: st) h := x_iconst (show am_code 223 495 = some (.iconst 1, 1) by decide +kernel) (by decide +kernel) rfl
theorem e_223_496 {d : Nat} {ls : am_L} {st : List Value} {h : am_H} {x y : Int32} : am_ev d 223 496 ls (.int y :: .int x :: st) h = am_ev d 223 497 ls (.int (x + y) :: st) h := x_iadd (show am_code 223 496 = some (.iadd, 1) by decide +kernel) rfl
theorem e_223_497 {d : Nat} {ls : am_L} {st : List Value} {h : am_H} {a : Nat} {i : Int32} : am_ev d 223 497 ls (.int i :: .ref a :: st) h = am_ak (am_at h a) 0 10 i (fun v => am_ev d 223 498 ls (.int v :: st) h) := x_iald (show am_code 223 497 = some (.iaload, 1) by decide +kernel) rfl
theorem e_223_498 {d : Nat} {x1 x2 x3 : Option Value} {v : Nat} {st : List Value} {h : am_H} : am_ev d 223 498 [some (.ref v), x1, x2, x3] st h = am_ev d 223 499 [some (.ref v), x1, x2, x3] (.ref v :: st) h := x_aload (show am_code 223 498 = some (.aload 0, 1) by decide +kernel) rfl rfl
theorem e_223_499 {d : Nat} {x0 x1 x2 : Option Value} {v : Int32} {st : List Value} {h : am_H} : am_ev d 223 499 [x0, x1, x2, some (.int v)] st h = am_ev d 223 500 [x0, x1, x2, some (.int v)] (.int v :: st) h := x_iload (show am_code 223 499 = some (.iload 3, 1) by decide +kernel) rfl rfl
theorem e_223_500 {d : Nat} {ls : am_L} {st : List Value} {h : am_H} : am_ev d 223 500 ls st h = am_ev d 223 501 ls (.int 2 :: st) h := x_iconst (show am_code 223 500 = some (.iconst 2, 1) by decide +kernel) (by decide +kernel) rfl
theorem e_223_501 {d : Nat} {ls : am_L} {st : List Value} {h : am_H} {x y : Int32} : am_ev d 223 501 ls (.int y :: .int x :: st) h = am_ev d 223 502 ls (.int (x + y) :: st) h := x_iadd (show am_code 223 501 = some (.iadd, 1) by decide +kernel) rfl
theorem e_223_502 {d : Nat} {ls : am_L} {st : List Value} {h : am_H} {a : Nat} {i : Int32} : am_ev d 223 502 ls (.int i :: .ref a :: st) h = am_ak (am_at h a) 0 10 i (fun v => am_ev d 223 503 ls (.int v :: st) h) := x_iald (show am_code 223 502 = some (.iaload, 1) by decide +kernel) rfl
theorem e_223_503 {d : Nat} {x1 x2 x3 : Option Value} {v : Nat} {st : List Value} {h : am_H} : am_ev d 223 503 [some (.ref v), x1, x2, x3] st h = am_ev d 223 504 [some (.ref v), x1, x2, x3] (.ref v :: st) h := x_aload (show am_code 223 503 = some (.aload 0, 1) by decide +kernel) rfl rfl
theorem e_223_504 {d : Nat} {x0 x1 x2 : Option Value} {v : Int32} {st : List Value} {h : am_H} : am_ev d 223 504 [x0, x1, x2, some (.int v)] st h = am_ev d 223 505 [x0, x1, x2, some (.int v)] (.int v :: st) h := x_iload (show am_code 223 504 = some (.iload 3, 1) by decide +kernel) rfl rfl
theorem e_223_505 {d : Nat} {ls : am_L} {st : List Value} {h : am_H} : am_ev d 223 505 ls st h = am_ev d 223 506 ls (.int 3 :: st) h := x_iconst (show am_code 223 505 = some (.iconst 3, 1) by decide +kernel) (by decide +kernel) rfl
theorem e_223_506 {d : Nat} {ls : am_L} {st : List Value} {h : am_H} {x y : Int32} : am_ev d 223 506 ls (.int y :: .int x :: st) h = am_ev d 223 507 ls (.int (x + y) :: st) h := x_iadd (show am_code 223 506 = some (.iadd, 1) by decide +kernel) rfl
theorem e_223_507 {d : Nat} {ls : am_L} {st : List Value} {h : am_H} {a : Nat} {i : Int32} : am_ev d 223 507 ls (.int i :: .ref a :: st) h = am_ak (am_at h a) 0 10 i (fun v => am_ev d 223 508 ls (.int v :: st) h) := x_iald (show am_code 223 507 = some (.iaload, 1) by decide +kernel) rfl
theorem e_223_508 {d : Nat} {ls : am_L} {st : List Value} {h : am_H} {a : Nat} {v0 : Int32} {v1 : Int32} {v2 : Int32} (hw : am_wd st ≤ 8) (hi : am_is (am_at h a) 8 = true) : am_ev (d + 1) 223 508 ls (.int v2 :: .int v1 :: .int v0 :: .ref a :: st) h = am_bk (d + 1) 223 511 ls st (am_cal (d + 1) 174 [.ref a, .int v0, .int v1, .int v2] h) := x_inv (q := mt_174) (show am_code 223 508 = some (.invokevirtual 174, 3) by decide +kernel) (Or.inl ⟨rfl, rfl⟩) mt_174_at rfl rfl rfl hw (Nat.le_of_ble_eq_true rfl) (fun _ => ⟨_, _, rfl, Or.inr hi⟩) rfl
theorem e_223_511 {d : Nat} {ls : am_L} {st : List Value} {h : am_H} {x y : Int32} : am_ev d 223 511 ls (.int y :: .int x :: st) h = if x = y then am_ev d 223 1176 ls st h else am_ev d 223 514 ls st h := x_icmp inferInstance (show am_code 223 511 = some (.if_icmp .eq 1176, 3) by decide +kernel) rfl rfl (xc_eq _ _)
theorem e_223_514 {d : Nat} {ls : am_L} {st : List Value} {h : am_H} : am_ev d 223 514 ls st h = am_ev d 223 515 ls (.int 0 :: st) h := x_iconst (show am_code 223 514 = some (.iconst 0, 1) by decide +kernel) (by decide +kernel) rfl
theorem e_223_515 {d : Nat} {ls : am_L} {h : am_H} {v : Int32} (hb : v &&& 1 = v) : am_ev d 223 515 ls [.int v] h = some (some (.int v), h) := x_ret (q := mt_223) (show am_code 223 515 = some (.ireturn, 1) by decide +kernel) mt_223_at rfl (am_n_bool hb)
theorem e_223_516 {d : Nat} {x0 x2 x3 : Option Value} {v : Nat} {st : List Value} {h : am_H} : am_ev d 223 516 [x0, some (.ref v), x2, x3] st h = am_ev d 223 517 [x0, some (.ref v), x2, x3] (.ref v :: st) h := x_aload (show am_code 223 516 = some (.aload 1, 1) by decide +kernel) rfl rfl
theorem e_223_517 {d : Nat} {x1 x2 x3 : Option Value} {v : Nat} {st : List Value} {h : am_H} : am_ev d 223 517 [some (.ref v), x1, x2, x3] st h = am_ev d 223 518 [some (.ref v), x1, x2, x3] (.ref v :: st) h := x_aload (show am_code 223 517 = some (.aload 0, 1) by decide +kernel) rfl rfl
theorem e_223_518 {d : Nat} {x0 x1 x2 : Option Value} {v : Int32} {st : List Value} {h : am_H} : am_ev d 223 518 [x0, x1, x2, some (.int v)] st h = am_ev d 223 519 [x0, x1, x2, some (.int v)] (.int v :: st) h := x_iload (show am_code 223 518 = some (.iload 3, 1) by decide +kernel) rfl rfl
theorem e_223_519 {d : Nat} {ls : am_L} {st : List Value} {h : am_H} : am_ev d 223 519 ls st h = am_ev d 223 520 ls (.int 1 :: st) h := x_iconst (show am_code 223 519 = some (.iconst 1, 1) by decide +kernel) (by decide +kernel) rfl
theorem e_223_520 {d : Nat} {ls : am_L} {st : List Value} {h : am_H} {x y : Int32} : am_ev d 223 520 ls (.int y :: .int x :: st) h = am_ev d 223 521 ls (.int (x + y) :: st) h := x_iadd (show am_code 223 520 = some (.iadd, 1) by decide +kernel) rfl
theorem e_223_521 {d : Nat} {ls : am_L} {st : List Value} {h : am_H} {a : Nat} {i : Int32} : am_ev d 223 521 ls (.int i :: .ref a :: st) h = am_ak (am_at h a) 0 10 i (fun v => am_ev d 223 522 ls (.int v :: st) h) := x_iald (show am_code 223 521 = some (.iaload, 1) by decide +kernel) rfl
theorem e_223_522 {d : Nat} {ls : am_L} {st : List Value} {h : am_H} {a : Nat} {v0 : Int32} (hw : am_wd st ≤ 8) (hi : am_is (am_at h a) 7 = true) : am_ev (d + 1) 223 522 ls (.int v0 :: .ref a :: st) h = am_bk (d + 1) 223 525 ls st (am_cal (d + 1) 97 [.ref a, .int v0] h) := x_inv (q := mt_97) (show am_code 223 522 = some (.invokevirtual 97, 3) by decide +kernel) (Or.inl ⟨rfl, rfl⟩) mt_97_at rfl rfl rfl hw (Nat.le_of_ble_eq_true rfl) (fun _ => ⟨_, _, rfl, Or.inr hi⟩) rfl
theorem e_223_525 {d : Nat} {x0 x1 x3 : Option Value} {v : Nat} {st : List Value} {h : am_H} : am_ev d 223 525 [x0, x1, some (.ref v), x3] st h = am_ev d 223 526 [x0, x1, some (.ref v), x3] (.ref v :: st) h := x_aload (show am_code 223 525 = some (.aload 2, 1) by decide +kernel) rfl rfl
theorem e_223_526 {d : Nat} {x1 x2 x3 : Option Value} {v : Nat} {st : List Value} {h : am_H} : am_ev d 223 526 [some (.ref v), x1, x2, x3] st h = am_ev d 223 527 [some (.ref v), x1, x2, x3] (.ref v :: st) h := x_aload (show am_code 223 526 = some (.aload 0, 1) by decide +kernel) rfl rfl
theorem e_223_527 {d : Nat} {x0 x1 x2 : Option Value} {v : Int32} {st : List Value} {h : am_H} : am_ev d 223 527 [x0, x1, x2, some (.int v)] st h = am_ev d 223 528 [x0, x1, x2, some (.int v)] (.int v :: st) h := x_iload (show am_code 223 527 = some (.iload 3, 1) by decide +kernel) rfl rfl
theorem e_223_528 {d : Nat} {ls : am_L} {st : List Value} {h : am_H} : am_ev d 223 528 ls st h = am_ev d 223 529 ls (.int 1 :: st) h := x_iconst (show am_code 223 528 = some (.iconst 1, 1) by decide +kernel) (by decide +kernel) rfl
theorem e_223_529 {d : Nat} {ls : am_L} {st : List Value} {h : am_H} {x y : Int32} : am_ev d 223 529 ls (.int y :: .int x :: st) h = am_ev d 223 530 ls (.int (x + y) :: st) h := x_iadd (show am_code 223 529 = some (.iadd, 1) by decide +kernel) rfl
theorem e_223_530 {d : Nat} {ls : am_L} {st : List Value} {h : am_H} {a : Nat} {i : Int32} : am_ev d 223 530 ls (.int i :: .ref a :: st) h = am_ak (am_at h a) 0 10 i (fun v => am_ev d 223 531 ls (.int v :: st) h) := x_iald (show am_code 223 530 = some (.iaload, 1) by decide +kernel) rfl
theorem e_223_531 {d : Nat} {ls : am_L} {st : List Value} {h : am_H} {a : Nat} {v0 : Int32} (hw : am_wd st ≤ 8) (hi : am_is (am_at h a) 8 = true) : am_ev (d + 1) 223 531 ls (.int v0 :: .ref a :: st) h = am_bk (d + 1) 223 534 ls st (am_cal (d + 1) 177 [.ref a, .int v0] h) := x_inv (q := mt_177) (show am_code 223 531 = some (.invokevirtual 177, 3) by decide +kernel) (Or.inl ⟨rfl, rfl⟩) mt_177_at rfl rfl rfl hw (Nat.le_of_ble_eq_true rfl) (fun _ => ⟨_, _, rfl, Or.inr hi⟩) rfl
theorem e_223_534 {d : Nat} {ls : am_L} {st : List Value} {h : am_H} {x y : Int32} : am_ev d 223 534 ls (.int y :: .int x :: st) h = if x = y then am_ev d 223 1176 ls st h else am_ev d 223 537 ls st h := x_icmp inferInstance (show am_code 223 534 = some (.if_icmp .eq 1176, 3) by decide +kernel) rfl rfl (xc_eq _ _)
theorem e_223_537 {d : Nat} {ls : am_L} {st : List Value} {h : am_H} : am_ev d 223 537 ls st h = am_ev d 223 538 ls (.int 0 :: st) h := x_iconst (show am_code 223 537 = some (.iconst 0, 1) by decide +kernel) (by decide +kernel) rfl
theorem e_223_538 {d : Nat} {ls : am_L} {h : am_H} {v : Int32} (hb : v &&& 1 = v) : am_ev d 223 538 ls [.int v] h = some (some (.int v), h) := x_ret (q := mt_223) (show am_code 223 538 = some (.ireturn, 1) by decide +kernel) mt_223_at rfl (am_n_bool hb)
theorem e_223_539 {d : Nat} {x0 x2 x3 : Option Value} {v : Nat} {st : List Value} {h : am_H} : am_ev d 223 539 [x0, some (.ref v), x2, x3] st h = am_ev d 223 540 [x0, some (.ref v), x2, x3] (.ref v :: st) h := x_aload (show am_code 223 539 = some (.aload 1, 1) by decide +kernel) rfl rfl
theorem e_223_540 {d : Nat} {ls : am_L} {st : List Value} {h : am_H} {a : Nat} (hw : am_wd st ≤ 8) (hi : am_is (am_at h a) 7 = true) : am_ev (d + 1) 223 540 ls (.ref a :: st) h = am_bk (d + 1) 223 543 ls st (am_cal (d + 1) 98 [.ref a] h) := x_inv (q := mt_98) (show am_code 223 540 = some (.invokevirtual 98, 3) by decide +kernel) (Or.inl ⟨rfl, rfl⟩) mt_98_at rfl rfl rfl hw (Nat.le_of_ble_eq_true rfl) (fun _ => ⟨_, _, rfl, Or.inr hi⟩) rfl
theorem e_223_543 {d : Nat} {x0 x1 x3 : Option Value} {v : Nat} {st : List Value} {h : am_H} : am_ev d 223 543 [x0, x1, some (.ref v), x3] st h = am_ev d 223 544 [x0, x1, some (.ref v), x3] (.ref v :: st) h := x_aload (show am_code 223 543 = some (.aload 2, 1) by decide +kernel) rfl rfl
theorem e_223_544 {d : Nat} {ls : am_L} {st : List Value} {h : am_H} {a : Nat} (hw : am_wd st ≤ 8) (hi : am_is (am_at h a) 8 = true) : am_ev (d + 1) 223 544 ls (.ref a :: st) h = am_bk (d + 1) 223 547 ls st (am_cal (d + 1) 178 [.ref a] h) := x_inv (q := mt_178) (show am_code 223 544 = some (.invokevirtual 178, 3) by decide +kernel) (Or.inl ⟨rfl, rfl⟩) mt_178_at rfl rfl rfl hw (Nat.le_of_ble_eq_true rfl) (fun _ => ⟨_, _, rfl, Or.inr hi⟩) rfl
theorem e_223_547 {d : Nat} {ls : am_L} {st : List Value} {h : am_H} {x y : Int32} : am_ev d 223 547 ls (.int y :: .int x :: st) h = if x = y then am_ev d 223 1176 ls st h else am_ev d 223 550 ls st h := x_icmp inferInstance (show am_code 223 547 = some (.if_icmp .eq 1176, 3) by decide +kernel) rfl rfl (xc_eq _ _)
theorem e_223_550 {d : Nat} {ls : am_L} {st : List Value} {h : am_H} : am_ev d 223 550 ls st h = am_ev d 223 551 ls (.int 0 :: st) h := x_iconst (show am_code 223 550 = some (.iconst 0, 1) by decide +kernel) (by decide +kernel) rfl
theorem e_223_551 {d : Nat} {ls : am_L} {h : am_H} {v : Int32} (hb : v &&& 1 = v) : am_ev d 223 551 ls [.int v] h = some (some (.int v), h) := x_ret (q := mt_223) (show am_code 223 551 = some (.ireturn, 1) by decide +kernel) mt_223_at rfl (am_n_bool hb)
theorem e_223_552 {d : Nat} {x0 x2 x3 : Option Value} {v : Nat} {st : List Value} {h : am_H} : am_ev d 223 552 [x0, some (.ref v), x2, x3] st h = am_ev d 223 553 [x0, some (.ref v), x2, x3] (.ref v :: st) h := x_aload (show am_code 223 552 = some (.aload 1, 1) by decide +kernel) rfl rfl
theorem e_223_553 {d : Nat} {x1 x2 x3 : Option Value} {v : Nat} {st : List Value} {h : am_H} : am_ev d 223 553 [some (.ref v), x1, x2, x3] st h = am_ev d 223 554 [some (.ref v), x1, x2, x3] (.ref v :: st) h := x_aload (show am_code 223 553 = some (.aload 0, 1) by decide +kernel) rfl rfl
theorem e_223_554 {d : Nat} {x0 x1 x2 : Option Value} {v : Int32} {st : List Value} {h : am_H} : am_ev d 223 554 [x0, x1, x2, some (.int v)] st h = am_ev d 223 555 [x0, x1, x2, some (.int v)] (.int v :: st) h := x_iload (show am_code 223 554 = some (.iload 3, 1) by decide +kernel) rfl rfl
theorem e_223_555 {d : Nat} {ls : am_L} {st : List Value} {h : am_H} : am_ev d 223 555 ls st h = am_ev d 223 556 ls (.int 1 :: st) h := x_iconst (show am_code 223 555 = some (.iconst 1, 1) by decide +kernel) (by decide +kernel) rfl
theorem e_223_556 {d : Nat} {ls : am_L} {st : List Value} {h : am_H} {x y : Int32} : am_ev d 223 556 ls (.int y :: .int x :: st) h = am_ev d 223 557 ls (.int (x + y) :: st) h := x_iadd (show am_code 223 556 = some (.iadd, 1) by decide +kernel) rfl
theorem e_223_557 {d : Nat} {ls : am_L} {st : List Value} {h : am_H} {a : Nat} {i : Int32} : am_ev d 223 557 ls (.int i :: .ref a :: st) h = am_ak (am_at h a) 0 10 i (fun v => am_ev d 223 558 ls (.int v :: st) h) := x_iald (show am_code 223 557 = some (.iaload, 1) by decide +kernel) rfl
theorem e_223_558 {d : Nat} {x1 x2 x3 : Option Value} {v : Nat} {st : List Value} {h : am_H} : am_ev d 223 558 [some (.ref v), x1, x2, x3] st h = am_ev d 223 559 [some (.ref v), x1, x2, x3] (.ref v :: st) h := x_aload (show am_code 223 558 = some (.aload 0, 1) by decide +kernel) rfl rfl
theorem e_223_559 {d : Nat} {x0 x1 x2 : Option Value} {v : Int32} {st : List Value} {h : am_H} : am_ev d 223 559 [x0, x1, x2, some (.int v)] st h = am_ev d 223 560 [x0, x1, x2, some (.int v)] (.int v :: st) h := x_iload (show am_code 223 559 = some (.iload 3, 1) by decide +kernel) rfl rfl
theorem e_223_560 {d : Nat} {ls : am_L} {st : List Value} {h : am_H} : am_ev d 223 560 ls st h = am_ev d 223 561 ls (.int 2 :: st) h := x_iconst (show am_code 223 560 = some (.iconst 2, 1) by decide +kernel) (by decide +kernel) rfl
theorem e_223_561 {d : Nat} {ls : am_L} {st : List Value} {h : am_H} {x y : Int32} : am_ev d 223 561 ls (.int y :: .int x :: st) h = am_ev d 223 562 ls (.int (x + y) :: st) h := x_iadd (show am_code 223 561 = some (.iadd, 1) by decide +kernel) rfl
theorem e_223_562 {d : Nat} {ls : am_L} {st : List Value} {h : am_H} {a : Nat} {i : Int32} : am_ev d 223 562 ls (.int i :: .ref a :: st) h = am_ak (am_at h a) 0 10 i (fun v => am_ev d 223 563 ls (.int v :: st) h) := x_iald (show am_code 223 562 = some (.iaload, 1) by decide +kernel) rfl
theorem e_223_563 {d : Nat} {ls : am_L} {st : List Value} {h : am_H} {a : Nat} {v0 : Int32} {v1 : Int32} (hw : am_wd st ≤ 8) (hi : am_is (am_at h a) 7 = true) : am_ev (d + 1) 223 563 ls (.int v1 :: .int v0 :: .ref a :: st) h = am_bk (d + 1) 223 566 ls st (am_cal (d + 1) 99 [.ref a, .int v0, .int v1] h) := x_inv (q := mt_99) (show am_code 223 563 = some (.invokevirtual 99, 3) by decide +kernel) (Or.inl ⟨rfl, rfl⟩) mt_99_at rfl rfl rfl hw (Nat.le_of_ble_eq_true rfl) (fun _ => ⟨_, _, rfl, Or.inr hi⟩) rfl
theorem e_223_566 {d : Nat} {x0 x1 x3 : Option Value} {v : Nat} {st : List Value} {h : am_H} : am_ev d 223 566 [x0, x1, some (.ref v), x3] st h = am_ev d 223 567 [x0, x1, some (.ref v), x3] (.ref v :: st) h := x_aload (show am_code 223 566 = some (.aload 2, 1) by decide +kernel) rfl rfl
theorem e_223_567 {d : Nat} {x1 x2 x3 : Option Value} {v : Nat} {st : List Value} {h : am_H} : am_ev d 223 567 [some (.ref v), x1, x2, x3] st h = am_ev d 223 568 [some (.ref v), x1, x2, x3] (.ref v :: st) h := x_aload (show am_code 223 567 = some (.aload 0, 1) by decide +kernel) rfl rfl
theorem e_223_568 {d : Nat} {x0 x1 x2 : Option Value} {v : Int32} {st : List Value} {h : am_H} : am_ev d 223 568 [x0, x1, x2, some (.int v)] st h = am_ev d 223 569 [x0, x1, x2, some (.int v)] (.int v :: st) h := x_iload (show am_code 223 568 = some (.iload 3, 1) by decide +kernel) rfl rfl
theorem e_223_569 {d : Nat} {ls : am_L} {st : List Value} {h : am_H} : am_ev d 223 569 ls st h = am_ev d 223 570 ls (.int 1 :: st) h := x_iconst (show am_code 223 569 = some (.iconst 1, 1) by decide +kernel) (by decide +kernel) rfl
theorem e_223_570 {d : Nat} {ls : am_L} {st : List Value} {h : am_H} {x y : Int32} : am_ev d 223 570 ls (.int y :: .int x :: st) h = am_ev d 223 571 ls (.int (x + y) :: st) h := x_iadd (show am_code 223 570 = some (.iadd, 1) by decide +kernel) rfl
theorem e_223_571 {d : Nat} {ls : am_L} {st : List Value} {h : am_H} {a : Nat} {i : Int32} : am_ev d 223 571 ls (.int i :: .ref a :: st) h = am_ak (am_at h a) 0 10 i (fun v => am_ev d 223 572 ls (.int v :: st) h) := x_iald (show am_code 223 571 = some (.iaload, 1) by decide +kernel) rfl
theorem e_223_572 {d : Nat} {x1 x2 x3 : Option Value} {v : Nat} {st : List Value} {h : am_H} : am_ev d 223 572 [some (.ref v), x1, x2, x3] st h = am_ev d 223 573 [some (.ref v), x1, x2, x3] (.ref v :: st) h := x_aload (show am_code 223 572 = some (.aload 0, 1) by decide +kernel) rfl rfl
theorem e_223_573 {d : Nat} {x0 x1 x2 : Option Value} {v : Int32} {st : List Value} {h : am_H} : am_ev d 223 573 [x0, x1, x2, some (.int v)] st h = am_ev d 223 574 [x0, x1, x2, some (.int v)] (.int v :: st) h := x_iload (show am_code 223 573 = some (.iload 3, 1) by decide +kernel) rfl rfl
theorem e_223_574 {d : Nat} {ls : am_L} {st : List Value} {h : am_H} : am_ev d 223 574 ls st h = am_ev d 223 575 ls (.int 2 :: st) h := x_iconst (show am_code 223 574 = some (.iconst 2, 1) by decide +kernel) (by decide +kernel) rfl
theorem e_223_575 {d : Nat} {ls : am_L} {st : List Value} {h : am_H} {x y : Int32} : am_ev d 223 575 ls (.int y :: .int x :: st) h = am_ev d 223 576 ls (.int (x + y) :: st) h := x_iadd (show am_code 223 575 = some (.iadd, 1) by decide +kernel) rfl
theorem e_223_576 {d : Nat} {ls : am_L} {st : List Value} {h : am_H} {a : Nat} {i : Int32} : am_ev d 223 576 ls (.int i :: .ref a :: st) h = am_ak (am_at h a) 0 10 i (fun v => am_ev d 223 577 ls (.int v :: st) h) := x_iald (show am_code 223 576 = some (.iaload, 1) by decide +kernel) rfl
theorem e_223_577 {d : Nat} {ls : am_L} {st : List Value} {h : am_H} {a : Nat} {v0 : Int32} {v1 : Int32} (hw : am_wd st ≤ 8) (hi : am_is (am_at h a) 8 = true) : am_ev (d + 1) 223 577 ls (.int v1 :: .int v0 :: .ref a :: st) h = am_bk (d + 1) 223 580 ls st (am_cal (d + 1) 179 [.ref a, .int v0, .int v1] h) := x_inv (q := mt_179) (show am_code 223 577 = some (.invokevirtual 179, 3) by decide +kernel) (Or.inl ⟨rfl, rfl⟩) mt_179_at rfl rfl rfl hw (Nat.le_of_ble_eq_true rfl) (fun _ => ⟨_, _, rfl, Or.inr hi⟩) rfl
theorem e_223_580 {d : Nat} {ls : am_L} {st : List Value} {h : am_H} {x y : Int32} : am_ev d 223 580 ls (.int y :: .int x :: st) h = if x = y then am_ev d 223 1176 ls st h else am_ev d 223 583 ls st h := x_icmp inferInstance (show am_code 223 580 = some (.if_icmp .eq 1176, 3) by decide +kernel) rfl rfl (xc_eq _ _)
theorem e_223_583 {d : Nat} {ls : am_L} {st : List Value} {h : am_H} : am_ev d 223 583 ls st h = am_ev d 223 584 ls (.int 0 :: st) h := x_iconst (show am_code 223 583 = some (.iconst 0, 1) by decide +kernel) (by decide +kernel) rfl
theorem e_223_584 {d : Nat} {ls : am_L} {h : am_H} {v : Int32} (hb : v &&& 1 = v) : am_ev d 223 584 ls [.int v] h = some (some (.int v), h) := x_ret (q := mt_223) (show am_code 223 584 = some (.ireturn, 1) by decide +kernel) mt_223_at rfl (am_n_bool hb)
theorem e_223_585 {d : Nat} {x0 x2 x3 : Option Value} {v : Nat} {st : List Value} {h : am_H} : am_ev d 223 585 [x0, some (.ref v), x2, x3] st h = am_ev d 223 586 [x0, some (.ref v), x2, x3] (.ref v :: st) h := x_aload (show am_code 223 585 = some (.aload 1, 1) by decide +kernel) rfl rfl
theorem e_223_586 {d : Nat} {x1 x2 x3 : Option Value} {v : Nat} {st : List Value} {h : am_H} : am_ev d 223 586 [some (.ref v), x1, x2, x3] st h = am_ev d 223 587 [some (.ref v), x1, x2, x3] (.ref v :: st) h := x_aload (show am_code 223 586 = some (.aload 0, 1) by decide +kernel) rfl rfl
theorem e_223_587 {d : Nat} {x0 x1 x2 : Option Value} {v : Int32} {st : List Value} {h : am_H} : am_ev d 223 587 [x0, x1, x2, some (.int v)] st h = am_ev d 223 588 [x0, x1, x2, some (.int v)] (.int v :: st) h := x_iload (show am_code 223 587 = some (.iload 3, 1) by decide +kernel) rfl rfl
theorem e_223_588 {d : Nat} {ls : am_L} {st : List Value} {h : am_H} : am_ev d 223 588 ls st h = am_ev d 223 589 ls (.int 1 :: st) h := x_iconst (show am_code 223 588 = some (.iconst 1, 1) by decide +kernel) (by decide +kernel) rfl
theorem e_223_589 {d : Nat} {ls : am_L} {st : List Value} {h : am_H} {x y : Int32} : am_ev d 223 589 ls (.int y :: .int x :: st) h = am_ev d 223 590 ls (.int (x + y) :: st) h := x_iadd (show am_code 223 589 = some (.iadd, 1) by decide +kernel) rfl
theorem e_223_590 {d : Nat} {ls : am_L} {st : List Value} {h : am_H} {a : Nat} {i : Int32} : am_ev d 223 590 ls (.int i :: .ref a :: st) h = am_ak (am_at h a) 0 10 i (fun v => am_ev d 223 591 ls (.int v :: st) h) := x_iald (show am_code 223 590 = some (.iaload, 1) by decide +kernel) rfl
theorem e_223_591 {d : Nat} {ls : am_L} {st : List Value} {h : am_H} {a : Nat} {v0 : Int32} (hw : am_wd st ≤ 8) (hi : am_is (am_at h a) 7 = true) : am_ev (d + 1) 223 591 ls (.int v0 :: .ref a :: st) h = am_bk (d + 1) 223 594 ls st (am_cal (d + 1) 100 [.ref a, .int v0] h) := x_inv (q := mt_100) (show am_code 223 591 = some (.invokevirtual 100, 3) by decide +kernel) (Or.inl ⟨rfl, rfl⟩) mt_100_at rfl rfl rfl hw (Nat.le_of_ble_eq_true rfl) (fun _ => ⟨_, _, rfl, Or.inr hi⟩) rfl
theorem e_223_594 {d : Nat} {x0 x1 x3 : Option Value} {v : Nat} {st : List Value} {h : am_H} : am_ev d 223 594 [x0, x1, some (.ref v), x3] st h = am_ev d 223 595 [x0, x1, some (.ref v), x3] (.ref v :: st) h := x_aload (show am_code 223 594 = some (.aload 2, 1) by decide +kernel) rfl rfl
theorem e_223_595 {d : Nat} {x1 x2 x3 : Option Value} {v : Nat} {st : List Value} {h : am_H} : am_ev d 223 595 [some (.ref v), x1, x2, x3] st h = am_ev d 223 596 [some (.ref v), x1, x2, x3] (.ref v :: st) h := x_aload (show am_code 223 595 = some (.aload 0, 1) by decide +kernel) rfl rfl
theorem e_223_596 {d : Nat} {x0 x1 x2 : Option Value} {v : Int32} {st : List Value} {h : am_H} : am_ev d 223 596 [x0, x1, x2, some (.int v)] st h = am_ev d 223 597 [x0, x1, x2, some (.int v)] (.int v :: st) h := x_iload (show am_code 223 596 = some (.iload 3, 1) by decide +kernel) rfl rfl
theorem e_223_597 {d : Nat} {ls : am_L} {st : List Value} {h : am_H} : am_ev d 223 597 ls st h = am_ev d 223 598 ls (.int 1 :: st) h := x_iconst (show am_code 223 597 = some (.iconst 1, 1) by decide +kernel) (by decide +kernel) rfl
theorem e_223_598 {d : Nat} {ls : am_L} {st : List Value} {h : am_H} {x y : Int32} : am_ev d 223 598 ls (.int y :: .int x :: st) h = am_ev d 223 599 ls (.int (x + y) :: st) h := x_iadd (show am_code 223 598 = some (.iadd, 1) by decide +kernel) rfl
theorem e_223_599 {d : Nat} {ls : am_L} {st : List Value} {h : am_H} {a : Nat} {i : Int32} : am_ev d 223 599 ls (.int i :: .ref a :: st) h = am_ak (am_at h a) 0 10 i (fun v => am_ev d 223 600 ls (.int v :: st) h) := x_iald (show am_code 223 599 = some (.iaload, 1) by decide +kernel) rfl
theorem e_223_600 {d : Nat} {ls : am_L} {st : List Value} {h : am_H} {a : Nat} {v0 : Int32} (hw : am_wd st ≤ 8) (hi : am_is (am_at h a) 8 = true) : am_ev (d + 1) 223 600 ls (.int v0 :: .ref a :: st) h = am_bk (d + 1) 223 603 ls st (am_cal (d + 1) 180 [.ref a, .int v0] h) := x_inv (q := mt_180) (show am_code 223 600 = some (.invokevirtual 180, 3) by decide +kernel) (Or.inl ⟨rfl, rfl⟩) mt_180_at rfl rfl rfl hw (Nat.le_of_ble_eq_true rfl) (fun _ => ⟨_, _, rfl, Or.inr hi⟩) rfl
theorem e_223_603 {d : Nat} {ls : am_L} {st : List Value} {h : am_H} {x y : Int32} : am_ev d 223 603 ls (.int y :: .int x :: st) h = if x = y then am_ev d 223 1176 ls st h else am_ev d 223 606 ls st h := x_icmp inferInstance (show am_code 223 603 = some (.if_icmp .eq 1176, 3) by decide +kernel) rfl rfl (xc_eq _ _)
theorem e_223_606 {d : Nat} {ls : am_L} {st : List Value} {h : am_H} : am_ev d 223 606 ls st h = am_ev d 223 607 ls (.int 0 :: st) h := x_iconst (show am_code 223 606 = some (.iconst 0, 1) by decide +kernel) (by decide +kernel) rfl
theorem e_223_607 {d : Nat} {ls : am_L} {h : am_H} {v : Int32} (hb : v &&& 1 = v) : am_ev d 223 607 ls [.int v] h = some (some (.int v), h) := x_ret (q := mt_223) (show am_code 223 607 = some (.ireturn, 1) by decide +kernel) mt_223_at rfl (am_n_bool hb)
theorem e_223_608 {d : Nat} {x0 x2 x3 : Option Value} {v : Nat} {st : List Value} {h : am_H} : am_ev d 223 608 [x0, some (.ref v), x2, x3] st h = am_ev d 223 609 [x0, some (.ref v), x2, x3] (.ref v :: st) h := x_aload (show am_code 223 608 = some (.aload 1, 1) by decide +kernel) rfl rfl
theorem e_223_609 {d : Nat} {x1 x2 x3 : Option Value} {v : Nat} {st : List Value} {h : am_H} : am_ev d 223 609 [some (.ref v), x1, x2, x3] st h = am_ev d 223 610 [some (.ref v), x1, x2, x3] (.ref v :: st) h := x_aload (show am_code 223 609 = some (.aload 0, 1) by decide +kernel) rfl rfl
theorem e_223_610 {d : Nat} {x0 x1 x2 : Option Value} {v : Int32} {st : List Value} {h : am_H} : am_ev d 223 610 [x0, x1, x2, some (.int v)] st h = am_ev d 223 611 [x0, x1, x2, some (.int v)] (.int v :: st) h := x_iload (show am_code 223 610 = some (.iload 3, 1) by decide +kernel) rfl rfl
theorem e_223_611 {d : Nat} {ls : am_L} {st : List Value} {h : am_H} : am_ev d 223 611 ls st h = am_ev d 223 612 ls (.int 1 :: st) h := x_iconst (show am_code 223 611 = some (.iconst 1, 1) by decide +kernel) (by decide +kernel) rfl
theorem e_223_612 {d : Nat} {ls : am_L} {st : List Value} {h : am_H} {x y : Int32} : am_ev d 223 612 ls (.int y :: .int x :: st) h = am_ev d 223 613 ls (.int (x + y) :: st) h := x_iadd (show am_code 223 612 = some (.iadd, 1) by decide +kernel) rfl
theorem e_223_613 {d : Nat} {ls : am_L} {st : List Value} {h : am_H} {a : Nat} {i : Int32} : am_ev d 223 613 ls (.int i :: .ref a :: st) h = am_ak (am_at h a) 0 10 i (fun v => am_ev d 223 614 ls (.int v :: st) h) := x_iald (show am_code 223 613 = some (.iaload, 1) by decide +kernel) rfl
theorem e_223_614 {d : Nat} {ls : am_L} {st : List Value} {h : am_H} {a : Nat} {v0 : Int32} (hw : am_wd st ≤ 8) (hi : am_is (am_at h a) 7 = true) : am_ev (d + 1) 223 614 ls (.int v0 :: .ref a :: st) h = am_bk (d + 1) 223 617 ls st (am_cal (d + 1) 101 [.ref a, .int v0] h) := x_inv (q := mt_101) (show am_code 223 614 = some (.invokevirtual 101, 3) by decide +kernel) (Or.inl ⟨rfl, rfl⟩) mt_101_at rfl rfl rfl hw (Nat.le_of_ble_eq_true rfl) (fun _ => ⟨_, _, rfl, Or.inr hi⟩) rfl
theorem e_223_617 {d : Nat} {x0 x1 x3 : Option Value} {v : Nat} {st : List Value} {h : am_H} : am_ev d 223 617 [x0, x1, some (.ref v), x3] st h = am_ev d 223 618 [x0, x1, some (.ref v), x3] (.ref v :: st) h := x_aload (show am_code 223 617 = some (.aload 2, 1) by decide +kernel) rfl rfl
theorem e_223_618 {d : Nat} {x1 x2 x3 : Option Value} {v : Nat} {st : List Value} {h : am_H} : am_ev d 223 618 [some (.ref v), x1, x2, x3] st h = am_ev d 223 619 [some (.ref v), x1, x2, x3] (.ref v :: st) h := x_aload (show am_code 223 618 = some (.aload 0, 1) by decide +kernel) rfl rfl
theorem e_223_619 {d : Nat} {x0 x1 x2 : Option Value} {v : Int32} {st : List Value} {h : am_H} : am_ev d 223 619 [x0, x1, x2, some (.int v)] st h = am_ev d 223 620 [x0, x1, x2, some (.int v)] (.int v :: st) h := x_iload (show am_code 223 619 = some (.iload 3, 1) by decide +kernel) rfl rfl
theorem e_223_620 {d : Nat} {ls : am_L} {st : List Value} {h : am_H} : am_ev d 223 620 ls st h = am_ev d 223 621 ls (.int 1 :: st) h := x_iconst (show am_code 223 620 = some (.iconst 1, 1) by decide +kernel) (by decide +kernel) rfl
theorem e_223_621 {d : Nat} {ls : am_L} {st : List Value} {h : am_H} {x y : Int32} : am_ev d 223 621 ls (.int y :: .int x :: st) h = am_ev d 223 622 ls (.int (x + y) :: st) h := x_iadd (show am_code 223 621 = some (.iadd, 1) by decide +kernel) rfl
theorem e_223_622 {d : Nat} {ls : am_L} {st : List Value} {h : am_H} {a : Nat} {i : Int32} : am_ev d 223 622 ls (.int i :: .ref a :: st) h = am_ak (am_at h a) 0 10 i (fun v => am_ev d 223 623 ls (.int v :: st) h) := x_iald (show am_code 223 622 = some (.iaload, 1) by decide +kernel) rfl
theorem e_223_623 {d : Nat} {ls : am_L} {st : List Value} {h : am_H} {a : Nat} {v0 : Int32} (hw : am_wd st ≤ 8) (hi : am_is (am_at h a) 8 = true) : am_ev (d + 1) 223 623 ls (.int v0 :: .ref a :: st) h = am_bk (d + 1) 223 626 ls st (am_cal (d + 1) 186 [.ref a, .int v0] h) := x_inv (q := mt_186) (show am_code 223 623 = some (.invokevirtual 186, 3) by decide +kernel) (Or.inl ⟨rfl, rfl⟩) mt_186_at rfl rfl rfl hw (Nat.le_of_ble_eq_true rfl) (fun _ => ⟨_, _, rfl, Or.inr hi⟩) rfl
theorem e_223_626 {d : Nat} {ls : am_L} {st : List Value} {h : am_H} {x y : Int32} : am_ev d 223 626 ls (.int y :: .int x :: st) h = if x = y then am_ev d 223 1176 ls st h else am_ev d 223 629 ls st h := x_icmp inferInstance (show am_code 223 626 = some (.if_icmp .eq 1176, 3) by decide +kernel) rfl rfl (xc_eq _ _)
theorem e_223_629 {d : Nat} {ls : am_L} {st : List Value} {h : am_H} : am_ev d 223 629 ls st h = am_ev d 223 630 ls (.int 0 :: st) h := x_iconst (show am_code 223 629 = some (.iconst 0, 1) by decide +kernel) (by decide +kernel) rfl
theorem e_223_630 {d : Nat} {ls : am_L} {h : am_H} {v : Int32} (hb : v &&& 1 = v) : am_ev d 223 630 ls [.int v] h = some (some (.int v), h) := x_ret (q := mt_223) (show am_code 223 630 = some (.ireturn, 1) by decide +kernel) mt_223_at rfl (am_n_bool hb)
theorem e_223_631 {d : Nat} {x0 x2 x3 : Option Value} {v : Nat} {st : List Value} {h : am_H} : am_ev d 223 631 [x0, some (.ref v), x2, x3] st h = am_ev d 223 632 [x0, some (.ref v), x2, x3] (.ref v :: st) h := x_aload (show am_code 223 631 = some (.aload 1, 1) by decide +kernel) rfl rfl
theorem e_223_632 {d : Nat} {x1 x2 x3 : Option Value} {v : Nat} {st : List Value} {h : am_H} : am_ev d 223 632 [some (.ref v), x1, x2, x3] st h = am_ev d 223 633 [some (.ref v), x1, x2, x3] (.ref v :: st) h := x_aload (show am_code 223 632 = some (.aload 0, 1) by decide +kernel) rfl rfl
theorem e_223_633 {d : Nat} {x0 x1 x2 : Option Value} {v : Int32} {st : List Value} {h : am_H} : am_ev d 223 633 [x0, x1, x2, some (.int v)] st h = am_ev d 223 634 [x0, x1, x2, some (.int v)] (.int v :: st) h := x_iload (show am_code 223 633 = some (.iload 3, 1) by decide +kernel) rfl rfl
theorem e_223_634 {d : Nat} {ls : am_L} {st : List Value} {h : am_H} : am_ev d 223 634 ls st h = am_ev d 223 635 ls (.int 1 :: st) h := x_iconst (show am_code 223 634 = some (.iconst 1, 1) by decide +kernel) (by decide +kernel) rfl
theorem e_223_635 {d : Nat} {ls : am_L} {st : List Value} {h : am_H} {x y : Int32} : am_ev d 223 635 ls (.int y :: .int x :: st) h = am_ev d 223 636 ls (.int (x + y) :: st) h := x_iadd (show am_code 223 635 = some (.iadd, 1) by decide +kernel) rfl
theorem e_223_636 {d : Nat} {ls : am_L} {st : List Value} {h : am_H} {a : Nat} {i : Int32} : am_ev d 223 636 ls (.int i :: .ref a :: st) h = am_ak (am_at h a) 0 10 i (fun v => am_ev d 223 637 ls (.int v :: st) h) := x_iald (show am_code 223 636 = some (.iaload, 1) by decide +kernel) rfl
theorem e_223_637 {d : Nat} {x1 x2 x3 : Option Value} {v : Nat} {st : List Value} {h : am_H} : am_ev d 223 637 [some (.ref v), x1, x2, x3] st h = am_ev d 223 638 [some (.ref v), x1, x2, x3] (.ref v :: st) h := x_aload (show am_code 223 637 = some (.aload 0, 1) by decide +kernel) rfl rfl
theorem e_223_638 {d : Nat} {x0 x1 x2 : Option Value} {v : Int32} {st : List Value} {h : am_H} : am_ev d 223 638 [x0, x1, x2, some (.int v)] st h = am_ev d 223 639 [x0, x1, x2, some (.int v)] (.int v :: st) h := x_iload (show am_code 223 638 = some (.iload 3, 1) by decide +kernel) rfl rfl
theorem e_223_639 {d : Nat} {ls : am_L} {st : List Value} {h : am_H} : am_ev d 223 639 ls st h = am_ev d 223 640 ls (.int 2 :: st) h := x_iconst (show am_code 223 639 = some (.iconst 2, 1) by decide +kernel) (by decide +kernel) rfl
theorem e_223_640 {d : Nat} {ls : am_L} {st : List Value} {h : am_H} {x y : Int32} : am_ev d 223 640 ls (.int y :: .int x :: st) h = am_ev d 223 641 ls (.int (x + y) :: st) h := x_iadd (show am_code 223 640 = some (.iadd, 1) by decide +kernel) rfl
theorem e_223_641 {d : Nat} {ls : am_L} {st : List Value} {h : am_H} {a : Nat} {i : Int32} : am_ev d 223 641 ls (.int i :: .ref a :: st) h = am_ak (am_at h a) 0 10 i (fun v => am_ev d 223 642 ls (.int v :: st) h) := x_iald (show am_code 223 641 = some (.iaload, 1) by decide +kernel) rfl
theorem e_223_642 {d : Nat} {x1 x2 x3 : Option Value} {v : Nat} {st : List Value} {h : am_H} : am_ev d 223 642 [some (.ref v), x1, x2, x3] st h = am_ev d 223 643 [some (.ref v), x1, x2, x3] (.ref v :: st) h := x_aload (show am_code 223 642 = some (.aload 0, 1) by decide +kernel) rfl rfl
theorem e_223_643 {d : Nat} {x0 x1 x2 : Option Value} {v : Int32} {st : List Value} {h : am_H} : am_ev d 223 643 [x0, x1, x2, some (.int v)] st h = am_ev d 223 644 [x0, x1, x2, some (.int v)] (.int v :: st) h := x_iload (show am_code 223 643 = some (.iload 3, 1) by decide +kernel) rfl rfl
theorem e_223_644 {d : Nat} {ls : am_L} {st : List Value} {h : am_H} : am_ev d 223 644 ls st h = am_ev d 223 645 ls (.int 3 :: st) h := x_iconst (show am_code 223 644 = some (.iconst 3, 1) by decide +kernel) (by decide +kernel) rfl
theorem e_223_645 {d : Nat} {ls : am_L} {st : List Value} {h : am_H} {x y : Int32} : am_ev d 223 645 ls (.int y :: .int x :: st) h = am_ev d 223 646 ls (.int (x + y) :: st) h := x_iadd (show am_code 223 645 = some (.iadd, 1) by decide +kernel) rfl
theorem e_223_646 {d : Nat} {ls : am_L} {st : List Value} {h : am_H} {a : Nat} {i : Int32} : am_ev d 223 646 ls (.int i :: .ref a :: st) h = am_ak (am_at h a) 0 10 i (fun v => am_ev d 223 647 ls (.int v :: st) h) := x_iald (show am_code 223 646 = some (.iaload, 1) by decide +kernel) rfl
theorem e_223_647 {d : Nat} {x1 x2 x3 : Option Value} {v : Nat} {st : List Value} {h : am_H} : am_ev d 223 647 [some (.ref v), x1, x2, x3] st h = am_ev d 223 648 [some (.ref v), x1, x2, x3] (.ref v :: st) h := x_aload (show am_code 223 647 = some (.aload 0, 1) by decide +kernel) rfl rfl
theorem e_223_648 {d : Nat} {x0 x1 x2 : Option Value} {v : Int32} {st : List Value} {h : am_H} : am_ev d 223 648 [x0, x1, x2, some (.int v)] st h = am_ev d 223 649 [x0, x1, x2, some (.int v)] (.int v :: st) h := x_iload (show am_code 223 648 = some (.iload 3, 1) by decide +kernel) rfl rfl
theorem e_223_649 {d : Nat} {ls : am_L} {st : List Value} {h : am_H} : am_ev d 223 649 ls st h = am_ev d 223 650 ls (.int 4 :: st) h := x_iconst (show am_code 223 649 = some (.iconst 4, 1) by decide +kernel) (by decide +kernel) rfl
theorem e_223_650 {d : Nat} {ls : am_L} {st : List Value} {h : am_H} {x y : Int32} : am_ev d 223 650 ls (.int y :: .int x :: st) h = am_ev d 223 651 ls (.int (x + y) :: st) h := x_iadd (show am_code 223 650 = some (.iadd, 1) by decide +kernel) rfl
theorem e_223_651 {d : Nat} {ls : am_L} {st : List Value} {h : am_H} {a : Nat} {i : Int32} : am_ev d 223 651 ls (.int i :: .ref a :: st) h = am_ak (am_at h a) 0 10 i (fun v => am_ev d 223 652 ls (.int v :: st) h) := x_iald (show am_code 223 651 = some (.iaload, 1) by decide +kernel) rfl
theorem e_223_652 {d : Nat} {ls : am_L} {st : List Value} {h : am_H} {a : Nat} {v0 : Int32} {v1 : Int32} {v2 : Int32} {v3 : Int32} (hw : am_wd st ≤ 8) (hi : am_is (am_at h a) 7 = true) : am_ev (d + 1) 223 652 ls (.int v3 :: .int v2 :: .int v1 :: .int v0 :: .ref a :: st) h = am_bk (d + 1) 223 655 ls st (am_cal (d + 1) 102 [.ref a, .int v0, .int v1, .int v2, .int v3] h) := x_inv (q := mt_102) (show am_code 223 652 = some (.invokevirtual 102, 3) by decide +kernel) (Or.inl ⟨rfl, rfl⟩) mt_102_at rfl rfl rfl hw (Nat.le_of_ble_eq_true rfl) (fun _ => ⟨_, _, rfl, Or.inr hi⟩) rfl
theorem e_223_655 {d : Nat} {x0 x1 x3 : Option Value} {v : Nat} {st : List Value} {h : am_H} : am_ev d 223 655 [x0, x1, some (.ref v), x3] st h = am_ev d 223 656 [x0, x1, some (.ref v), x3] (.ref v :: st) h := x_aload (show am_code 223 655 = some (.aload 2, 1) by decide +kernel) rfl rfl
theorem e_223_656 {d : Nat} {x1 x2 x3 : Option Value} {v : Nat} {st : List Value} {h : am_H} : am_ev d 223 656 [some (.ref v), x1, x2, x3] st h = am_ev d 223 657 [some (.ref v), x1, x2, x3] (.ref v :: st) h := x_aload (show am_code 223 656 = some (.aload 0, 1) by decide +kernel) rfl rfl
theorem e_223_657 {d : Nat} {x0 x1 x2 : Option Value} {v : Int32} {st : List Value} {h : am_H} : am_ev d 223 657 [x0, x1, x2, some (.int v)] st h = am_ev d 223 658 [x0, x1, x2, some (.int v)] (.int v :: st) h := x_iload (show am_code 223 657 = some (.iload 3, 1) by decide +kernel) rfl rfl
theorem e_223_658 {d : Nat} {ls : am_L} {st : List Value} {h : am_H} : am_ev d 223 658 ls st h = am_ev d 223 659 ls (.int 1 :: st) h := x_iconst (show am_code 223 658 = some (.iconst 1, 1) by decide +kernel) (by decide +kernel) rfl
theorem e_223_659 {d : Nat} {ls : am_L} {st : List Value} {h : am_H} {x y : Int32} : am_ev d 223 659 ls (.int y :: .int x :: st) h = am_ev d 223 660 ls (.int (x + y) :: st) h := x_iadd (show am_code 223 659 = some (.iadd, 1) by decide +kernel) rfl
theorem e_223_660 {d : Nat} {ls : am_L} {st : List Value} {h : am_H} {a : Nat} {i : Int32} : am_ev d 223 660 ls (.int i :: .ref a :: st) h = am_ak (am_at h a) 0 10 i (fun v => am_ev d 223 661 ls (.int v :: st) h) := x_iald (show am_code 223 660 = some (.iaload, 1) by decide +kernel) rfl
theorem e_223_661 {d : Nat} {x1 x2 x3 : Option Value} {v : Nat} {st : List Value} {h : am_H} : am_ev d 223 661 [some (.ref v), x1, x2, x3] st h = am_ev d 223 662 [some (.ref v), x1, x2, x3] (.ref v :: st) h := x_aload (show am_code 223 661 = some (.aload 0, 1) by decide +kernel) rfl rfl
theorem e_223_662 {d : Nat} {x0 x1 x2 : Option Value} {v : Int32} {st : List Value} {h : am_H} : am_ev d 223 662 [x0, x1, x2, some (.int v)] st h = am_ev d 223 663 [x0, x1, x2, some (.int v)] (.int v :: st) h := x_iload (show am_code 223 662 = some (.iload 3, 1) by decide +kernel) rfl rfl
theorem e_223_663 {d : Nat} {ls : am_L} {st : List Value} {h : am_H} : am_ev d 223 663 ls st h = am_ev d 223 664 ls (.int 2 :: st) h := x_iconst (show am_code 223 663 = some (.iconst 2, 1) by decide +kernel) (by decide +kernel) rfl
theorem e_223_664 {d : Nat} {ls : am_L} {st : List Value} {h : am_H} {x y : Int32} : am_ev d 223 664 ls (.int y :: .int x :: st) h = am_ev d 223 665 ls (.int (x + y) :: st) h := x_iadd (show am_code 223 664 = some (.iadd, 1) by decide +kernel) rfl
theorem e_223_665 {d : Nat} {ls : am_L} {st : List Value} {h : am_H} {a : Nat} {i : Int32} : am_ev d 223 665 ls (.int i :: .ref a :: st) h = am_ak (am_at h a) 0 10 i (fun v => am_ev d 223 666 ls (.int v :: st) h) := x_iald (show am_code 223 665 = some (.iaload, 1) by decide +kernel) rfl
theorem e_223_666 {d : Nat} {x1 x2 x3 : Option Value} {v : Nat} {st : List Value} {h : am_H} : am_ev d 223 666 [some (.ref v), x1, x2, x3] st h = am_ev d 223 667 [some (.ref v), x1, x2, x3] (.ref v :: st) h := x_aload (show am_code 223 666 = some (.aload 0, 1) by decide +kernel) rfl rfl
theorem e_223_667 {d : Nat} {x0 x1 x2 : Option Value} {v : Int32} {st : List Value} {h : am_H} : am_ev d 223 667 [x0, x1, x2, some (.int v)] st h = am_ev d 223 668 [x0, x1, x2, some (.int v)] (.int v :: st) h := x_iload (show am_code 223 667 = some (.iload 3, 1) by decide +kernel) rfl rfl
theorem e_223_668 {d : Nat} {ls : am_L} {st : List Value} {h : am_H} : am_ev d 223 668 ls st h = am_ev d 223 669 ls (.int 3 :: st) h := x_iconst (show am_code 223 668 = some (.iconst 3, 1) by decide +kernel) (by decide +kernel) rfl
theorem e_223_669 {d : Nat} {ls : am_L} {st : List Value} {h : am_H} {x y : Int32} : am_ev d 223 669 ls (.int y :: .int x :: st) h = am_ev d 223 670 ls (.int (x + y) :: st) h := x_iadd (show am_code 223 669 = some (.iadd, 1) by decide +kernel) rfl
theorem e_223_670 {d : Nat} {ls : am_L} {st : List Value} {h : am_H} {a : Nat} {i : Int32} : am_ev d 223 670 ls (.int i :: .ref a :: st) h = am_ak (am_at h a) 0 10 i (fun v => am_ev d 223 671 ls (.int v :: st) h) := x_iald (show am_code 223 670 = some (.iaload, 1) by decide +kernel) rfl
theorem e_223_671 {d : Nat} {x1 x2 x3 : Option Value} {v : Nat} {st : List Value} {h : am_H} : am_ev d 223 671 [some (.ref v), x1, x2, x3] st h = am_ev d 223 672 [some (.ref v), x1, x2, x3] (.ref v :: st) h := x_aload (show am_code 223 671 = some (.aload 0, 1) by decide +kernel) rfl rfl
theorem e_223_672 {d : Nat} {x0 x1 x2 : Option Value} {v : Int32} {st : List Value} {h : am_H} : am_ev d 223 672 [x0, x1, x2, some (.int v)] st h = am_ev d 223 673 [x0, x1, x2, some (.int v)] (.int v :: st) h := x_iload (show am_code 223 672 = some (.iload 3, 1) by decide +kernel) rfl rfl
theorem e_223_673 {d : Nat} {ls : am_L} {st : List Value} {h : am_H} : am_ev d 223 673 ls st h = am_ev d 223 674 ls (.int 4 :: st) h := x_iconst (show am_code 223 673 = some (.iconst 4, 1) by decide +kernel) (by decide +kernel) rfl
theorem e_223_674 {d : Nat} {ls : am_L} {st : List Value} {h : am_H} {x y : Int32} : am_ev d 223 674 ls (.int y :: .int x :: st) h = am_ev d 223 675 ls (.int (x + y) :: st) h := x_iadd (show am_code 223 674 = some (.iadd, 1) by decide +kernel) rfl
theorem e_223_675 {d : Nat} {ls : am_L} {st : List Value} {h : am_H} {a : Nat} {i : Int32} : am_ev d 223 675 ls (.int i :: .ref a :: st) h = am_ak (am_at h a) 0 10 i (fun v => am_ev d 223 676 ls (.int v :: st) h) := x_iald (show am_code 223 675 = some (.iaload, 1) by decide +kernel) rfl
theorem e_223_676 {d : Nat} {ls : am_L} {st : List Value} {h : am_H} {a : Nat} {v0 : Int32} {v1 : Int32} {v2 : Int32} {v3 : Int32} (hw : am_wd st ≤ 8) (hi : am_is (am_at h a) 8 = true) : am_ev (d + 1) 223 676 ls (.int v3 :: .int v2 :: .int v1 :: .int v0 :: .ref a :: st) h = am_bk (d + 1) 223 679 ls st (am_cal (d + 1) 188 [.ref a, .int v0, .int v1, .int v2, .int v3] h) := x_inv (q := mt_188) (show am_code 223 676 = some (.invokevirtual 188, 3) by decide +kernel) (Or.inl ⟨rfl, rfl⟩) mt_188_at rfl rfl rfl hw (Nat.le_of_ble_eq_true rfl) (fun _ => ⟨_, _, rfl, Or.inr hi⟩) rfl
theorem e_223_679 {d : Nat} {ls : am_L} {st : List Value} {h : am_H} {x y : Int32} : am_ev d 223 679 ls (.int y :: .int x :: st) h = if x = y then am_ev d 223 1176 ls st h else am_ev d 223 682 ls st h := x_icmp inferInstance (show am_code 223 679 = some (.if_icmp .eq 1176, 3) by decide +kernel) rfl rfl (xc_eq _ _)
theorem e_223_682 {d : Nat} {ls : am_L} {st : List Value} {h : am_H} : am_ev d 223 682 ls st h = am_ev d 223 683 ls (.int 0 :: st) h := x_iconst (show am_code 223 682 = some (.iconst 0, 1) by decide +kernel) (by decide +kernel) rfl
theorem e_223_683 {d : Nat} {ls : am_L} {h : am_H} {v : Int32} (hb : v &&& 1 = v) : am_ev d 223 683 ls [.int v] h = some (some (.int v), h) := x_ret (q := mt_223) (show am_code 223 683 = some (.ireturn, 1) by decide +kernel) mt_223_at rfl (am_n_bool hb)
theorem e_223_684 {d : Nat} {x0 x2 x3 : Option Value} {v : Nat} {st : List Value} {h : am_H} : am_ev d 223 684 [x0, some (.ref v), x2, x3] st h = am_ev d 223 685 [x0, some (.ref v), x2, x3] (.ref v :: st) h := x_aload (show am_code 223 684 = some (.aload 1, 1) by decide +kernel) rfl rfl
theorem e_223_685 {d : Nat} {x1 x2 x3 : Option Value} {v : Nat} {st : List Value} {h : am_H} : am_ev d 223 685 [some (.ref v), x1, x2, x3] st h = am_ev d 223 686 [some (.ref v), x1, x2, x3] (.ref v :: st) h := x_aload (show am_code 223 685 = some (.aload 0, 1) by decide +kernel) rfl rfl
theorem e_223_686 {d : Nat} {x0 x1 x2 : Option Value} {v : Int32} {st : List Value} {h : am_H} : am_ev d 223 686 [x0, x1, x2, some (.int v)] st h = am_ev d 223 687 [x0, x1, x2, some (.int v)] (.int v :: st) h := x_iload (show am_code 223 686 = some (.iload 3, 1) by decide +kernel) rfl rfl
theorem e_223_687 {d : Nat} {ls : am_L} {st : List Value} {h : am_H} : am_ev d 223 687 ls st h = am_ev d 223 688 ls (.int 1 :: st) h := x_iconst (show am_code 223 687 = some (.iconst 1, 1) by decide +kernel) (by decide +kernel) rfl
theorem e_223_688 {d : Nat} {ls : am_L} {st : List Value} {h : am_H} {x y : Int32} : am_ev d 223 688 ls (.int y :: .int x :: st) h = am_ev d 223 689 ls (.int (x + y) :: st) h := x_iadd (show am_code 223 688 = some (.iadd, 1) by decide +kernel) rfl
theorem e_223_689 {d : Nat} {ls : am_L} {st : List Value} {h : am_H} {a : Nat} {i : Int32} : am_ev d 223 689 ls (.int i :: .ref a :: st) h = am_ak (am_at h a) 0 10 i (fun v => am_ev d 223 690 ls (.int v :: st) h) := x_iald (show am_code 223 689 = some (.iaload, 1) by decide +kernel) rfl
theorem e_223_690 {d : Nat} {x1 x2 x3 : Option Value} {v : Nat} {st : List Value} {h : am_H} : am_ev d 223 690 [some (.ref v), x1, x2, x3] st h = am_ev d 223 691 [some (.ref v), x1, x2, x3] (.ref v :: st) h := x_aload (show am_code 223 690 = some (.aload 0, 1) by decide +kernel) rfl rfl
theorem e_223_691 {d : Nat} {x0 x1 x2 : Option Value} {v : Int32} {st : List Value} {h : am_H} : am_ev d 223 691 [x0, x1, x2, some (.int v)] st h = am_ev d 223 692 [x0, x1, x2, some (.int v)] (.int v :: st) h := x_iload (show am_code 223 691 = some (.iload 3, 1) by decide +kernel) rfl rfl
theorem e_223_692 {d : Nat} {ls : am_L} {st : List Value} {h : am_H} : am_ev d 223 692 ls st h = am_ev d 223 693 ls (.int 2 :: st) h := x_iconst (show am_code 223 692 = some (.iconst 2, 1) by decide +kernel) (by decide +kernel) rfl
theorem e_223_693 {d : Nat} {ls : am_L} {st : List Value} {h : am_H} {x y : Int32} : am_ev d 223 693 ls (.int y :: .int x :: st) h = am_ev d 223 694 ls (.int (x + y) :: st) h := x_iadd (show am_code 223 693 = some (.iadd, 1) by decide +kernel) rfl
theorem e_223_694 {d : Nat} {ls : am_L} {st : List Value} {h : am_H} {a : Nat} {i : Int32} : am_ev d 223 694 ls (.int i :: .ref a :: st) h = am_ak (am_at h a) 0 10 i (fun v => am_ev d 223 695 ls (.int v :: st) h) := x_iald (show am_code 223 694 = some (.iaload, 1) by decide +kernel) rfl
theorem e_223_695 {d : Nat} {x1 x2 x3 : Option Value} {v : Nat} {st : List Value} {h : am_H} : am_ev d 223 695 [some (.ref v), x1, x2, x3] st h = am_ev d 223 696 [some (.ref v), x1, x2, x3] (.ref v :: st) h := x_aload (show am_code 223 695 = some (.aload 0, 1) by decide +kernel) rfl rfl
theorem e_223_696 {d : Nat} {x0 x1 x2 : Option Value} {v : Int32} {st : List Value} {h : am_H} : am_ev d 223 696 [x0, x1, x2, some (.int v)] st h = am_ev d 223 697 [x0, x1, x2, some (.int v)] (.int v :: st) h := x_iload (show am_code 223 696 = some (.iload 3, 1) by decide +kernel) rfl rfl
theorem e_223_697 {d : Nat} {ls : am_L} {st : List Value} {h : am_H} : am_ev d 223 697 ls st h = am_ev d 223 698 ls (.int 3 :: st) h := x_iconst (show am_code 223 697 = some (.iconst 3, 1) by decide +kernel) (by decide +kernel) rfl
theorem e_223_698 {d : Nat} {ls : am_L} {st : List Value} {h : am_H} {x y : Int32} : am_ev d 223 698 ls (.int y :: .int x :: st) h = am_ev d 223 699 ls (.int (x + y) :: st) h := x_iadd (show am_code 223 698 = some (.iadd, 1) by decide +kernel) rfl
theorem e_223_699 {d : Nat} {ls : am_L} {st : List Value} {h : am_H} {a : Nat} {i : Int32} : am_ev d 223 699 ls (.int i :: .ref a :: st) h = am_ak (am_at h a) 0 10 i (fun v => am_ev d 223 700 ls (.int v :: st) h) := x_iald (show am_code 223 699 = some (.iaload, 1) by decide +kernel) rfl
theorem e_223_700 {d : Nat} {ls : am_L} {st : List Value} {h : am_H} {a : Nat} {v0 : Int32} {v1 : Int32} {v2 : Int32} (hw : am_wd st ≤ 8) (hi : am_is (am_at h a) 7 = true) : am_ev (d + 1) 223 700 ls (.int v2 :: .int v1 :: .int v0 :: .ref a :: st) h = am_bk (d + 1) 223 703 ls st (am_cal (d + 1) 103 [.ref a, .int v0, .int v1, .int v2] h) := x_inv (q := mt_103) (show am_code 223 700 = some (.invokevirtual 103, 3) by decide +kernel) (Or.inl ⟨rfl, rfl⟩) mt_103_at rfl rfl rfl hw (Nat.le_of_ble_eq_true rfl) (fun _ => ⟨_, _, rfl, Or.inr hi⟩) rfl
theorem e_223_703 {d : Nat} {x0 x1 x3 : Option Value} {v : Nat} {st : List Value} {h : am_H} : am_ev d 223 703 [x0, x1, some (.ref v), x3] st h = am_ev d 223 704 [x0, x1, some (.ref v), x3] (.ref v :: st) h := x_aload (show am_code 223 703 = some (.aload 2, 1) by decide +kernel) rfl rfl
theorem e_223_704 {d : Nat} {x1 x2 x3 : Option Value} {v : Nat} {st : List Value} {h : am_H} : am_ev d 223 704 [some (.ref v), x1, x2, x3] st h = am_ev d 223 705 [some (.ref v), x1, x2, x3] (.ref v :: st) h := x_aload (show am_code 223 704 = some (.aload 0, 1) by decide +kernel) rfl rfl
theorem e_223_705 {d : Nat} {x0 x1 x2 : Option Value} {v : Int32} {st : List Value} {h : am_H} : am_ev d 223 705 [x0, x1, x2, some (.int v)] st h = am_ev d 223 706 [x0, x1, x2, some (.int v)] (.int v :: st) h := x_iload (show am_code 223 705 = some (.iload 3, 1) by decide +kernel) rfl rfl
theorem e_223_706 {d : Nat} {ls : am_L} {st : List Value} {h : am_H} : am_ev d 223 706 ls st h = am_ev d 223 707 ls (.int 1 :: st) h := x_iconst (show am_code 223 706 = some (.iconst 1, 1) by decide +kernel) (by decide +kernel) rfl
theorem e_223_707 {d : Nat} {ls : am_L} {st : List Value} {h : am_H} {x y : Int32} : am_ev d 223 707 ls (.int y :: .int x :: st) h = am_ev d 223 708 ls (.int (x + y) :: st) h := x_iadd (show am_code 223 707 = some (.iadd, 1) by decide +kernel) rfl
theorem e_223_708 {d : Nat} {ls : am_L} {st : List Value} {h : am_H} {a : Nat} {i : Int32} : am_ev d 223 708 ls (.int i :: .ref a :: st) h = am_ak (am_at h a) 0 10 i (fun v => am_ev d 223 709 ls (.int v :: st) h) := x_iald (show am_code 223 708 = some (.iaload, 1) by decide +kernel) rfl
theorem e_223_709 {d : Nat} {x1 x2 x3 : Option Value} {v : Nat} {st : List Value} {h : am_H} : am_ev d 223 709 [some (.ref v), x1, x2, x3] st h = am_ev d 223 710 [some (.ref v), x1, x2, x3] (.ref v :: st) h := x_aload (show am_code 223 709 = some (.aload 0, 1) by decide +kernel) rfl rfl
theorem e_223_710 {d : Nat} {x0 x1 x2 : Option Value} {v : Int32} {st : List Value} {h : am_H} : am_ev d 223 710 [x0, x1, x2, some (.int v)] st h = am_ev d 223 711 [x0, x1, x2, some (.int v)] (.int v :: st) h := x_iload (show am_code 223 710 = some (.iload 3, 1) by decide +kernel) rfl rfl
theorem e_223_711 {d : Nat} {ls : am_L} {st : List Value} {h : am_H} : am_ev d 223 711 ls st h = am_ev d 223 712 ls (.int 2 :: st) h := x_iconst (show am_code 223 711 = some (.iconst 2, 1) by decide +kernel) (by decide +kernel) rfl
theorem e_223_712 {d : Nat} {ls : am_L} {st : List Value} {h : am_H} {x y : Int32} : am_ev d 223 712 ls (.int y :: .int x :: st) h = am_ev d 223 713 ls (.int (x + y) :: st) h := x_iadd (show am_code 223 712 = some (.iadd, 1) by decide +kernel) rfl
theorem e_223_713 {d : Nat} {ls : am_L} {st : List Value} {h : am_H} {a : Nat} {i : Int32} : am_ev d 223 713 ls (.int i :: .ref a :: st) h = am_ak (am_at h a) 0 10 i (fun v => am_ev d 223 714 ls (.int v :: st) h) := x_iald (show am_code 223 713 = some (.iaload, 1) by decide +kernel) rfl
theorem e_223_714 {d : Nat} {x1 x2 x3 : Option Value} {v : Nat} {st : List Value} {h : am_H} : am_ev d 223 714 [some (.ref v), x1, x2, x3] st h = am_ev d 223 715 [some (.ref v), x1, x2, x3] (.ref v :: st) h := x_aload (show am_code 223 714 = some (.aload 0, 1) by decide +kernel) rfl rfl
theorem e_223_715 {d : Nat} {x0 x1 x2 : Option Value} {v : Int32} {st : List Value} {h : am_H} : am_ev d 223 715 [x0, x1, x2, some (.int v)] st h = am_ev d 223 716 [x0, x1, x2, some (.int v)] (.int v :: st) h := x_iload (show am_code 223 715 = some (.iload 3, 1) by decide +kernel) rfl rfl
theorem e_223_716 {d : Nat} {ls : am_L} {st : List Value} {h : am_H} : am_ev d 223 716 ls st h = am_ev d 223 717 ls (.int 3 :: st) h := x_iconst (show am_code 223 716 = some (.iconst 3, 1) by decide +kernel) (by decide +kernel) rfl
theorem e_223_717 {d : Nat} {ls : am_L} {st : List Value} {h : am_H} {x y : Int32} : am_ev d 223 717 ls (.int y :: .int x :: st) h = am_ev d 223 718 ls (.int (x + y) :: st) h := x_iadd (show am_code 223 717 = some (.iadd, 1) by decide +kernel) rfl
theorem e_223_718 {d : Nat} {ls : am_L} {st : List Value} {h : am_H} {a : Nat} {i : Int32} : am_ev d 223 718 ls (.int i :: .ref a :: st) h = am_ak (am_at h a) 0 10 i (fun v => am_ev d 223 719 ls (.int v :: st) h) := x_iald (show am_code 223 718 = some (.iaload, 1) by decide +kernel) rfl
theorem e_223_719 {d : Nat} {ls : am_L} {st : List Value} {h : am_H} {a : Nat} {v0 : Int32} {v1 : Int32} {v2 : Int32} (hw : am_wd st ≤ 8) (hi : am_is (am_at h a) 8 = true) : am_ev (d + 1) 223 719 ls (.int v2 :: .int v1 :: .int v0 :: .ref a :: st) h = am_bk (d + 1) 223 722 ls st (am_cal (d + 1) 189 [.ref a, .int v0, .int v1, .int v2] h) := x_inv (q := mt_189) (show am_code 223 719 = some (.invokevirtual 189, 3) by decide +kernel) (Or.inl ⟨rfl, rfl⟩) mt_189_at rfl rfl rfl hw (Nat.le_of_ble_eq_true rfl) (fun _ => ⟨_, _, rfl, Or.inr hi⟩) rfl
theorem e_223_722 {d : Nat} {ls : am_L} {st : List Value} {h : am_H} {x y : Int32} : am_ev d 223 722 ls (.int y :: .int x :: st) h = if x = y then am_ev d 223 1176 ls st h else am_ev d 223 725 ls st h := x_icmp inferInstance (show am_code 223 722 = some (.if_icmp .eq 1176, 3) by decide +kernel) rfl rfl (xc_eq _ _)
theorem e_223_725 {d : Nat} {ls : am_L} {st : List Value} {h : am_H} : am_ev d 223 725 ls st h = am_ev d 223 726 ls (.int 0 :: st) h := x_iconst (show am_code 223 725 = some (.iconst 0, 1) by decide +kernel) (by decide +kernel) rfl
theorem e_223_726 {d : Nat} {ls : am_L} {h : am_H} {v : Int32} (hb : v &&& 1 = v) : am_ev d 223 726 ls [.int v] h = some (some (.int v), h) := x_ret (q := mt_223) (show am_code 223 726 = some (.ireturn, 1) by decide +kernel) mt_223_at rfl (am_n_bool hb)
theorem e_223_727 {d : Nat} {x0 x2 x3 : Option Value} {v : Nat} {st : List Value} {h : am_H} : am_ev d 223 727 [x0, some (.ref v), x2, x3] st h = am_ev d 223 728 [x0, some (.ref v), x2, x3] (.ref v :: st) h := x_aload (show am_code 223 727 = some (.aload 1, 1) by decide +kernel) rfl rfl
theorem e_223_728 {d : Nat} {ls : am_L} {st : List Value} {h : am_H} {a : Nat} (hw : am_wd st ≤ 8) (hi : am_is (am_at h a) 7 = true) : am_ev (d + 1) 223 728 ls (.ref a :: st) h = am_bk (d + 1) 223 731 ls st (am_cal (d + 1) 104 [.ref a] h) := x_inv (q := mt_104) (show am_code 223 728 = some (.invokevirtual 104, 3) by decide +kernel) (Or.inl ⟨rfl, rfl⟩) mt_104_at rfl rfl rfl hw (Nat.le_of_ble_eq_true rfl) (fun _ => ⟨_, _, rfl, Or.inr hi⟩) rfl
theorem e_223_731 {d : Nat} {x0 x1 x3 : Option Value} {v : Nat} {st : List Value} {h : am_H} : am_ev d 223 731 [x0, x1, some (.ref v), x3] st h = am_ev d 223 732 [x0, x1, some (.ref v), x3] (.ref v :: st) h := x_aload (show am_code 223 731 = some (.aload 2, 1) by decide +kernel) rfl rfl
theorem e_223_732 {d : Nat} {ls : am_L} {st : List Value} {h : am_H} {a : Nat} (hw : am_wd st ≤ 8) (hi : am_is (am_at h a) 8 = true) : am_ev (d + 1) 223 732 ls (.ref a :: st) h = am_bk (d + 1) 223 735 ls st (am_cal (d + 1) 190 [.ref a] h) := x_inv (q := mt_190) (show am_code 223 732 = some (.invokevirtual 190, 3) by decide +kernel) (Or.inl ⟨rfl, rfl⟩) mt_190_at rfl rfl rfl hw (Nat.le_of_ble_eq_true rfl) (fun _ => ⟨_, _, rfl, Or.inr hi⟩) rfl
theorem e_223_735 {d : Nat} {ls : am_L} {st : List Value} {h : am_H} {x y : Int32} : am_ev d 223 735 ls (.int y :: .int x :: st) h = if x = y then am_ev d 223 1176 ls st h else am_ev d 223 738 ls st h := x_icmp inferInstance (show am_code 223 735 = some (.if_icmp .eq 1176, 3) by decide +kernel) rfl rfl (xc_eq _ _)
theorem e_223_738 {d : Nat} {ls : am_L} {st : List Value} {h : am_H} : am_ev d 223 738 ls st h = am_ev d 223 739 ls (.int 0 :: st) h := x_iconst (show am_code 223 738 = some (.iconst 0, 1) by decide +kernel) (by decide +kernel) rfl
theorem e_223_739 {d : Nat} {ls : am_L} {h : am_H} {v : Int32} (hb : v &&& 1 = v) : am_ev d 223 739 ls [.int v] h = some (some (.int v), h) := x_ret (q := mt_223) (show am_code 223 739 = some (.ireturn, 1) by decide +kernel) mt_223_at rfl (am_n_bool hb)
theorem e_223_740 {d : Nat} {x0 x2 x3 : Option Value} {v : Nat} {st : List Value} {h : am_H} : am_ev d 223 740 [x0, some (.ref v), x2, x3] st h = am_ev d 223 741 [x0, some (.ref v), x2, x3] (.ref v :: st) h := x_aload (show am_code 223 740 = some (.aload 1, 1) by decide +kernel) rfl rfl
theorem e_223_741 {d : Nat} {ls : am_L} {st : List Value} {h : am_H} {a : Nat} (hw : am_wd st ≤ 8) (hi : am_is (am_at h a) 7 = true) : am_ev (d + 1) 223 741 ls (.ref a :: st) h = am_bk (d + 1) 223 744 ls st (am_cal (d + 1) 105 [.ref a] h) := x_inv (q := mt_105) (show am_code 223 741 = some (.invokevirtual 105, 3) by decide +kernel) (Or.inl ⟨rfl, rfl⟩) mt_105_at rfl rfl rfl hw (Nat.le_of_ble_eq_true rfl) (fun _ => ⟨_, _, rfl, Or.inr hi⟩) rfl
theorem e_223_744 {d : Nat} {x0 x1 x3 : Option Value} {v : Nat} {st : List Value} {h : am_H} : am_ev d 223 744 [x0, x1, some (.ref v), x3] st h = am_ev d 223 745 [x0, x1, some (.ref v), x3] (.ref v :: st) h := x_aload (show am_code 223 744 = some (.aload 2, 1) by decide +kernel) rfl rfl
theorem e_223_745 {d : Nat} {ls : am_L} {st : List Value} {h : am_H} {a : Nat} (hw : am_wd st ≤ 8) (hi : am_is (am_at h a) 8 = true) : am_ev (d + 1) 223 745 ls (.ref a :: st) h = am_bk (d + 1) 223 748 ls st (am_cal (d + 1) 192 [.ref a] h) := x_inv (q := mt_192) (show am_code 223 745 = some (.invokevirtual 192, 3) by decide +kernel) (Or.inl ⟨rfl, rfl⟩) mt_192_at rfl rfl rfl hw (Nat.le_of_ble_eq_true rfl) (fun _ => ⟨_, _, rfl, Or.inr hi⟩) rfl
theorem e_223_748 {d : Nat} {ls : am_L} {st : List Value} {h : am_H} {x y : Int32} : am_ev d 223 748 ls (.int y :: .int x :: st) h = if x = y then am_ev d 223 1176 ls st h else am_ev d 223 751 ls st h := x_icmp inferInstance (show am_code 223 748 = some (.if_icmp .eq 1176, 3) by decide +kernel) rfl rfl (xc_eq _ _)
theorem e_223_751 {d : Nat} {ls : am_L} {st : List Value} {h : am_H} : am_ev d 223 751 ls st h = am_ev d 223 752 ls (.int 0 :: st) h := x_iconst (show am_code 223 751 = some (.iconst 0, 1) by decide +kernel) (by decide +kernel) rfl
theorem e_223_752 {d : Nat} {ls : am_L} {h : am_H} {v : Int32} (hb : v &&& 1 = v) : am_ev d 223 752 ls [.int v] h = some (some (.int v), h) := x_ret (q := mt_223) (show am_code 223 752 = some (.ireturn, 1) by decide +kernel) mt_223_at rfl (am_n_bool hb)
theorem e_223_753 {d : Nat} {x0 x2 x3 : Option Value} {v : Nat} {st : List Value} {h : am_H} : am_ev d 223 753 [x0, some (.ref v), x2, x3] st h = am_ev d 223 754 [x0, some (.ref v), x2, x3] (.ref v :: st) h := x_aload (show am_code 223 753 = some (.aload 1, 1) by decide +kernel) rfl rfl
theorem e_223_754 {d : Nat} {ls : am_L} {st : List Value} {h : am_H} {a : Nat} (hw : am_wd st ≤ 8) (hi : am_is (am_at h a) 7 = true) : am_ev (d + 1) 223 754 ls (.ref a :: st) h = am_bk (d + 1) 223 757 ls st (am_cal (d + 1) 106 [.ref a] h) := x_inv (q := mt_106) (show am_code 223 754 = some (.invokevirtual 106, 3) by decide +kernel) (Or.inl ⟨rfl, rfl⟩) mt_106_at rfl rfl rfl hw (Nat.le_of_ble_eq_true rfl) (fun _ => ⟨_, _, rfl, Or.inr hi⟩) rfl
theorem e_223_757 {d : Nat} {x0 x1 x3 : Option Value} {v : Nat} {st : List Value} {h : am_H} : am_ev d 223 757 [x0, x1, some (.ref v), x3] st h = am_ev d 223 758 [x0, x1, some (.ref v), x3] (.ref v :: st) h := x_aload (show am_code 223 757 = some (.aload 2, 1) by decide +kernel) rfl rfl
theorem e_223_758 {d : Nat} {ls : am_L} {st : List Value} {h : am_H} {a : Nat} (hw : am_wd st ≤ 8) (hi : am_is (am_at h a) 8 = true) : am_ev (d + 1) 223 758 ls (.ref a :: st) h = am_bk (d + 1) 223 761 ls st (am_cal (d + 1) 194 [.ref a] h) := x_inv (q := mt_194) (show am_code 223 758 = some (.invokevirtual 194, 3) by decide +kernel) (Or.inl ⟨rfl, rfl⟩) mt_194_at rfl rfl rfl hw (Nat.le_of_ble_eq_true rfl) (fun _ => ⟨_, _, rfl, Or.inr hi⟩) rfl
theorem e_223_761 {d : Nat} {ls : am_L} {st : List Value} {h : am_H} {x y : Int32} : am_ev d 223 761 ls (.int y :: .int x :: st) h = if x = y then am_ev d 223 1176 ls st h else am_ev d 223 764 ls st h := x_icmp inferInstance (show am_code 223 761 = some (.if_icmp .eq 1176, 3) by decide +kernel) rfl rfl (xc_eq _ _)
theorem e_223_764 {d : Nat} {ls : am_L} {st : List Value} {h : am_H} : am_ev d 223 764 ls st h = am_ev d 223 765 ls (.int 0 :: st) h := x_iconst (show am_code 223 764 = some (.iconst 0, 1) by decide +kernel) (by decide +kernel) rfl
theorem e_223_765 {d : Nat} {ls : am_L} {h : am_H} {v : Int32} (hb : v &&& 1 = v) : am_ev d 223 765 ls [.int v] h = some (some (.int v), h) := x_ret (q := mt_223) (show am_code 223 765 = some (.ireturn, 1) by decide +kernel) mt_223_at rfl (am_n_bool hb)
theorem e_223_766 {d : Nat} {x0 x2 x3 : Option Value} {v : Nat} {st : List Value} {h : am_H} : am_ev d 223 766 [x0, some (.ref v), x2, x3] st h = am_ev d 223 767 [x0, some (.ref v), x2, x3] (.ref v :: st) h := x_aload (show am_code 223 766 = some (.aload 1, 1) by decide +kernel) rfl rfl
theorem e_223_767 {d : Nat} {x1 x2 x3 : Option Value} {v : Nat} {st : List Value} {h : am_H} : am_ev d 223 767 [some (.ref v), x1, x2, x3] st h = am_ev d 223 768 [some (.ref v), x1, x2, x3] (.ref v :: st) h := x_aload (show am_code 223 767 = some (.aload 0, 1) by decide +kernel) rfl rfl
theorem e_223_768 {d : Nat} {x0 x1 x2 : Option Value} {v : Int32} {st : List Value} {h : am_H} : am_ev d 223 768 [x0, x1, x2, some (.int v)] st h = am_ev d 223 769 [x0, x1, x2, some (.int v)] (.int v :: st) h := x_iload (show am_code 223 768 = some (.iload 3, 1) by decide +kernel) rfl rfl
theorem e_223_769 {d : Nat} {ls : am_L} {st : List Value} {h : am_H} : am_ev d 223 769 ls st h = am_ev d 223 770 ls (.int 1 :: st) h := x_iconst (show am_code 223 769 = some (.iconst 1, 1) by decide +kernel) (by decide +kernel) rfl
theorem e_223_770 {d : Nat} {ls : am_L} {st : List Value} {h : am_H} {x y : Int32} : am_ev d 223 770 ls (.int y :: .int x :: st) h = am_ev d 223 771 ls (.int (x + y) :: st) h := x_iadd (show am_code 223 770 = some (.iadd, 1) by decide +kernel) rfl
theorem e_223_771 {d : Nat} {ls : am_L} {st : List Value} {h : am_H} {a : Nat} {i : Int32} : am_ev d 223 771 ls (.int i :: .ref a :: st) h = am_ak (am_at h a) 0 10 i (fun v => am_ev d 223 772 ls (.int v :: st) h) := x_iald (show am_code 223 771 = some (.iaload, 1) by decide +kernel) rfl
theorem e_223_772 {d : Nat} {ls : am_L} {st : List Value} {h : am_H} {a : Nat} {v0 : Int32} (hw : am_wd st ≤ 8) (hi : am_is (am_at h a) 7 = true) : am_ev (d + 1) 223 772 ls (.int v0 :: .ref a :: st) h = am_bk (d + 1) 223 775 ls st (am_cal (d + 1) 107 [.ref a, .int v0] h) := x_inv (q := mt_107) (show am_code 223 772 = some (.invokevirtual 107, 3) by decide +kernel) (Or.inl ⟨rfl, rfl⟩) mt_107_at rfl rfl rfl hw (Nat.le_of_ble_eq_true rfl) (fun _ => ⟨_, _, rfl, Or.inr hi⟩) rfl
theorem e_223_775 {d : Nat} {x0 x1 x3 : Option Value} {v : Nat} {st : List Value} {h : am_H} : am_ev d 223 775 [x0, x1, some (.ref v), x3] st h = am_ev d 223 776 [x0, x1, some (.ref v), x3] (.ref v :: st) h := x_aload (show am_code 223 775 = some (.aload 2, 1) by decide +kernel) rfl rfl
theorem e_223_776 {d : Nat} {x1 x2 x3 : Option Value} {v : Nat} {st : List Value} {h : am_H} : am_ev d 223 776 [some (.ref v), x1, x2, x3] st h = am_ev d 223 777 [some (.ref v), x1, x2, x3] (.ref v :: st) h := x_aload (show am_code 223 776 = some (.aload 0, 1) by decide +kernel) rfl rfl
theorem e_223_777 {d : Nat} {x0 x1 x2 : Option Value} {v : Int32} {st : List Value} {h : am_H} : am_ev d 223 777 [x0, x1, x2, some (.int v)] st h = am_ev d 223 778 [x0, x1, x2, some (.int v)] (.int v :: st) h := x_iload (show am_code 223 777 = some (.iload 3, 1) by decide +kernel) rfl rfl
theorem e_223_778 {d : Nat} {ls : am_L} {st : List Value} {h : am_H} : am_ev d 223 778 ls st h = am_ev d 223 779 ls (.int 1 :: st) h := x_iconst (show am_code 223 778 = some (.iconst 1, 1) by decide +kernel) (by decide +kernel) rfl
theorem e_223_779 {d : Nat} {ls : am_L} {st : List Value} {h : am_H} {x y : Int32} : am_ev d 223 779 ls (.int y :: .int x :: st) h = am_ev d 223 780 ls (.int (x + y) :: st) h := x_iadd (show am_code 223 779 = some (.iadd, 1) by decide +kernel) rfl
theorem e_223_780 {d : Nat} {ls : am_L} {st : List Value} {h : am_H} {a : Nat} {i : Int32} : am_ev d 223 780 ls (.int i :: .ref a :: st) h = am_ak (am_at h a) 0 10 i (fun v => am_ev d 223 781 ls (.int v :: st) h) := x_iald (show am_code 223 780 = some (.iaload, 1) by decide +kernel) rfl
theorem e_223_781 {d : Nat} {ls : am_L} {st : List Value} {h : am_H} {a : Nat} {v0 : Int32} (hw : am_wd st ≤ 8) (hi : am_is (am_at h a) 8 = true) : am_ev (d + 1) 223 781 ls (.int v0 :: .ref a :: st) h = am_bk (d + 1) 223 784 ls st (am_cal (d + 1) 196 [.ref a, .int v0] h) := x_inv (q := mt_196) (show am_code 223 781 = some (.invokevirtual 196, 3) by decide +kernel) (Or.inl ⟨rfl, rfl⟩) mt_196_at rfl rfl rfl hw (Nat.le_of_ble_eq_true rfl) (fun _ => ⟨_, _, rfl, Or.inr hi⟩) rfl
theorem e_223_784 {d : Nat} {ls : am_L} {st : List Value} {h : am_H} {x y : Int32} : am_ev d 223 784 ls (.int y :: .int x :: st) h = if x = y then am_ev d 223 1176 ls st h else am_ev d 223 787 ls st h := x_icmp inferInstance (show am_code 223 784 = some (.if_icmp .eq 1176, 3) by decide +kernel) rfl rfl (xc_eq _ _)
theorem e_223_787 {d : Nat} {ls : am_L} {st : List Value} {h : am_H} : am_ev d 223 787 ls st h = am_ev d 223 788 ls (.int 0 :: st) h := x_iconst (show am_code 223 787 = some (.iconst 0, 1) by decide +kernel) (by decide +kernel) rfl
theorem e_223_788 {d : Nat} {ls : am_L} {h : am_H} {v : Int32} (hb : v &&& 1 = v) : am_ev d 223 788 ls [.int v] h = some (some (.int v), h) := x_ret (q := mt_223) (show am_code 223 788 = some (.ireturn, 1) by decide +kernel) mt_223_at rfl (am_n_bool hb)
theorem e_223_789 {d : Nat} {x0 x2 x3 : Option Value} {v : Nat} {st : List Value} {h : am_H} : am_ev d 223 789 [x0, some (.ref v), x2, x3] st h = am_ev d 223 790 [x0, some (.ref v), x2, x3] (.ref v :: st) h := x_aload (show am_code 223 789 = some (.aload 1, 1) by decide +kernel) rfl rfl
theorem e_223_790 {d : Nat} {x1 x2 x3 : Option Value} {v : Nat} {st : List Value} {h : am_H} : am_ev d 223 790 [some (.ref v), x1, x2, x3] st h = am_ev d 223 791 [some (.ref v), x1, x2, x3] (.ref v :: st) h := x_aload (show am_code 223 790 = some (.aload 0, 1) by decide +kernel) rfl rfl
theorem e_223_791 {d : Nat} {x0 x1 x2 : Option Value} {v : Int32} {st : List Value} {h : am_H} : am_ev d 223 791 [x0, x1, x2, some (.int v)] st h = am_ev d 223 792 [x0, x1, x2, some (.int v)] (.int v :: st) h := x_iload (show am_code 223 791 = some (.iload 3, 1) by decide +kernel) rfl rfl
theorem e_223_792 {d : Nat} {ls : am_L} {st : List Value} {h : am_H} : am_ev d 223 792 ls st h = am_ev d 223 793 ls (.int 1 :: st) h := x_iconst (show am_code 223 792 = some (.iconst 1, 1) by decide +kernel) (by decide +kernel) rfl
theorem e_223_793 {d : Nat} {ls : am_L} {st : List Value} {h : am_H} {x y : Int32} : am_ev d 223 793 ls (.int y :: .int x :: st) h = am_ev d 223 794 ls (.int (x + y) :: st) h := x_iadd (show am_code 223 793 = some (.iadd, 1) by decide +kernel) rfl
theorem e_223_794 {d : Nat} {ls : am_L} {st : List Value} {h : am_H} {a : Nat} {i : Int32} : am_ev d 223 794 ls (.int i :: .ref a :: st) h = am_ak (am_at h a) 0 10 i (fun v => am_ev d 223 795 ls (.int v :: st) h) := x_iald (show am_code 223 794 = some (.iaload, 1) by decide +kernel) rfl
theorem e_223_795 {d : Nat} {x1 x2 x3 : Option Value} {v : Nat} {st : List Value} {h : am_H} : am_ev d 223 795 [some (.ref v), x1, x2, x3] st h = am_ev d 223 796 [some (.ref v), x1, x2, x3] (.ref v :: st) h := x_aload (show am_code 223 795 = some (.aload 0, 1) by decide +kernel) rfl rfl
theorem e_223_796 {d : Nat} {x0 x1 x2 : Option Value} {v : Int32} {st : List Value} {h : am_H} : am_ev d 223 796 [x0, x1, x2, some (.int v)] st h = am_ev d 223 797 [x0, x1, x2, some (.int v)] (.int v :: st) h := x_iload (show am_code 223 796 = some (.iload 3, 1) by decide +kernel) rfl rfl
theorem e_223_797 {d : Nat} {ls : am_L} {st : List Value} {h : am_H} : am_ev d 223 797 ls st h = am_ev d 223 798 ls (.int 2 :: st) h := x_iconst (show am_code 223 797 = some (.iconst 2, 1) by decide +kernel) (by decide +kernel) rfl
theorem e_223_798 {d : Nat} {ls : am_L} {st : List Value} {h : am_H} {x y : Int32} : am_ev d 223 798 ls (.int y :: .int x :: st) h = am_ev d 223 799 ls (.int (x + y) :: st) h := x_iadd (show am_code 223 798 = some (.iadd, 1) by decide +kernel) rfl
theorem e_223_799 {d : Nat} {ls : am_L} {st : List Value} {h : am_H} {a : Nat} {i : Int32} : am_ev d 223 799 ls (.int i :: .ref a :: st) h = am_ak (am_at h a) 0 10 i (fun v => am_ev d 223 800 ls (.int v :: st) h) := x_iald (show am_code 223 799 = some (.iaload, 1) by decide +kernel) rfl
theorem e_223_800 {d : Nat} {x1 x2 x3 : Option Value} {v : Nat} {st : List Value} {h : am_H} : am_ev d 223 800 [some (.ref v), x1, x2, x3] st h = am_ev d 223 801 [some (.ref v), x1, x2, x3] (.ref v :: st) h := x_aload (show am_code 223 800 = some (.aload 0, 1) by decide +kernel) rfl rfl
theorem e_223_801 {d : Nat} {x0 x1 x2 : Option Value} {v : Int32} {st : List Value} {h : am_H} : am_ev d 223 801 [x0, x1, x2, some (.int v)] st h = am_ev d 223 802 [x0, x1, x2, some (.int v)] (.int v :: st) h := x_iload (show am_code 223 801 = some (.iload 3, 1) by decide +kernel) rfl rfl
theorem e_223_802 {d : Nat} {ls : am_L} {st : List Value} {h : am_H} : am_ev d 223 802 ls st h = am_ev d 223 803 ls (.int 3 :: st) h := x_iconst (show am_code 223 802 = some (.iconst 3, 1) by decide +kernel) (by decide +kernel) rfl
theorem e_223_803 {d : Nat} {ls : am_L} {st : List Value} {h : am_H} {x y : Int32} : am_ev d 223 803 ls (.int y :: .int x :: st) h = am_ev d 223 804 ls (.int (x + y) :: st) h := x_iadd (show am_code 223 803 = some (.iadd, 1) by decide +kernel) rfl
theorem e_223_804 {d : Nat} {ls : am_L} {st : List Value} {h : am_H} {a : Nat} {i : Int32} : am_ev d 223 804 ls (.int i :: .ref a :: st) h = am_ak (am_at h a) 0 10 i (fun v => am_ev d 223 805 ls (.int v :: st) h) := x_iald (show am_code 223 804 = some (.iaload, 1) by decide +kernel) rfl
theorem e_223_805 {d : Nat} {x1 x2 x3 : Option Value} {v : Nat} {st : List Value} {h : am_H} : am_ev d 223 805 [some (.ref v), x1, x2, x3] st h = am_ev d 223 806 [some (.ref v), x1, x2, x3] (.ref v :: st) h := x_aload (show am_code 223 805 = some (.aload 0, 1) by decide +kernel) rfl rfl
theorem e_223_806 {d : Nat} {x0 x1 x2 : Option Value} {v : Int32} {st : List Value} {h : am_H} : am_ev d 223 806 [x0, x1, x2, some (.int v)] st h = am_ev d 223 807 [x0, x1, x2, some (.int v)] (.int v :: st) h := x_iload (show am_code 223 806 = some (.iload 3, 1) by decide +kernel) rfl rfl
theorem e_223_807 {d : Nat} {ls : am_L} {st : List Value} {h : am_H} : am_ev d 223 807 ls st h = am_ev d 223 808 ls (.int 4 :: st) h := x_iconst (show am_code 223 807 = some (.iconst 4, 1) by decide +kernel) (by decide +kernel) rfl
theorem e_223_808 {d : Nat} {ls : am_L} {st : List Value} {h : am_H} {x y : Int32} : am_ev d 223 808 ls (.int y :: .int x :: st) h = am_ev d 223 809 ls (.int (x + y) :: st) h := x_iadd (show am_code 223 808 = some (.iadd, 1) by decide +kernel) rfl
theorem e_223_809 {d : Nat} {ls : am_L} {st : List Value} {h : am_H} {a : Nat} {i : Int32} : am_ev d 223 809 ls (.int i :: .ref a :: st) h = am_ak (am_at h a) 0 10 i (fun v => am_ev d 223 810 ls (.int v :: st) h) := x_iald (show am_code 223 809 = some (.iaload, 1) by decide +kernel) rfl
theorem e_223_810 {d : Nat} {ls : am_L} {st : List Value} {h : am_H} {a : Nat} {v0 : Int32} {v1 : Int32} {v2 : Int32} {v3 : Int32} (hw : am_wd st ≤ 8) (hi : am_is (am_at h a) 7 = true) : am_ev (d + 1) 223 810 ls (.int v3 :: .int v2 :: .int v1 :: .int v0 :: .ref a :: st) h = am_bk (d + 1) 223 813 ls st (am_cal (d + 1) 108 [.ref a, .int v0, .int v1, .int v2, .int v3] h) := x_inv (q := mt_108) (show am_code 223 810 = some (.invokevirtual 108, 3) by decide +kernel) (Or.inl ⟨rfl, rfl⟩) mt_108_at rfl rfl rfl hw (Nat.le_of_ble_eq_true rfl) (fun _ => ⟨_, _, rfl, Or.inr hi⟩) rfl
theorem e_223_813 {d : Nat} {x0 x1 x3 : Option Value} {v : Nat} {st : List Value} {h : am_H} : am_ev d 223 813 [x0, x1, some (.ref v), x3] st h = am_ev d 223 814 [x0, x1, some (.ref v), x3] (.ref v :: st) h := x_aload (show am_code 223 813 = some (.aload 2, 1) by decide +kernel) rfl rfl
theorem e_223_814 {d : Nat} {x1 x2 x3 : Option Value} {v : Nat} {st : List Value} {h : am_H} : am_ev d 223 814 [some (.ref v), x1, x2, x3] st h = am_ev d 223 815 [some (.ref v), x1, x2, x3] (.ref v :: st) h := x_aload (show am_code 223 814 = some (.aload 0, 1) by decide +kernel) rfl rfl
theorem e_223_815 {d : Nat} {x0 x1 x2 : Option Value} {v : Int32} {st : List Value} {h : am_H} : am_ev d 223 815 [x0, x1, x2, some (.int v)] st h = am_ev d 223 816 [x0, x1, x2, some (.int v)] (.int v :: st) h := x_iload (show am_code 223 815 = some (.iload 3, 1) by decide +kernel) rfl rfl
theorem e_223_816 {d : Nat} {ls : am_L} {st : List Value} {h : am_H} : am_ev d 223 816 ls st h = am_ev d 223 817 ls (.int 1 :: st) h := x_iconst (show am_code 223 816 = some (.iconst 1, 1) by decide +kernel) (by decide +kernel) rfl
theorem e_223_817 {d : Nat} {ls : am_L} {st : List Value} {h : am_H} {x y : Int32} : am_ev d 223 817 ls (.int y :: .int x :: st) h = am_ev d 223 818 ls (.int (x + y) :: st) h := x_iadd (show am_code 223 817 = some (.iadd, 1) by decide +kernel) rfl
theorem e_223_818 {d : Nat} {ls : am_L} {st : List Value} {h : am_H} {a : Nat} {i : Int32} : am_ev d 223 818 ls (.int i :: .ref a :: st) h = am_ak (am_at h a) 0 10 i (fun v => am_ev d 223 819 ls (.int v :: st) h) := x_iald (show am_code 223 818 = some (.iaload, 1) by decide +kernel) rfl
theorem e_223_819 {d : Nat} {x1 x2 x3 : Option Value} {v : Nat} {st : List Value} {h : am_H} : am_ev d 223 819 [some (.ref v), x1, x2, x3] st h = am_ev d 223 820 [some (.ref v), x1, x2, x3] (.ref v :: st) h := x_aload (show am_code 223 819 = some (.aload 0, 1) by decide +kernel) rfl rfl
theorem e_223_820 {d : Nat} {x0 x1 x2 : Option Value} {v : Int32} {st : List Value} {h : am_H} : am_ev d 223 820 [x0, x1, x2, some (.int v)] st h = am_ev d 223 821 [x0, x1, x2, some (.int v)] (.int v :: st) h := x_iload (show am_code 223 820 = some (.iload 3, 1) by decide +kernel) rfl rfl
theorem e_223_821 {d : Nat} {ls : am_L} {st : List Value} {h : am_H} : am_ev d 223 821 ls st h = am_ev d 223 822 ls (.int 2 :: st) h := x_iconst (show am_code 223 821 = some (.iconst 2, 1) by decide +kernel) (by decide +kernel) rfl
theorem e_223_822 {d : Nat} {ls : am_L} {st : List Value} {h : am_H} {x y : Int32} : am_ev d 223 822 ls (.int y :: .int x :: st) h = am_ev d 223 823 ls (.int (x + y) :: st) h := x_iadd (show am_code 223 822 = some (.iadd, 1) by decide +kernel) rfl
theorem e_223_823 {d : Nat} {ls : am_L} {st : List Value} {h : am_H} {a : Nat} {i : Int32} : am_ev d 223 823 ls (.int i :: .ref a :: st) h = am_ak (am_at h a) 0 10 i (fun v => am_ev d 223 824 ls (.int v :: st) h) := x_iald (show am_code 223 823 = some (.iaload, 1) by decide +kernel) rfl
theorem e_223_824 {d : Nat} {x1 x2 x3 : Option Value} {v : Nat} {st : List Value} {h : am_H} : am_ev d 223 824 [some (.ref v), x1, x2, x3] st h = am_ev d 223 825 [some (.ref v), x1, x2, x3] (.ref v :: st) h := x_aload (show am_code 223 824 = some (.aload 0, 1) by decide +kernel) rfl rfl
theorem e_223_825 {d : Nat} {x0 x1 x2 : Option Value} {v : Int32} {st : List Value} {h : am_H} : am_ev d 223 825 [x0, x1, x2, some (.int v)] st h = am_ev d 223 826 [x0, x1, x2, some (.int v)] (.int v :: st) h := x_iload (show am_code 223 825 = some (.iload 3, 1) by decide +kernel) rfl rfl
theorem e_223_826 {d : Nat} {ls : am_L} {st : List Value} {h : am_H} : am_ev d 223 826 ls st h = am_ev d 223 827 ls (.int 3 :: st) h := x_iconst (show am_code 223 826 = some (.iconst 3, 1) by decide +kernel) (by decide +kernel) rfl
theorem e_223_827 {d : Nat} {ls : am_L} {st : List Value} {h : am_H} {x y : Int32} : am_ev d 223 827 ls (.int y :: .int x :: st) h = am_ev d 223 828 ls (.int (x + y) :: st) h := x_iadd (show am_code 223 827 = some (.iadd, 1) by decide +kernel) rfl
theorem e_223_828 {d : Nat} {ls : am_L} {st : List Value} {h : am_H} {a : Nat} {i : Int32} : am_ev d 223 828 ls (.int i :: .ref a :: st) h = am_ak (am_at h a) 0 10 i (fun v => am_ev d 223 829 ls (.int v :: st) h) := x_iald (show am_code 223 828 = some (.iaload, 1) by decide +kernel) rfl
theorem e_223_829 {d : Nat} {x1 x2 x3 : Option Value} {v : Nat} {st : List Value} {h : am_H} : am_ev d 223 829 [some (.ref v), x1, x2, x3] st h = am_ev d 223 830 [some (.ref v), x1, x2, x3] (.ref v :: st) h := x_aload (show am_code 223 829 = some (.aload 0, 1) by decide +kernel) rfl rfl
theorem e_223_830 {d : Nat} {x0 x1 x2 : Option Value} {v : Int32} {st : List Value} {h : am_H} : am_ev d 223 830 [x0, x1, x2, some (.int v)] st h = am_ev d 223 831 [x0, x1, x2, some (.int v)] (.int v :: st) h := x_iload (show am_code 223 830 = some (.iload 3, 1) by decide +kernel) rfl rfl
theorem e_223_831 {d : Nat} {ls : am_L} {st : List Value} {h : am_H} : am_ev d 223 831 ls st h = am_ev d 223 832 ls (.int 4 :: st) h := x_iconst (show am_code 223 831 = some (.iconst 4, 1) by decide +kernel) (by decide +kernel) rfl
theorem e_223_832 {d : Nat} {ls : am_L} {st : List Value} {h : am_H} {x y : Int32} : am_ev d 223 832 ls (.int y :: .int x :: st) h = am_ev d 223 833 ls (.int (x + y) :: st) h := x_iadd (show am_code 223 832 = some (.iadd, 1) by decide +kernel) rfl
theorem e_223_833 {d : Nat} {ls : am_L} {st : List Value} {h : am_H} {a : Nat} {i : Int32} : am_ev d 223 833 ls (.int i :: .ref a :: st) h = am_ak (am_at h a) 0 10 i (fun v => am_ev d 223 834 ls (.int v :: st) h) := x_iald (show am_code 223 833 = some (.iaload, 1) by decide +kernel) rfl
theorem e_223_834 {d : Nat} {ls : am_L} {st : List Value} {h : am_H} {a : Nat} {v0 : Int32} {v1 : Int32} {v2 : Int32} {v3 : Int32} (hw : am_wd st ≤ 8) (hi : am_is (am_at h a) 8 = true) : am_ev (d + 1) 223 834 ls (.int v3 :: .int v2 :: .int v1 :: .int v0 :: .ref a :: st) h = am_bk (d + 1) 223 837 ls st (am_cal (d + 1) 199 [.ref a, .int v0, .int v1, .int v2, .int v3] h) := x_inv (q := mt_199) (show am_code 223 834 = some (.invokevirtual 199, 3) by decide +kernel) (Or.inl ⟨rfl, rfl⟩) mt_199_at rfl rfl rfl hw (Nat.le_of_ble_eq_true rfl) (fun _ => ⟨_, _, rfl, Or.inr hi⟩) rfl
theorem e_223_837 {d : Nat} {ls : am_L} {st : List Value} {h : am_H} {x y : Int32} : am_ev d 223 837 ls (.int y :: .int x :: st) h = if x = y then am_ev d 223 1176 ls st h else am_ev d 223 840 ls st h := x_icmp inferInstance (show am_code 223 837 = some (.if_icmp .eq 1176, 3) by decide +kernel) rfl rfl (xc_eq _ _)
theorem e_223_840 {d : Nat} {ls : am_L} {st : List Value} {h : am_H} : am_ev d 223 840 ls st h = am_ev d 223 841 ls (.int 0 :: st) h := x_iconst (show am_code 223 840 = some (.iconst 0, 1) by decide +kernel) (by decide +kernel) rfl
theorem e_223_841 {d : Nat} {ls : am_L} {h : am_H} {v : Int32} (hb : v &&& 1 = v) : am_ev d 223 841 ls [.int v] h = some (some (.int v), h) := x_ret (q := mt_223) (show am_code 223 841 = some (.ireturn, 1) by decide +kernel) mt_223_at rfl (am_n_bool hb)
theorem e_223_842 {d : Nat} {x0 x2 x3 : Option Value} {v : Nat} {st : List Value} {h : am_H} : am_ev d 223 842 [x0, some (.ref v), x2, x3] st h = am_ev d 223 843 [x0, some (.ref v), x2, x3] (.ref v :: st) h := x_aload (show am_code 223 842 = some (.aload 1, 1) by decide +kernel) rfl rfl
theorem e_223_843 {d : Nat} {x1 x2 x3 : Option Value} {v : Nat} {st : List Value} {h : am_H} : am_ev d 223 843 [some (.ref v), x1, x2, x3] st h = am_ev d 223 844 [some (.ref v), x1, x2, x3] (.ref v :: st) h := x_aload (show am_code 223 843 = some (.aload 0, 1) by decide +kernel) rfl rfl
theorem e_223_844 {d : Nat} {x0 x1 x2 : Option Value} {v : Int32} {st : List Value} {h : am_H} : am_ev d 223 844 [x0, x1, x2, some (.int v)] st h = am_ev d 223 845 [x0, x1, x2, some (.int v)] (.int v :: st) h := x_iload (show am_code 223 844 = some (.iload 3, 1) by decide +kernel) rfl rfl
theorem e_223_845 {d : Nat} {ls : am_L} {st : List Value} {h : am_H} : am_ev d 223 845 ls st h = am_ev d 223 846 ls (.int 1 :: st) h := x_iconst (show am_code 223 845 = some (.iconst 1, 1) by decide +kernel) (by decide +kernel) rfl
theorem e_223_846 {d : Nat} {ls : am_L} {st : List Value} {h : am_H} {x y : Int32} : am_ev d 223 846 ls (.int y :: .int x :: st) h = am_ev d 223 847 ls (.int (x + y) :: st) h := x_iadd (show am_code 223 846 = some (.iadd, 1) by decide +kernel) rfl
theorem e_223_847 {d : Nat} {ls : am_L} {st : List Value} {h : am_H} {a : Nat} {i : Int32} : am_ev d 223 847 ls (.int i :: .ref a :: st) h = am_ak (am_at h a) 0 10 i (fun v => am_ev d 223 848 ls (.int v :: st) h) := x_iald (show am_code 223 847 = some (.iaload, 1) by decide +kernel) rfl
theorem e_223_848 {d : Nat} {x1 x2 x3 : Option Value} {v : Nat} {st : List Value} {h : am_H} : am_ev d 223 848 [some (.ref v), x1, x2, x3] st h = am_ev d 223 849 [some (.ref v), x1, x2, x3] (.ref v :: st) h := x_aload (show am_code 223 848 = some (.aload 0, 1) by decide +kernel) rfl rfl
theorem e_223_849 {d : Nat} {x0 x1 x2 : Option Value} {v : Int32} {st : List Value} {h : am_H} : am_ev d 223 849 [x0, x1, x2, some (.int v)] st h = am_ev d 223 850 [x0, x1, x2, some (.int v)] (.int v :: st) h := x_iload (show am_code 223 849 = some (.iload 3, 1) by decide +kernel) rfl rfl
theorem e_223_850 {d : Nat} {ls : am_L} {st : List Value} {h : am_H} : am_ev d 223 850 ls st h = am_ev d 223 851 ls (.int 2 :: st) h := x_iconst (show am_code 223 850 = some (.iconst 2, 1) by decide +kernel) (by decide +kernel) rfl
theorem e_223_851 {d : Nat} {ls : am_L} {st : List Value} {h : am_H} {x y : Int32} : am_ev d 223 851 ls (.int y :: .int x :: st) h = am_ev d 223 852 ls (.int (x + y) :: st) h := x_iadd (show am_code 223 851 = some (.iadd, 1) by decide +kernel) rfl
theorem e_223_852 {d : Nat} {ls : am_L} {st : List Value} {h : am_H} {a : Nat} {i : Int32} : am_ev d 223 852 ls (.int i :: .ref a :: st) h = am_ak (am_at h a) 0 10 i (fun v => am_ev d 223 853 ls (.int v :: st) h) := x_iald (show am_code 223 852 = some (.iaload, 1) by decide +kernel) rfl
theorem e_223_853 {d : Nat} {x1 x2 x3 : Option Value} {v : Nat} {st : List Value} {h : am_H} : am_ev d 223 853 [some (.ref v), x1, x2, x3] st h = am_ev d 223 854 [some (.ref v), x1, x2, x3] (.ref v :: st) h := x_aload (show am_code 223 853 = some (.aload 0, 1) by decide +kernel) rfl rfl
theorem e_223_854 {d : Nat} {x0 x1 x2 : Option Value} {v : Int32} {st : List Value} {h : am_H} : am_ev d 223 854 [x0, x1, x2, some (.int v)] st h = am_ev d 223 855 [x0, x1, x2, some (.int v)] (.int v :: st) h := x_iload (show am_code 223 854 = some (.iload 3, 1) by decide +kernel) rfl rfl
theorem e_223_855 {d : Nat} {ls : am_L} {st : List Value} {h : am_H} : am_ev d 223 855 ls st h = am_ev d 223 856 ls (.int 3 :: st) h := x_iconst (show am_code 223 855 = some (.iconst 3, 1) by decide +kernel) (by decide +kernel) rfl
theorem e_223_856 {d : Nat} {ls : am_L} {st : List Value} {h : am_H} {x y : Int32} : am_ev d 223 856 ls (.int y :: .int x :: st) h = am_ev d 223 857 ls (.int (x + y) :: st) h := x_iadd (show am_code 223 856 = some (.iadd, 1) by decide +kernel) rfl
theorem e_223_857 {d : Nat} {ls : am_L} {st : List Value} {h : am_H} {a : Nat} {i : Int32} : am_ev d 223 857 ls (.int i :: .ref a :: st) h = am_ak (am_at h a) 0 10 i (fun v => am_ev d 223 858 ls (.int v :: st) h) := x_iald (show am_code 223 857 = some (.iaload, 1) by decide +kernel) rfl
theorem e_223_858 {d : Nat} {ls : am_L} {st : List Value} {h : am_H} {a : Nat} {v0 : Int32} {v1 : Int32} {v2 : Int32} (hw : am_wd st ≤ 8) (hi : am_is (am_at h a) 7 = true) : am_ev (d + 1) 223 858 ls (.int v2 :: .int v1 :: .int v0 :: .ref a :: st) h = am_bk (d + 1) 223 861 ls st (am_cal (d + 1) 109 [.ref a, .int v0, .int v1, .int v2] h) := x_inv (q := mt_109) (show am_code 223 858 = some (.invokevirtual 109, 3) by decide +kernel) (Or.inl ⟨rfl, rfl⟩) mt_109_at rfl rfl rfl hw (Nat.le_of_ble_eq_true rfl) (fun _ => ⟨_, _, rfl, Or.inr hi⟩) rfl
theorem e_223_861 {d : Nat} {x0 x1 x3 : Option Value} {v : Nat} {st : List Value} {h : am_H} : am_ev d 223 861 [x0, x1, some (.ref v), x3] st h = am_ev d 223 862 [x0, x1, some (.ref v), x3] (.ref v :: st) h := x_aload (show am_code 223 861 = some (.aload 2, 1) by decide +kernel) rfl rfl
theorem e_223_862 {d : Nat} {x1 x2 x3 : Option Value} {v : Nat} {st : List Value} {h : am_H} : am_ev d 223 862 [some (.ref v), x1, x2, x3] st h = am_ev d 223 863 [some (.ref v), x1, x2, x3] (.ref v :: st) h := x_aload (show am_code 223 862 = some (.aload 0, 1) by decide +kernel) rfl rfl
theorem e_223_863 {d : Nat} {x0 x1 x2 : Option Value} {v : Int32} {st : List Value} {h : am_H} : am_ev d 223 863 [x0, x1, x2, some (.int v)] st h = am_ev d 223 864 [x0, x1, x2, some (.int v)] (.int v :: st) h := x_iload (show am_code 223 863 = some (.iload 3, 1) by decide +kernel) rfl rfl
theorem e_223_864 {d : Nat} {ls : am_L} {st : List Value} {h : am_H} : am_ev d 223 864 ls st h = am_ev d 223 865 ls (.int 1 :: st) h := x_iconst (show am_code 223 864 = some (.iconst 1, 1) by decide +kernel) (by decide +kernel) rfl
theorem e_223_865 {d : Nat} {ls : am_L} {st : List Value} {h : am_H} {x y : Int32} : am_ev d 223 865 ls (.int y :: .int x :: st) h = am_ev d 223 866 ls (.int (x + y) :: st) h := x_iadd (show am_code 223 865 = some (.iadd, 1) by decide +kernel) rfl
theorem e_223_866 {d : Nat} {ls : am_L} {st : List Value} {h : am_H} {a : Nat} {i : Int32} : am_ev d 223 866 ls (.int i :: .ref a :: st) h = am_ak (am_at h a) 0 10 i (fun v => am_ev d 223 867 ls (.int v :: st) h) := x_iald (show am_code 223 866 = some (.iaload, 1) by decide +kernel) rfl
theorem e_223_867 {d : Nat} {x1 x2 x3 : Option Value} {v : Nat} {st : List Value} {h : am_H} : am_ev d 223 867 [some (.ref v), x1, x2, x3] st h = am_ev d 223 868 [some (.ref v), x1, x2, x3] (.ref v :: st) h := x_aload (show am_code 223 867 = some (.aload 0, 1) by decide +kernel) rfl rfl
theorem e_223_868 {d : Nat} {x0 x1 x2 : Option Value} {v : Int32} {st : List Value} {h : am_H} : am_ev d 223 868 [x0, x1, x2, some (.int v)] st h = am_ev d 223 869 [x0, x1, x2, some (.int v)] (.int v :: st) h := x_iload (show am_code 223 868 = some (.iload 3, 1) by decide +kernel) rfl rfl
theorem e_223_869 {d : Nat} {ls : am_L} {st : List Value} {h : am_H} : am_ev d 223 869 ls st h = am_ev d 223 870 ls (.int 2 :: st) h := x_iconst (show am_code 223 869 = some (.iconst 2, 1) by decide +kernel) (by decide +kernel) rfl
theorem e_223_870 {d : Nat} {ls : am_L} {st : List Value} {h : am_H} {x y : Int32} : am_ev d 223 870 ls (.int y :: .int x :: st) h = am_ev d 223 871 ls (.int (x + y) :: st) h := x_iadd (show am_code 223 870 = some (.iadd, 1) by decide +kernel) rfl
theorem e_223_871 {d : Nat} {ls : am_L} {st : List Value} {h : am_H} {a : Nat} {i : Int32} : am_ev d 223 871 ls (.int i :: .ref a :: st) h = am_ak (am_at h a) 0 10 i (fun v => am_ev d 223 872 ls (.int v :: st) h) := x_iald (show am_code 223 871 = some (.iaload, 1) by decide +kernel) rfl
theorem e_223_872 {d : Nat} {x1 x2 x3 : Option Value} {v : Nat} {st : List Value} {h : am_H} : am_ev d 223 872 [some (.ref v), x1, x2, x3] st h = am_ev d 223 873 [some (.ref v), x1, x2, x3] (.ref v :: st) h := x_aload (show am_code 223 872 = some (.aload 0, 1) by decide +kernel) rfl rfl
theorem e_223_873 {d : Nat} {x0 x1 x2 : Option Value} {v : Int32} {st : List Value} {h : am_H} : am_ev d 223 873 [x0, x1, x2, some (.int v)] st h = am_ev d 223 874 [x0, x1, x2, some (.int v)] (.int v :: st) h := x_iload (show am_code 223 873 = some (.iload 3, 1) by decide +kernel) rfl rfl
theorem e_223_874 {d : Nat} {ls : am_L} {st : List Value} {h : am_H} : am_ev d 223 874 ls st h = am_ev d 223 875 ls (.int 3 :: st) h := x_iconst (show am_code 223 874 = some (.iconst 3, 1) by decide +kernel) (by decide +kernel) rfl
theorem e_223_875 {d : Nat} {ls : am_L} {st : List Value} {h : am_H} {x y : Int32} : am_ev d 223 875 ls (.int y :: .int x :: st) h = am_ev d 223 876 ls (.int (x + y) :: st) h := x_iadd (show am_code 223 875 = some (.iadd, 1) by decide +kernel) rfl
theorem e_223_876 {d : Nat} {ls : am_L} {st : List Value} {h : am_H} {a : Nat} {i : Int32} : am_ev d 223 876 ls (.int i :: .ref a :: st) h = am_ak (am_at h a) 0 10 i (fun v => am_ev d 223 877 ls (.int v :: st) h) := x_iald (show am_code 223 876 = some (.iaload, 1) by decide +kernel) rfl
theorem e_223_877 {d : Nat} {ls : am_L} {st : List Value} {h : am_H} {a : Nat} {v0 : Int32} {v1 : Int32} {v2 : Int32} (hw : am_wd st ≤ 8) (hi : am_is (am_at h a) 8 = true) : am_ev (d + 1) 223 877 ls (.int v2 :: .int v1 :: .int v0 :: .ref a :: st) h = am_bk (d + 1) 223 880 ls st (am_cal (d + 1) 200 [.ref a, .int v0, .int v1, .int v2] h) := x_inv (q := mt_200) (show am_code 223 877 = some (.invokevirtual 200, 3) by decide +kernel) (Or.inl ⟨rfl, rfl⟩) mt_200_at rfl rfl rfl hw (Nat.le_of_ble_eq_true rfl) (fun _ => ⟨_, _, rfl, Or.inr hi⟩) rfl
theorem e_223_880 {d : Nat} {ls : am_L} {st : List Value} {h : am_H} {x y : Int32} : am_ev d 223 880 ls (.int y :: .int x :: st) h = if x = y then am_ev d 223 1176 ls st h else am_ev d 223 883 ls st h := x_icmp inferInstance (show am_code 223 880 = some (.if_icmp .eq 1176, 3) by decide +kernel) rfl rfl (xc_eq _ _)
theorem e_223_883 {d : Nat} {ls : am_L} {st : List Value} {h : am_H} : am_ev d 223 883 ls st h = am_ev d 223 884 ls (.int 0 :: st) h := x_iconst (show am_code 223 883 = some (.iconst 0, 1) by decide +kernel) (by decide +kernel) rfl
theorem e_223_884 {d : Nat} {ls : am_L} {h : am_H} {v : Int32} (hb : v &&& 1 = v) : am_ev d 223 884 ls [.int v] h = some (some (.int v), h) := x_ret (q := mt_223) (show am_code 223 884 = some (.ireturn, 1) by decide +kernel) mt_223_at rfl (am_n_bool hb)
theorem e_223_885 {d : Nat} {x0 x2 x3 : Option Value} {v : Nat} {st : List Value} {h : am_H} : am_ev d 223 885 [x0, some (.ref v), x2, x3] st h = am_ev d 223 886 [x0, some (.ref v), x2, x3] (.ref v :: st) h := x_aload (show am_code 223 885 = some (.aload 1, 1) by decide +kernel) rfl rfl
theorem e_223_886 {d : Nat} {x1 x2 x3 : Option Value} {v : Nat} {st : List Value} {h : am_H} : am_ev d 223 886 [some (.ref v), x1, x2, x3] st h = am_ev d 223 887 [some (.ref v), x1, x2, x3] (.ref v :: st) h := x_aload (show am_code 223 886 = some (.aload 0, 1) by decide +kernel) rfl rfl
theorem e_223_887 {d : Nat} {x0 x1 x2 : Option Value} {v : Int32} {st : List Value} {h : am_H} : am_ev d 223 887 [x0, x1, x2, some (.int v)] st h = am_ev d 223 888 [x0, x1, x2, some (.int v)] (.int v :: st) h := x_iload (show am_code 223 887 = some (.iload 3, 1) by decide +kernel) rfl rfl
theorem e_223_888 {d : Nat} {ls : am_L} {st : List Value} {h : am_H} : am_ev d 223 888 ls st h = am_ev d 223 889 ls (.int 1 :: st) h := x_iconst (show am_code 223 888 = some (.iconst 1, 1) by decide +kernel) (by decide +kernel) rfl
theorem e_223_889 {d : Nat} {ls : am_L} {st : List Value} {h : am_H} {x y : Int32} : am_ev d 223 889 ls (.int y :: .int x :: st) h = am_ev d 223 890 ls (.int (x + y) :: st) h := x_iadd (show am_code 223 889 = some (.iadd, 1) by decide +kernel) rfl
theorem e_223_890 {d : Nat} {ls : am_L} {st : List Value} {h : am_H} {a : Nat} {i : Int32} : am_ev d 223 890 ls (.int i :: .ref a :: st) h = am_ak (am_at h a) 0 10 i (fun v => am_ev d 223 891 ls (.int v :: st) h) := x_iald (show am_code 223 890 = some (.iaload, 1) by decide +kernel) rfl
theorem e_223_891 {d : Nat} {x1 x2 x3 : Option Value} {v : Nat} {st : List Value} {h : am_H} : am_ev d 223 891 [some (.ref v), x1, x2, x3] st h = am_ev d 223 892 [some (.ref v), x1, x2, x3] (.ref v :: st) h := x_aload (show am_code 223 891 = some (.aload 0, 1) by decide +kernel) rfl rfl
theorem e_223_892 {d : Nat} {x0 x1 x2 : Option Value} {v : Int32} {st : List Value} {h : am_H} : am_ev d 223 892 [x0, x1, x2, some (.int v)] st h = am_ev d 223 893 [x0, x1, x2, some (.int v)] (.int v :: st) h := x_iload (show am_code 223 892 = some (.iload 3, 1) by decide +kernel) rfl rfl
theorem e_223_893 {d : Nat} {ls : am_L} {st : List Value} {h : am_H} : am_ev d 223 893 ls st h = am_ev d 223 894 ls (.int 2 :: st) h := x_iconst (show am_code 223 893 = some (.iconst 2, 1) by decide +kernel) (by decide +kernel) rfl
theorem e_223_894 {d : Nat} {ls : am_L} {st : List Value} {h : am_H} {x y : Int32} : am_ev d 223 894 ls (.int y :: .int x :: st) h = am_ev d 223 895 ls (.int (x + y) :: st) h := x_iadd (show am_code 223 894 = some (.iadd, 1) by decide +kernel) rfl
theorem e_223_895 {d : Nat} {ls : am_L} {st : List Value} {h : am_H} {a : Nat} {i : Int32} : am_ev d 223 895 ls (.int i :: .ref a :: st) h = am_ak (am_at h a) 0 10 i (fun v => am_ev d 223 896 ls (.int v :: st) h) := x_iald (show am_code 223 895 = some (.iaload, 1) by decide +kernel) rfl
theorem e_223_896 {d : Nat} {x1 x2 x3 : Option Value} {v : Nat} {st : List Value} {h : am_H} : am_ev d 223 896 [some (.ref v), x1, x2, x3] st h = am_ev d 223 897 [some (.ref v), x1, x2, x3] (.ref v :: st) h := x_aload (show am_code 223 896 = some (.aload 0, 1) by decide +kernel) rfl rfl
theorem e_223_897 {d : Nat} {x0 x1 x2 : Option Value} {v : Int32} {st : List Value} {h : am_H} : am_ev d 223 897 [x0, x1, x2, some (.int v)] st h = am_ev d 223 898 [x0, x1, x2, some (.int v)] (.int v :: st) h := x_iload (show am_code 223 897 = some (.iload 3, 1) by decide +kernel) rfl rfl
theorem e_223_898 {d : Nat} {ls : am_L} {st : List Value} {h : am_H} : am_ev d 223 898 ls st h = am_ev d 223 899 ls (.int 3 :: st) h := x_iconst (show am_code 223 898 = some (.iconst 3, 1) by decide +kernel) (by decide +kernel) rfl
theorem e_223_899 {d : Nat} {ls : am_L} {st : List Value} {h : am_H} {x y : Int32} : am_ev d 223 899 ls (.int y :: .int x :: st) h = am_ev d 223 900 ls (.int (x + y) :: st) h := x_iadd (show am_code 223 899 = some (.iadd, 1) by decide +kernel) rfl
theorem e_223_900 {d : Nat} {ls : am_L} {st : List Value} {h : am_H} {a : Nat} {i : Int32} : am_ev d 223 900 ls (.int i :: .ref a :: st) h = am_ak (am_at h a) 0 10 i (fun v => am_ev d 223 901 ls (.int v :: st) h) := x_iald (show am_code 223 900 = some (.iaload, 1) by decide +kernel) rfl
theorem e_223_901 {d : Nat} {ls : am_L} {st : List Value} {h : am_H} {a : Nat} {v0 : Int32} {v1 : Int32} {v2 : Int32} (hw : am_wd st ≤ 8) (hi : am_is (am_at h a) 7 = true) : am_ev (d + 1) 223 901 ls (.int v2 :: .int v1 :: .int v0 :: .ref a :: st) h = am_bk (d + 1) 223 904 ls st (am_cal (d + 1) 110 [.ref a, .int v0, .int v1, .int v2] h) := x_inv (q := mt_110) (show am_code 223 901 = some (.invokevirtual 110, 3) by decide +kernel) (Or.inl ⟨rfl, rfl⟩) mt_110_at rfl rfl rfl hw (Nat.le_of_ble_eq_true rfl) (fun _ => ⟨_, _, rfl, Or.inr hi⟩) rfl
theorem e_223_904 {d : Nat} {x0 x1 x3 : Option Value} {v : Nat} {st : List Value} {h : am_H} : am_ev d 223 904 [x0, x1, some (.ref v), x3] st h = am_ev d 223 905 [x0, x1, some (.ref v), x3] (.ref v :: st) h := x_aload (show am_code 223 904 = some (.aload 2, 1) by decide +kernel) rfl rfl
theorem e_223_905 {d : Nat} {x1 x2 x3 : Option Value} {v : Nat} {st : List Value} {h : am_H} : am_ev d 223 905 [some (.ref v), x1, x2, x3] st h = am_ev d 223 906 [some (.ref v), x1, x2, x3] (.ref v :: st) h := x_aload (show am_code 223 905 = some (.aload 0, 1) by decide +kernel) rfl rfl
theorem e_223_906 {d : Nat} {x0 x1 x2 : Option Value} {v : Int32} {st : List Value} {h : am_H} : am_ev d 223 906 [x0, x1, x2, some (.int v)] st h = am_ev d 223 907 [x0, x1, x2, some (.int v)] (.int v :: st) h := x_iload (show am_code 223 906 = some (.iload 3, 1) by decide +kernel) rfl rfl
theorem e_223_907 {d : Nat} {ls : am_L} {st : List Value} {h : am_H} : am_ev d 223 907 ls st h = am_ev d 223 908 ls (.int 1 :: st) h := x_iconst (show am_code 223 907 = some (.iconst 1, 1) by decide +kernel) (by decide +kernel) rfl
theorem e_223_908 {d : Nat} {ls : am_L} {st : List Value} {h : am_H} {x y : Int32} : am_ev d 223 908 ls (.int y :: .int x :: st) h = am_ev d 223 909 ls (.int (x + y) :: st) h := x_iadd (show am_code 223 908 = some (.iadd, 1) by decide +kernel) rfl
theorem e_223_909 {d : Nat} {ls : am_L} {st : List Value} {h : am_H} {a : Nat} {i : Int32} : am_ev d 223 909 ls (.int i :: .ref a :: st) h = am_ak (am_at h a) 0 10 i (fun v => am_ev d 223 910 ls (.int v :: st) h) := x_iald (show am_code 223 909 = some (.iaload, 1) by decide +kernel) rfl
theorem e_223_910 {d : Nat} {x1 x2 x3 : Option Value} {v : Nat} {st : List Value} {h : am_H} : am_ev d 223 910 [some (.ref v), x1, x2, x3] st h = am_ev d 223 911 [some (.ref v), x1, x2, x3] (.ref v :: st) h := x_aload (show am_code 223 910 = some (.aload 0, 1) by decide +kernel) rfl rfl
theorem e_223_911 {d : Nat} {x0 x1 x2 : Option Value} {v : Int32} {st : List Value} {h : am_H} : am_ev d 223 911 [x0, x1, x2, some (.int v)] st h = am_ev d 223 912 [x0, x1, x2, some (.int v)] (.int v :: st) h := x_iload (show am_code 223 911 = some (.iload 3, 1) by decide +kernel) rfl rfl
theorem e_223_912 {d : Nat} {ls : am_L} {st : List Value} {h : am_H} : am_ev d 223 912 ls st h = am_ev d 223 913 ls (.int 2 :: st) h := x_iconst (show am_code 223 912 = some (.iconst 2, 1) by decide +kernel) (by decide +kernel) rfl
theorem e_223_913 {d : Nat} {ls : am_L} {st : List Value} {h : am_H} {x y : Int32} : am_ev d 223 913 ls (.int y :: .int x :: st) h = am_ev d 223 914 ls (.int (x + y) :: st) h := x_iadd (show am_code 223 913 = some (.iadd, 1) by decide +kernel) rfl
theorem e_223_914 {d : Nat} {ls : am_L} {st : List Value} {h : am_H} {a : Nat} {i : Int32} : am_ev d 223 914 ls (.int i :: .ref a :: st) h = am_ak (am_at h a) 0 10 i (fun v => am_ev d 223 915 ls (.int v :: st) h) := x_iald (show am_code 223 914 = some (.iaload, 1) by decide +kernel) rfl
theorem e_223_915 {d : Nat} {x1 x2 x3 : Option Value} {v : Nat} {st : List Value} {h : am_H} : am_ev d 223 915 [some (.ref v), x1, x2, x3] st h = am_ev d 223 916 [some (.ref v), x1, x2, x3] (.ref v :: st) h := x_aload (show am_code 223 915 = some (.aload 0, 1) by decide +kernel) rfl rfl
theorem e_223_916 {d : Nat} {x0 x1 x2 : Option Value} {v : Int32} {st : List Value} {h : am_H} : am_ev d 223 916 [x0, x1, x2, some (.int v)] st h = am_ev d 223 917 [x0, x1, x2, some (.int v)] (.int v :: st) h := x_iload (show am_code 223 916 = some (.iload 3, 1) by decide +kernel) rfl rfl
theorem e_223_917 {d : Nat} {ls : am_L} {st : List Value} {h : am_H} : am_ev d 223 917 ls st h = am_ev d 223 918 ls (.int 3 :: st) h := x_iconst (show am_code 223 917 = some (.iconst 3, 1) by decide +kernel) (by decide +kernel) rfl
theorem e_223_918 {d : Nat} {ls : am_L} {st : List Value} {h : am_H} {x y : Int32} : am_ev d 223 918 ls (.int y :: .int x :: st) h = am_ev d 223 919 ls (.int (x + y) :: st) h := x_iadd (show am_code 223 918 = some (.iadd, 1) by decide +kernel) rfl
theorem e_223_919 {d : Nat} {ls : am_L} {st : List Value} {h : am_H} {a : Nat} {i : Int32} : am_ev d 223 919 ls (.int i :: .ref a :: st) h = am_ak (am_at h a) 0 10 i (fun v => am_ev d 223 920 ls (.int v :: st) h) := x_iald (show am_code 223 919 = some (.iaload, 1) by decide +kernel) rfl
theorem e_223_920 {d : Nat} {ls : am_L} {st : List Value} {h : am_H} {a : Nat} {v0 : Int32} {v1 : Int32} {v2 : Int32} (hw : am_wd st ≤ 8) (hi : am_is (am_at h a) 8 = true) : am_ev (d + 1) 223 920 ls (.int v2 :: .int v1 :: .int v0 :: .ref a :: st) h = am_bk (d + 1) 223 923 ls st (am_cal (d + 1) 202 [.ref a, .int v0, .int v1, .int v2] h) := x_inv (q := mt_202) (show am_code 223 920 = some (.invokevirtual 202, 3) by decide +kernel) (Or.inl ⟨rfl, rfl⟩) mt_202_at rfl rfl rfl hw (Nat.le_of_ble_eq_true rfl) (fun _ => ⟨_, _, rfl, Or.inr hi⟩) rfl
theorem e_223_923 {d : Nat} {ls : am_L} {st : List Value} {h : am_H} {x y : Int32} : am_ev d 223 923 ls (.int y :: .int x :: st) h = if x = y then am_ev d 223 1176 ls st h else am_ev d 223 926 ls st h := x_icmp inferInstance (show am_code 223 923 = some (.if_icmp .eq 1176, 3) by decide +kernel) rfl rfl (xc_eq _ _)
theorem e_223_926 {d : Nat} {ls : am_L} {st : List Value} {h : am_H} : am_ev d 223 926 ls st h = am_ev d 223 927 ls (.int 0 :: st) h := x_iconst (show am_code 223 926 = some (.iconst 0, 1) by decide +kernel) (by decide +kernel) rfl
theorem e_223_927 {d : Nat} {ls : am_L} {h : am_H} {v : Int32} (hb : v &&& 1 = v) : am_ev d 223 927 ls [.int v] h = some (some (.int v), h) := x_ret (q := mt_223) (show am_code 223 927 = some (.ireturn, 1) by decide +kernel) mt_223_at rfl (am_n_bool hb)
theorem e_223_928 {d : Nat} {x0 x2 x3 : Option Value} {v : Nat} {st : List Value} {h : am_H} : am_ev d 223 928 [x0, some (.ref v), x2, x3] st h = am_ev d 223 929 [x0, some (.ref v), x2, x3] (.ref v :: st) h := x_aload (show am_code 223 928 = some (.aload 1, 1) by decide +kernel) rfl rfl
theorem e_223_929 {d : Nat} {x1 x2 x3 : Option Value} {v : Nat} {st : List Value} {h : am_H} : am_ev d 223 929 [some (.ref v), x1, x2, x3] st h = am_ev d 223 930 [some (.ref v), x1, x2, x3] (.ref v :: st) h := x_aload (show am_code 223 929 = some (.aload 0, 1) by decide +kernel) rfl rfl
theorem e_223_930 {d : Nat} {x0 x1 x2 : Option Value} {v : Int32} {st : List Value} {h : am_H} : am_ev d 223 930 [x0, x1, x2, some (.int v)] st h = am_ev d 223 931 [x0, x1, x2, some (.int v)] (.int v :: st) h := x_iload (show am_code 223 930 = some (.iload 3, 1) by decide +kernel) rfl rfl
theorem e_223_931 {d : Nat} {ls : am_L} {st : List Value} {h : am_H} : am_ev d 223 931 ls st h = am_ev d 223 932 ls (.int 1 :: st) h := x_iconst (show am_code 223 931 = some (.iconst 1, 1) by decide +kernel) (by decide +kernel) rfl
theorem e_223_932 {d : Nat} {ls : am_L} {st : List Value} {h : am_H} {x y : Int32} : am_ev d 223 932 ls (.int y :: .int x :: st) h = am_ev d 223 933 ls (.int (x + y) :: st) h := x_iadd (show am_code 223 932 = some (.iadd, 1) by decide +kernel) rfl
theorem e_223_933 {d : Nat} {ls : am_L} {st : List Value} {h : am_H} {a : Nat} {i : Int32} : am_ev d 223 933 ls (.int i :: .ref a :: st) h = am_ak (am_at h a) 0 10 i (fun v => am_ev d 223 934 ls (.int v :: st) h) := x_iald (show am_code 223 933 = some (.iaload, 1) by decide +kernel) rfl
theorem e_223_934 {d : Nat} {x1 x2 x3 : Option Value} {v : Nat} {st : List Value} {h : am_H} : am_ev d 223 934 [some (.ref v), x1, x2, x3] st h = am_ev d 223 935 [some (.ref v), x1, x2, x3] (.ref v :: st) h := x_aload (show am_code 223 934 = some (.aload 0, 1) by decide +kernel) rfl rfl
theorem e_223_935 {d : Nat} {x0 x1 x2 : Option Value} {v : Int32} {st : List Value} {h : am_H} : am_ev d 223 935 [x0, x1, x2, some (.int v)] st h = am_ev d 223 936 [x0, x1, x2, some (.int v)] (.int v :: st) h := x_iload (show am_code 223 935 = some (.iload 3, 1) by decide +kernel) rfl rfl
theorem e_223_936 {d : Nat} {ls : am_L} {st : List Value} {h : am_H} : am_ev d 223 936 ls st h = am_ev d 223 937 ls (.int 2 :: st) h := x_iconst (show am_code 223 936 = some (.iconst 2, 1) by decide +kernel) (by decide +kernel) rfl
theorem e_223_937 {d : Nat} {ls : am_L} {st : List Value} {h : am_H} {x y : Int32} : am_ev d 223 937 ls (.int y :: .int x :: st) h = am_ev d 223 938 ls (.int (x + y) :: st) h := x_iadd (show am_code 223 937 = some (.iadd, 1) by decide +kernel) rfl
theorem e_223_938 {d : Nat} {ls : am_L} {st : List Value} {h : am_H} {a : Nat} {i : Int32} : am_ev d 223 938 ls (.int i :: .ref a :: st) h = am_ak (am_at h a) 0 10 i (fun v => am_ev d 223 939 ls (.int v :: st) h) := x_iald (show am_code 223 938 = some (.iaload, 1) by decide +kernel) rfl
theorem e_223_939 {d : Nat} {x1 x2 x3 : Option Value} {v : Nat} {st : List Value} {h : am_H} : am_ev d 223 939 [some (.ref v), x1, x2, x3] st h = am_ev d 223 940 [some (.ref v), x1, x2, x3] (.ref v :: st) h := x_aload (show am_code 223 939 = some (.aload 0, 1) by decide +kernel) rfl rfl
theorem e_223_940 {d : Nat} {x0 x1 x2 : Option Value} {v : Int32} {st : List Value} {h : am_H} : am_ev d 223 940 [x0, x1, x2, some (.int v)] st h = am_ev d 223 941 [x0, x1, x2, some (.int v)] (.int v :: st) h := x_iload (show am_code 223 940 = some (.iload 3, 1) by decide +kernel) rfl rfl
theorem e_223_941 {d : Nat} {ls : am_L} {st : List Value} {h : am_H} : am_ev d 223 941 ls st h = am_ev d 223 942 ls (.int 3 :: st) h := x_iconst (show am_code 223 941 = some (.iconst 3, 1) by decide +kernel) (by decide +kernel) rfl
theorem e_223_942 {d : Nat} {ls : am_L} {st : List Value} {h : am_H} {x y : Int32} : am_ev d 223 942 ls (.int y :: .int x :: st) h = am_ev d 223 943 ls (.int (x + y) :: st) h := x_iadd (show am_code 223 942 = some (.iadd, 1) by decide +kernel) rfl
theorem e_223_943 {d : Nat} {ls : am_L} {st : List Value} {h : am_H} {a : Nat} {i : Int32} : am_ev d 223 943 ls (.int i :: .ref a :: st) h = am_ak (am_at h a) 0 10 i (fun v => am_ev d 223 944 ls (.int v :: st) h) := x_iald (show am_code 223 943 = some (.iaload, 1) by decide +kernel) rfl
theorem e_223_944 {d : Nat} {x1 x2 x3 : Option Value} {v : Nat} {st : List Value} {h : am_H} : am_ev d 223 944 [some (.ref v), x1, x2, x3] st h = am_ev d 223 945 [some (.ref v), x1, x2, x3] (.ref v :: st) h := x_aload (show am_code 223 944 = some (.aload 0, 1) by decide +kernel) rfl rfl
theorem e_223_945 {d : Nat} {x0 x1 x2 : Option Value} {v : Int32} {st : List Value} {h : am_H} : am_ev d 223 945 [x0, x1, x2, some (.int v)] st h = am_ev d 223 946 [x0, x1, x2, some (.int v)] (.int v :: st) h := x_iload (show am_code 223 945 = some (.iload 3, 1) by decide +kernel) rfl rfl
theorem e_223_946 {d : Nat} {ls : am_L} {st : List Value} {h : am_H} : am_ev d 223 946 ls st h = am_ev d 223 947 ls (.int 4 :: st) h := x_iconst (show am_code 223 946 = some (.iconst 4, 1) by decide +kernel) (by decide +kernel) rfl
theorem e_223_947 {d : Nat} {ls : am_L} {st : List Value} {h : am_H} {x y : Int32} : am_ev d 223 947 ls (.int y :: .int x :: st) h = am_ev d 223 948 ls (.int (x + y) :: st) h := x_iadd (show am_code 223 947 = some (.iadd, 1) by decide +kernel) rfl
theorem e_223_948 {d : Nat} {ls : am_L} {st : List Value} {h : am_H} {a : Nat} {i : Int32} : am_ev d 223 948 ls (.int i :: .ref a :: st) h = am_ak (am_at h a) 0 10 i (fun v => am_ev d 223 949 ls (.int v :: st) h) := x_iald (show am_code 223 948 = some (.iaload, 1) by decide +kernel) rfl
theorem e_223_949 {d : Nat} {ls : am_L} {st : List Value} {h : am_H} {a : Nat} {v0 : Int32} {v1 : Int32} {v2 : Int32} {v3 : Int32} (hw : am_wd st ≤ 8) (hi : am_is (am_at h a) 7 = true) : am_ev (d + 1) 223 949 ls (.int v3 :: .int v2 :: .int v1 :: .int v0 :: .ref a :: st) h = am_bk (d + 1) 223 952 ls st (am_cal (d + 1) 111 [.ref a, .int v0, .int v1, .int v2, .int v3] h) := x_inv (q := mt_111) (show am_code 223 949 = some (.invokevirtual 111, 3) by decide +kernel) (Or.inl ⟨rfl, rfl⟩) mt_111_at rfl rfl rfl hw (Nat.le_of_ble_eq_true rfl) (fun _ => ⟨_, _, rfl, Or.inr hi⟩) rfl
theorem e_223_952 {d : Nat} {x0 x1 x3 : Option Value} {v : Nat} {st : List Value} {h : am_H} : am_ev d 223 952 [x0, x1, some (.ref v), x3] st h = am_ev d 223 953 [x0, x1, some (.ref v), x3] (.ref v :: st) h := x_aload (show am_code 223 952 = some (.aload 2, 1) by decide +kernel) rfl rfl
theorem e_223_953 {d : Nat} {x1 x2 x3 : Option Value} {v : Nat} {st : List Value} {h : am_H} : am_ev d 223 953 [some (.ref v), x1, x2, x3] st h = am_ev d 223 954 [some (.ref v), x1, x2, x3] (.ref v :: st) h := x_aload (show am_code 223 953 = some (.aload 0, 1) by decide +kernel) rfl rfl
theorem e_223_954 {d : Nat} {x0 x1 x2 : Option Value} {v : Int32} {st : List Value} {h : am_H} : am_ev d 223 954 [x0, x1, x2, some (.int v)] st h = am_ev d 223 955 [x0, x1, x2, some (.int v)] (.int v :: st) h := x_iload (show am_code 223 954 = some (.iload 3, 1) by decide +kernel) rfl rfl
theorem e_223_955 {d : Nat} {ls : am_L} {st : List Value} {h : am_H} : am_ev d 223 955 ls st h = am_ev d 223 956 ls (.int 1 :: st) h := x_iconst (show am_code 223 955 = some (.iconst 1, 1) by decide +kernel) (by decide +kernel) rfl
theorem e_223_956 {d : Nat} {ls : am_L} {st : List Value} {h : am_H} {x y : Int32} : am_ev d 223 956 ls (.int y :: .int x :: st) h = am_ev d 223 957 ls (.int (x + y) :: st) h := x_iadd (show am_code 223 956 = some (.iadd, 1) by decide +kernel) rfl
theorem e_223_957 {d : Nat} {ls : am_L} {st : List Value} {h : am_H} {a : Nat} {i : Int32} : am_ev d 223 957 ls (.int i :: .ref a :: st) h = am_ak (am_at h a) 0 10 i (fun v => am_ev d 223 958 ls (.int v :: st) h) := x_iald (show am_code 223 957 = some (.iaload, 1) by decide +kernel) rfl
theorem e_223_958 {d : Nat} {x1 x2 x3 : Option Value} {v : Nat} {st : List Value} {h : am_H} : am_ev d 223 958 [some (.ref v), x1, x2, x3] st h = am_ev d 223 959 [some (.ref v), x1, x2, x3] (.ref v :: st) h := x_aload (show am_code 223 958 = some (.aload 0, 1) by decide +kernel) rfl rfl
theorem e_223_959 {d : Nat} {x0 x1 x2 : Option Value} {v : Int32} {st : List Value} {h : am_H} : am_ev d 223 959 [x0, x1, x2, some (.int v)] st h = am_ev d 223 960 [x0, x1, x2, some (.int v)] (.int v :: st) h := x_iload (show am_code 223 959 = some (.iload 3, 1) by decide +kernel) rfl rfl
theorem e_223_960 {d : Nat} {ls : am_L} {st : List Value} {h : am_H} : am_ev d 223 960 ls st h = am_ev d 223 961 ls (.int 2 :: st) h := x_iconst (show am_code 223 960 = some (.iconst 2, 1) by decide +kernel) (by decide +kernel) rfl
theorem e_223_961 {d : Nat} {ls : am_L} {st : List Value} {h : am_H} {x y : Int32} : am_ev d 223 961 ls (.int y :: .int x :: st) h = am_ev d 223 962 ls (.int (x + y) :: st) h := x_iadd (show am_code 223 961 = some (.iadd, 1) by decide +kernel) rfl
theorem e_223_962 {d : Nat} {ls : am_L} {st : List Value} {h : am_H} {a : Nat} {i : Int32} : am_ev d 223 962 ls (.int i :: .ref a :: st) h = am_ak (am_at h a) 0 10 i (fun v => am_ev d 223 963 ls (.int v :: st) h) := x_iald (show am_code 223 962 = some (.iaload, 1) by decide +kernel) rfl
theorem e_223_963 {d : Nat} {x1 x2 x3 : Option Value} {v : Nat} {st : List Value} {h : am_H} : am_ev d 223 963 [some (.ref v), x1, x2, x3] st h = am_ev d 223 964 [some (.ref v), x1, x2, x3] (.ref v :: st) h := x_aload (show am_code 223 963 = some (.aload 0, 1) by decide +kernel) rfl rfl
theorem e_223_964 {d : Nat} {x0 x1 x2 : Option Value} {v : Int32} {st : List Value} {h : am_H} : am_ev d 223 964 [x0, x1, x2, some (.int v)] st h = am_ev d 223 965 [x0, x1, x2, some (.int v)] (.int v :: st) h := x_iload (show am_code 223 964 = some (.iload 3, 1) by decide +kernel) rfl rfl
theorem e_223_965 {d : Nat} {ls : am_L} {st : List Value} {h : am_H} : am_ev d 223 965 ls st h = am_ev d 223 966 ls (.int 3 :: st) h := x_iconst (show am_code 223 965 = some (.iconst 3, 1) by decide +kernel) (by decide +kernel) rfl
theorem e_223_966 {d : Nat} {ls : am_L} {st : List Value} {h : am_H} {x y : Int32} : am_ev d 223 966 ls (.int y :: .int x :: st) h = am_ev d 223 967 ls (.int (x + y) :: st) h := x_iadd (show am_code 223 966 = some (.iadd, 1) by decide +kernel) rfl
theorem e_223_967 {d : Nat} {ls : am_L} {st : List Value} {h : am_H} {a : Nat} {i : Int32} : am_ev d 223 967 ls (.int i :: .ref a :: st) h = am_ak (am_at h a) 0 10 i (fun v => am_ev d 223 968 ls (.int v :: st) h) := x_iald (show am_code 223 967 = some (.iaload, 1) by decide +kernel) rfl
theorem e_223_968 {d : Nat} {x1 x2 x3 : Option Value} {v : Nat} {st : List Value} {h : am_H} : am_ev d 223 968 [some (.ref v), x1, x2, x3] st h = am_ev d 223 969 [some (.ref v), x1, x2, x3] (.ref v :: st) h := x_aload (show am_code 223 968 = some (.aload 0, 1) by decide +kernel) rfl rfl
theorem e_223_969 {d : Nat} {x0 x1 x2 : Option Value} {v : Int32} {st : List Value} {h : am_H} : am_ev d 223 969 [x0, x1, x2, some (.int v)] st h = am_ev d 223 970 [x0, x1, x2, some (.int v)] (.int v :: st) h := x_iload (show am_code 223 969 = some (.iload 3, 1) by decide +kernel) rfl rfl
theorem e_223_970 {d : Nat} {ls : am_L} {st : List Value} {h : am_H} : am_ev d 223 970 ls st h = am_ev d 223 971 ls (.int 4 :: st) h := x_iconst (show am_code 223 970 = some (.iconst 4, 1) by decide +kernel) (by decide +kernel) rfl
theorem e_223_971 {d : Nat} {ls : am_L} {st : List Value} {h : am_H} {x y : Int32} : am_ev d 223 971 ls (.int y :: .int x :: st) h = am_ev d 223 972 ls (.int (x + y) :: st) h := x_iadd (show am_code 223 971 = some (.iadd, 1) by decide +kernel) rfl
theorem e_223_972 {d : Nat} {ls : am_L} {st : List Value} {h : am_H} {a : Nat} {i : Int32} : am_ev d 223 972 ls (.int i :: .ref a :: st) h = am_ak (am_at h a) 0 10 i (fun v => am_ev d 223 973 ls (.int v :: st) h) := x_iald (show am_code 223 972 = some (.iaload, 1) by decide +kernel) rfl
theorem e_223_973 {d : Nat} {ls : am_L} {st : List Value} {h : am_H} {a : Nat} {v0 : Int32} {v1 : Int32} {v2 : Int32} {v3 : Int32} (hw : am_wd st ≤ 8) (hi : am_is (am_at h a) 8 = true) : am_ev (d + 1) 223 973 ls (.int v3 :: .int v2 :: .int v1 :: .int v0 :: .ref a :: st) h = am_bk (d + 1) 223 976 ls st (am_cal (d + 1) 205 [.ref a, .int v0, .int v1, .int v2, .int v3] h) := x_inv (q := mt_205) (show am_code 223 973 = some (.invokevirtual 205, 3) by decide +kernel) (Or.inl ⟨rfl, rfl⟩) mt_205_at rfl rfl rfl hw (Nat.le_of_ble_eq_true rfl) (fun _ => ⟨_, _, rfl, Or.inr hi⟩) rfl
theorem e_223_976 {d : Nat} {ls : am_L} {st : List Value} {h : am_H} {x y : Int32} : am_ev d 223 976 ls (.int y :: .int x :: st) h = if x = y then am_ev d 223 1176 ls st h else am_ev d 223 979 ls st h := x_icmp inferInstance (show am_code 223 976 = some (.if_icmp .eq 1176, 3) by decide +kernel) rfl rfl (xc_eq _ _)
theorem e_223_979 {d : Nat} {ls : am_L} {st : List Value} {h : am_H} : am_ev d 223 979 ls st h = am_ev d 223 980 ls (.int 0 :: st) h := x_iconst (show am_code 223 979 = some (.iconst 0, 1) by decide +kernel) (by decide +kernel) rfl
theorem e_223_980 {d : Nat} {ls : am_L} {h : am_H} {v : Int32} (hb : v &&& 1 = v) : am_ev d 223 980 ls [.int v] h = some (some (.int v), h) := x_ret (q := mt_223) (show am_code 223 980 = some (.ireturn, 1) by decide +kernel) mt_223_at rfl (am_n_bool hb)
theorem e_223_981 {d : Nat} {x0 x2 x3 : Option Value} {v : Nat} {st : List Value} {h : am_H} : am_ev d 223 981 [x0, some (.ref v), x2, x3] st h = am_ev d 223 982 [x0, some (.ref v), x2, x3] (.ref v :: st) h := x_aload (show am_code 223 981 = some (.aload 1, 1) by decide +kernel) rfl rfl
theorem e_223_982 {d : Nat} {x1 x2 x3 : Option Value} {v : Nat} {st : List Value} {h : am_H} : am_ev d 223 982 [some (.ref v), x1, x2, x3] st h = am_ev d 223 983 [some (.ref v), x1, x2, x3] (.ref v :: st) h := x_aload (show am_code 223 982 = some (.aload 0, 1) by decide +kernel) rfl rfl
theorem e_223_983 {d : Nat} {x0 x1 x2 : Option Value} {v : Int32} {st : List Value} {h : am_H} : am_ev d 223 983 [x0, x1, x2, some (.int v)] st h = am_ev d 223 984 [x0, x1, x2, some (.int v)] (.int v :: st) h := x_iload (show am_code 223 983 = some (.iload 3, 1) by decide +kernel) rfl rfl
theorem e_223_984 {d : Nat} {ls : am_L} {st : List Value} {h : am_H} : am_ev d 223 984 ls st h = am_ev d 223 985 ls (.int 1 :: st) h := x_iconst (show am_code 223 984 = some (.iconst 1, 1) by decide +kernel) (by decide +kernel) rfl
theorem e_223_985 {d : Nat} {ls : am_L} {st : List Value} {h : am_H} {x y : Int32} : am_ev d 223 985 ls (.int y :: .int x :: st) h = am_ev d 223 986 ls (.int (x + y) :: st) h := x_iadd (show am_code 223 985 = some (.iadd, 1) by decide +kernel) rfl
theorem e_223_986 {d : Nat} {ls : am_L} {st : List Value} {h : am_H} {a : Nat} {i : Int32} : am_ev d 223 986 ls (.int i :: .ref a :: st) h = am_ak (am_at h a) 0 10 i (fun v => am_ev d 223 987 ls (.int v :: st) h) := x_iald (show am_code 223 986 = some (.iaload, 1) by decide +kernel) rfl
theorem e_223_987 {d : Nat} {x1 x2 x3 : Option Value} {v : Nat} {st : List Value} {h : am_H} : am_ev d 223 987 [some (.ref v), x1, x2, x3] st h = am_ev d 223 988 [some (.ref v), x1, x2, x3] (.ref v :: st) h := x_aload (show am_code 223 987 = some (.aload 0, 1) by decide +kernel) rfl rfl
theorem e_223_988 {d : Nat} {x0 x1 x2 : Option Value} {v : Int32} {st : List Value} {h : am_H} : am_ev d 223 988 [x0, x1, x2, some (.int v)] st h = am_ev d 223 989 [x0, x1, x2, some (.int v)] (.int v :: st) h := x_iload (show am_code 223 988 = some (.iload 3, 1) by decide +kernel) rfl rfl
theorem e_223_989 {d : Nat} {ls : am_L} {st : List Value} {h : am_H} : am_ev d 223 989 ls st h = am_ev d 223 990 ls (.int 2 :: st) h := x_iconst (show am_code 223 989 = some (.iconst 2, 1) by decide +kernel) (by decide +kernel) rfl
theorem e_223_990 {d : Nat} {ls : am_L} {st : List Value} {h : am_H} {x y : Int32} : am_ev d 223 990 ls (.int y :: .int x :: st) h = am_ev d 223 991 ls (.int (x + y) :: st) h := x_iadd (show am_code 223 990 = some (.iadd, 1) by decide +kernel) rfl
theorem e_223_991 {d : Nat} {ls : am_L} {st : List Value} {h : am_H} {a : Nat} {i : Int32} : am_ev d 223 991 ls (.int i :: .ref a :: st) h = am_ak (am_at h a) 0 10 i (fun v => am_ev d 223 992 ls (.int v :: st) h) := x_iald (show am_code 223 991 = some (.iaload, 1) by decide +kernel) rfl
theorem e_223_992 {d : Nat} {x1 x2 x3 : Option Value} {v : Nat} {st : List Value} {h : am_H} : am_ev d 223 992 [some (.ref v), x1, x2, x3] st h = am_ev d 223 993 [some (.ref v), x1, x2, x3] (.ref v :: st) h := x_aload (show am_code 223 992 = some (.aload 0, 1) by decide +kernel) rfl rfl
theorem e_223_993 {d : Nat} {x0 x1 x2 : Option Value} {v : Int32} {st : List Value} {h : am_H} : am_ev d 223 993 [x0, x1, x2, some (.int v)] st h = am_ev d 223 994 [x0, x1, x2, some (.int v)] (.int v :: st) h := x_iload (show am_code 223 993 = some (.iload 3, 1) by decide +kernel) rfl rfl
theorem e_223_994 {d : Nat} {ls : am_L} {st : List Value} {h : am_H} : am_ev d 223 994 ls st h = am_ev d 223 995 ls (.int 3 :: st) h := x_iconst (show am_code 223 994 = some (.iconst 3, 1) by decide +kernel) (by decide +kernel) rfl
theorem e_223_995 {d : Nat} {ls : am_L} {st : List Value} {h : am_H} {x y : Int32} : am_ev d 223 995 ls (.int y :: .int x :: st) h = am_ev d 223 996 ls (.int (x + y) :: st) h := x_iadd (show am_code 223 995 = some (.iadd, 1) by decide +kernel) rfl
theorem e_223_996 {d : Nat} {ls : am_L} {st : List Value} {h : am_H} {a : Nat} {i : Int32} : am_ev d 223 996 ls (.int i :: .ref a :: st) h = am_ak (am_at h a) 0 10 i (fun v => am_ev d 223 997 ls (.int v :: st) h) := x_iald (show am_code 223 996 = some (.iaload, 1) by decide +kernel) rfl
theorem e_223_997 {d : Nat} {ls : am_L} {st : List Value} {h : am_H} {a : Nat} {v0 : Int32} {v1 : Int32} {v2 : Int32} (hw : am_wd st ≤ 8) (hi : am_is (am_at h a) 7 = true) : am_ev (d + 1) 223 997 ls (.int v2 :: .int v1 :: .int v0 :: .ref a :: st) h = am_bk (d + 1) 223 1000 ls st (am_cal (d + 1) 112 [.ref a, .int v0, .int v1, .int v2] h) := x_inv (q := mt_112) (show am_code 223 997 = some (.invokevirtual 112, 3) by decide +kernel) (Or.inl ⟨rfl, rfl⟩) mt_112_at rfl rfl rfl hw (Nat.le_of_ble_eq_true rfl) (fun _ => ⟨_, _, rfl, Or.inr hi⟩) rfl
theorem e_223_1000 {d : Nat} {x0 x1 x3 : Option Value} {v : Nat} {st : List Value} {h : am_H} : am_ev d 223 1000 [x0, x1, some (.ref v), x3] st h = am_ev d 223 1001 [x0, x1, some (.ref v), x3] (.ref v :: st) h := x_aload (show am_code 223 1000 = some (.aload 2, 1) by decide +kernel) rfl rfl
theorem e_223_1001 {d : Nat} {x1 x2 x3 : Option Value} {v : Nat} {st : List Value} {h : am_H} : am_ev d 223 1001 [some (.ref v), x1, x2, x3] st h = am_ev d 223 1002 [some (.ref v), x1, x2, x3] (.ref v :: st) h := x_aload (show am_code 223 1001 = some (.aload 0, 1) by decide +kernel) rfl rfl
theorem e_223_1002 {d : Nat} {x0 x1 x2 : Option Value} {v : Int32} {st : List Value} {h : am_H} : am_ev d 223 1002 [x0, x1, x2, some (.int v)] st h = am_ev d 223 1003 [x0, x1, x2, some (.int v)] (.int v :: st) h := x_iload (show am_code 223 1002 = some (.iload 3, 1) by decide +kernel) rfl rfl
theorem e_223_1003 {d : Nat} {ls : am_L} {st : List Value} {h : am_H} : am_ev d 223 1003 ls st h = am_ev d 223 1004 ls (.int 1 :: st) h := x_iconst (show am_code 223 1003 = some (.iconst 1, 1) by decide +kernel) (by decide +kernel) rfl
theorem e_223_1004 {d : Nat} {ls : am_L} {st : List Value} {h : am_H} {x y : Int32} : am_ev d 223 1004 ls (.int y :: .int x :: st) h = am_ev d 223 1005 ls (.int (x + y) :: st) h := x_iadd (show am_code 223 1004 = some (.iadd, 1) by decide +kernel) rfl
theorem e_223_1005 {d : Nat} {ls : am_L} {st : List Value} {h : am_H} {a : Nat} {i : Int32} : am_ev d 223 1005 ls (.int i :: .ref a :: st) h = am_ak (am_at h a) 0 10 i (fun v => am_ev d 223 1006 ls (.int v :: st) h) := x_iald (show am_code 223 1005 = some (.iaload, 1) by decide +kernel) rfl
theorem e_223_1006 {d : Nat} {x1 x2 x3 : Option Value} {v : Nat} {st : List Value} {h : am_H} : am_ev d 223 1006 [some (.ref v), x1, x2, x3] st h = am_ev d 223 1007 [some (.ref v), x1, x2, x3] (.ref v :: st) h := x_aload (show am_code 223 1006 = some (.aload 0, 1) by decide +kernel) rfl rfl
theorem e_223_1007 {d : Nat} {x0 x1 x2 : Option Value} {v : Int32} {st : List Value} {h : am_H} : am_ev d 223 1007 [x0, x1, x2, some (.int v)] st h = am_ev d 223 1008 [x0, x1, x2, some (.int v)] (.int v :: st) h := x_iload (show am_code 223 1007 = some (.iload 3, 1) by decide +kernel) rfl rfl
theorem e_223_1008 {d : Nat} {ls : am_L} {st : List Value} {h : am_H} : am_ev d 223 1008 ls st h = am_ev d 223 1009 ls (.int 2 :: st) h := x_iconst (show am_code 223 1008 = some (.iconst 2, 1) by decide +kernel) (by decide +kernel) rfl
theorem e_223_1009 {d : Nat} {ls : am_L} {st : List Value} {h : am_H} {x y : Int32} : am_ev d 223 1009 ls (.int y :: .int x :: st) h = am_ev d 223 1010 ls (.int (x + y) :: st) h := x_iadd (show am_code 223 1009 = some (.iadd, 1) by decide +kernel) rfl
theorem e_223_1010 {d : Nat} {ls : am_L} {st : List Value} {h : am_H} {a : Nat} {i : Int32} : am_ev d 223 1010 ls (.int i :: .ref a :: st) h = am_ak (am_at h a) 0 10 i (fun v => am_ev d 223 1011 ls (.int v :: st) h) := x_iald (show am_code 223 1010 = some (.iaload, 1) by decide +kernel) rfl
theorem e_223_1011 {d : Nat} {x1 x2 x3 : Option Value} {v : Nat} {st : List Value} {h : am_H} : am_ev d 223 1011 [some (.ref v), x1, x2, x3] st h = am_ev d 223 1012 [some (.ref v), x1, x2, x3] (.ref v :: st) h := x_aload (show am_code 223 1011 = some (.aload 0, 1) by decide +kernel) rfl rfl
theorem e_223_1012 {d : Nat} {x0 x1 x2 : Option Value} {v : Int32} {st : List Value} {h : am_H} : am_ev d 223 1012 [x0, x1, x2, some (.int v)] st h = am_ev d 223 1013 [x0, x1, x2, some (.int v)] (.int v :: st) h := x_iload (show am_code 223 1012 = some (.iload 3, 1) by decide +kernel) rfl rfl
theorem e_223_1013 {d : Nat} {ls : am_L} {st : List Value} {h : am_H} : am_ev d 223 1013 ls st h = am_ev d 223 1014 ls (.int 3 :: st) h := x_iconst (show am_code 223 1013 = some (.iconst 3, 1) by decide +kernel) (by decide +kernel) rfl
theorem e_223_1014 {d : Nat} {ls : am_L} {st : List Value} {h : am_H} {x y : Int32} : am_ev d 223 1014 ls (.int y :: .int x :: st) h = am_ev d 223 1015 ls (.int (x + y) :: st) h := x_iadd (show am_code 223 1014 = some (.iadd, 1) by decide +kernel) rfl
theorem e_223_1015 {d : Nat} {ls : am_L} {st : List Value} {h : am_H} {a : Nat} {i : Int32} : am_ev d 223 1015 ls (.int i :: .ref a :: st) h = am_ak (am_at h a) 0 10 i (fun v => am_ev d 223 1016 ls (.int v :: st) h) := x_iald (show am_code 223 1015 = some (.iaload, 1) by decide +kernel) rfl
theorem e_223_1016 {d : Nat} {ls : am_L} {st : List Value} {h : am_H} {a : Nat} {v0 : Int32} {v1 : Int32} {v2 : Int32} (hw : am_wd st ≤ 8) (hi : am_is (am_at h a) 8 = true) : am_ev (d + 1) 223 1016 ls (.int v2 :: .int v1 :: .int v0 :: .ref a :: st) h = am_bk (d + 1) 223 1019 ls st (am_cal (d + 1) 206 [.ref a, .int v0, .int v1, .int v2] h) := x_inv (q := mt_206) (show am_code 223 1016 = some (.invokevirtual 206, 3) by decide +kernel) (Or.inl ⟨rfl, rfl⟩) mt_206_at rfl rfl rfl hw (Nat.le_of_ble_eq_true rfl) (fun _ => ⟨_, _, rfl, Or.inr hi⟩) rfl
theorem e_223_1019 {d : Nat} {ls : am_L} {st : List Value} {h : am_H} {x y : Int32} : am_ev d 223 1019 ls (.int y :: .int x :: st) h = if x = y then am_ev d 223 1176 ls st h else am_ev d 223 1022 ls st h := x_icmp inferInstance (show am_code 223 1019 = some (.if_icmp .eq 1176, 3) by decide +kernel) rfl rfl (xc_eq _ _)
theorem e_223_1022 {d : Nat} {ls : am_L} {st : List Value} {h : am_H} : am_ev d 223 1022 ls st h = am_ev d 223 1023 ls (.int 0 :: st) h := x_iconst (show am_code 223 1022 = some (.iconst 0, 1) by decide +kernel) (by decide +kernel) rfl
theorem e_223_1023 {d : Nat} {ls : am_L} {h : am_H} {v : Int32} (hb : v &&& 1 = v) : am_ev d 223 1023 ls [.int v] h = some (some (.int v), h) := x_ret (q := mt_223) (show am_code 223 1023 = some (.ireturn, 1) by decide +kernel) mt_223_at rfl (am_n_bool hb)
theorem e_223_1024 {d : Nat} {x0 x2 x3 : Option Value} {v : Nat} {st : List Value} {h : am_H} : am_ev d 223 1024 [x0, some (.ref v), x2, x3] st h = am_ev d 223 1025 [x0, some (.ref v), x2, x3] (.ref v :: st) h := x_aload (show am_code 223 1024 = some (.aload 1, 1) by decide +kernel) rfl rfl
theorem e_223_1025 {d : Nat} {x1 x2 x3 : Option Value} {v : Nat} {st : List Value} {h : am_H} : am_ev d 223 1025 [some (.ref v), x1, x2, x3] st h = am_ev d 223 1026 [some (.ref v), x1, x2, x3] (.ref v :: st) h := x_aload (show am_code 223 1025 = some (.aload 0, 1) by decide +kernel) rfl rfl
theorem e_223_1026 {d : Nat} {x0 x1 x2 : Option Value} {v : Int32} {st : List Value} {h : am_H} : am_ev d 223 1026 [x0, x1, x2, some (.int v)] st h = am_ev d 223 1027 [x0, x1, x2, some (.int v)] (.int v :: st) h := x_iload (show am_code 223 1026 = some (.iload 3, 1) by decide +kernel) rfl rfl
theorem e_223_1027 {d : Nat} {ls : am_L} {st : List Value} {h : am_H} : am_ev d 223 1027 ls st h = am_ev d 223 1028 ls (.int 1 :: st) h := x_iconst (show am_code 223 1027 = some (.iconst 1, 1) by decide +kernel) (by decide +kernel) rfl
theorem e_223_1028 {d : Nat} {ls : am_L} {st : List Value} {h : am_H} {x y : Int32} : am_ev d 223 1028 ls (.int y :: .int x :: st) h = am_ev d 223 1029 ls (.int (x + y) :: st) h := x_iadd (show am_code 223 1028 = some (.iadd, 1) by decide +kernel) rfl
theorem e_223_1029 {d : Nat} {ls : am_L} {st : List Value} {h : am_H} {a : Nat} {i : Int32} : am_ev d 223 1029 ls (.int i :: .ref a :: st) h = am_ak (am_at h a) 0 10 i (fun v => am_ev d 223 1030 ls (.int v :: st) h) := x_iald (show am_code 223 1029 = some (.iaload, 1) by decide +kernel) rfl
theorem e_223_1030 {d : Nat} {x1 x2 x3 : Option Value} {v : Nat} {st : List Value} {h : am_H} : am_ev d 223 1030 [some (.ref v), x1, x2, x3] st h = am_ev d 223 1031 [some (.ref v), x1, x2, x3] (.ref v :: st) h := x_aload (show am_code 223 1030 = some (.aload 0, 1) by decide +kernel) rfl rfl
theorem e_223_1031 {d : Nat} {x0 x1 x2 : Option Value} {v : Int32} {st : List Value} {h : am_H} : am_ev d 223 1031 [x0, x1, x2, some (.int v)] st h = am_ev d 223 1032 [x0, x1, x2, some (.int v)] (.int v :: st) h := x_iload (show am_code 223 1031 = some (.iload 3, 1) by decide +kernel) rfl rfl
theorem e_223_1032 {d : Nat} {ls : am_L} {st : List Value} {h : am_H} : am_ev d 223 1032 ls st h = am_ev d 223 1033 ls (.int 2 :: st) h := x_iconst (show am_code 223 1032 = some (.iconst 2, 1) by decide +kernel) (by decide +kernel) rfl
theorem e_223_1033 {d : Nat} {ls : am_L} {st : List Value} {h : am_H} {x y : Int32} : am_ev d 223 1033 ls (.int y :: .int x :: st) h = am_ev d 223 1034 ls (.int (x + y) :: st) h := x_iadd (show am_code 223 1033 = some (.iadd, 1) by decide +kernel) rfl
theorem e_223_1034 {d : Nat} {ls : am_L} {st : List Value} {h : am_H} {a : Nat} {i : Int32} : am_ev d 223 1034 ls (.int i :: .ref a :: st) h = am_ak (am_at h a) 0 10 i (fun v => am_ev d 223 1035 ls (.int v :: st) h) := x_iald (show am_code 223 1034 = some (.iaload, 1) by decide +kernel) rfl
theorem e_223_1035 {d : Nat} {x1 x2 x3 : Option Value} {v : Nat} {st : List Value} {h : am_H} : am_ev d 223 1035 [some (.ref v), x1, x2, x3] st h = am_ev d 223 1036 [some (.ref v), x1, x2, x3] (.ref v :: st) h := x_aload (show am_code 223 1035 = some (.aload 0, 1) by decide +kernel) rfl rfl
theorem e_223_1036 {d : Nat} {x0 x1 x2 : Option Value} {v : Int32} {st : List Value} {h : am_H} : am_ev d 223 1036 [x0, x1, x2, some (.int v)] st h = am_ev d 223 1037 [x0, x1, x2, some (.int v)] (.int v :: st) h := x_iload (show am_code 223 1036 = some (.iload 3, 1) by decide +kernel) rfl rfl
theorem e_223_1037 {d : Nat} {ls : am_L} {st : List Value} {h : am_H} : am_ev d 223 1037 ls st h = am_ev d 223 1038 ls (.int 3 :: st) h := x_iconst (show am_code 223 1037 = some (.iconst 3, 1) by decide +kernel) (by decide +kernel) rfl
theorem e_223_1038 {d : Nat} {ls : am_L} {st : List Value} {h : am_H} {x y : Int32} : am_ev d 223 1038 ls (.int y :: .int x :: st) h = am_ev d 223 1039 ls (.int (x + y) :: st) h := x_iadd (show am_code 223 1038 = some (.iadd, 1) by decide +kernel) rfl
theorem e_223_1039 {d : Nat} {ls : am_L} {st : List Value} {h : am_H} {a : Nat} {i : Int32} : am_ev d 223 1039 ls (.int i :: .ref a :: st) h = am_ak (am_at h a) 0 10 i (fun v => am_ev d 223 1040 ls (.int v :: st) h) := x_iald (show am_code 223 1039 = some (.iaload, 1) by decide +kernel) rfl
theorem e_223_1040 {d : Nat} {x1 x2 x3 : Option Value} {v : Nat} {st : List Value} {h : am_H} : am_ev d 223 1040 [some (.ref v), x1, x2, x3] st h = am_ev d 223 1041 [some (.ref v), x1, x2, x3] (.ref v :: st) h := x_aload (show am_code 223 1040 = some (.aload 0, 1) by decide +kernel) rfl rfl
theorem e_223_1041 {d : Nat} {x0 x1 x2 : Option Value} {v : Int32} {st : List Value} {h : am_H} : am_ev d 223 1041 [x0, x1, x2, some (.int v)] st h = am_ev d 223 1042 [x0, x1, x2, some (.int v)] (.int v :: st) h := x_iload (show am_code 223 1041 = some (.iload 3, 1) by decide +kernel) rfl rfl
theorem e_223_1042 {d : Nat} {ls : am_L} {st : List Value} {h : am_H} : am_ev d 223 1042 ls st h = am_ev d 223 1043 ls (.int 4 :: st) h := x_iconst (show am_code 223 1042 = some (.iconst 4, 1) by decide +kernel) (by decide +kernel) rfl
theorem e_223_1043 {d : Nat} {ls : am_L} {st : List Value} {h : am_H} {x y : Int32} : am_ev d 223 1043 ls (.int y :: .int x :: st) h = am_ev d 223 1044 ls (.int (x + y) :: st) h := x_iadd (show am_code 223 1043 = some (.iadd, 1) by decide +kernel) rfl
theorem e_223_1044 {d : Nat} {ls : am_L} {st : List Value} {h : am_H} {a : Nat} {i : Int32} : am_ev d 223 1044 ls (.int i :: .ref a :: st) h = am_ak (am_at h a) 0 10 i (fun v => am_ev d 223 1045 ls (.int v :: st) h) := x_iald (show am_code 223 1044 = some (.iaload, 1) by decide +kernel) rfl
theorem e_223_1045 {d : Nat} {x1 x2 x3 : Option Value} {v : Nat} {st : List Value} {h : am_H} : am_ev d 223 1045 [some (.ref v), x1, x2, x3] st h = am_ev d 223 1046 [some (.ref v), x1, x2, x3] (.ref v :: st) h := x_aload (show am_code 223 1045 = some (.aload 0, 1) by decide +kernel) rfl rfl
theorem e_223_1046 {d : Nat} {x0 x1 x2 : Option Value} {v : Int32} {st : List Value} {h : am_H} : am_ev d 223 1046 [x0, x1, x2, some (.int v)] st h = am_ev d 223 1047 [x0, x1, x2, some (.int v)] (.int v :: st) h := x_iload (show am_code 223 1046 = some (.iload 3, 1) by decide +kernel) rfl rfl
theorem e_223_1047 {d : Nat} {ls : am_L} {st : List Value} {h : am_H} : am_ev d 223 1047 ls st h = am_ev d 223 1048 ls (.int 5 :: st) h := x_iconst (show am_code 223 1047 = some (.iconst 5, 1) by decide +kernel) (by decide +kernel) rfl
theorem e_223_1048 {d : Nat} {ls : am_L} {st : List Value} {h : am_H} {x y : Int32} : am_ev d 223 1048 ls (.int y :: .int x :: st) h = am_ev d 223 1049 ls (.int (x + y) :: st) h := x_iadd (show am_code 223 1048 = some (.iadd, 1) by decide +kernel) rfl
theorem e_223_1049 {d : Nat} {ls : am_L} {st : List Value} {h : am_H} {a : Nat} {i : Int32} : am_ev d 223 1049 ls (.int i :: .ref a :: st) h = am_ak (am_at h a) 0 10 i (fun v => am_ev d 223 1050 ls (.int v :: st) h) := x_iald (show am_code 223 1049 = some (.iaload, 1) by decide +kernel) rfl
theorem e_223_1050 {d : Nat} {ls : am_L} {st : List Value} {h : am_H} {a : Nat} {v0 : Int32} {v1 : Int32} {v2 : Int32} {v3 : Int32} {v4 : Int32} (hw : am_wd st ≤ 8) (hi : am_is (am_at h a) 7 = true) : am_ev (d + 1) 223 1050 ls (.int v4 :: .int v3 :: .int v2 :: .int v1 :: .int v0 :: .ref a :: st) h = am_bk (d + 1) 223 1053 ls st (am_cal (d + 1) 113 [.ref a, .int v0, .int v1, .int v2, .int v3, .int v4] h) := x_inv (q := mt_113) (show am_code 223 1050 = some (.invokevirtual 113, 3) by decide +kernel) (Or.inl ⟨rfl, rfl⟩) mt_113_at rfl rfl rfl hw (Nat.le_of_ble_eq_true rfl) (fun _ => ⟨_, _, rfl, Or.inr hi⟩) rfl
theorem e_223_1053 {d : Nat} {x0 x1 x3 : Option Value} {v : Nat} {st : List Value} {h : am_H} : am_ev d 223 1053 [x0, x1, some (.ref v), x3] st h = am_ev d 223 1054 [x0, x1, some (.ref v), x3] (.ref v :: st) h := x_aload (show am_code 223 1053 = some (.aload 2, 1) by decide +kernel) rfl rfl
theorem e_223_1054 {d : Nat} {x1 x2 x3 : Option Value} {v : Nat} {st : List Value} {h : am_H} : am_ev d 223 1054 [some (.ref v), x1, x2, x3] st h = am_ev d 223 1055 [some (.ref v), x1, x2, x3] (.ref v :: st) h := x_aload (show am_code 223 1054 = some (.aload 0, 1) by decide +kernel) rfl rfl
theorem e_223_1055 {d : Nat} {x0 x1 x2 : Option Value} {v : Int32} {st : List Value} {h : am_H} : am_ev d 223 1055 [x0, x1, x2, some (.int v)] st h = am_ev d 223 1056 [x0, x1, x2, some (.int v)] (.int v :: st) h := x_iload (show am_code 223 1055 = some (.iload 3, 1) by decide +kernel) rfl rfl
theorem e_223_1056 {d : Nat} {ls : am_L} {st : List Value} {h : am_H} : am_ev d 223 1056 ls st h = am_ev d 223 1057 ls (.int 1 :: st) h := x_iconst (show am_code 223 1056 = some (.iconst 1, 1) by decide +kernel) (by decide +kernel) rfl
theorem e_223_1057 {d : Nat} {ls : am_L} {st : List Value} {h : am_H} {x y : Int32} : am_ev d 223 1057 ls (.int y :: .int x :: st) h = am_ev d 223 1058 ls (.int (x + y) :: st) h := x_iadd (show am_code 223 1057 = some (.iadd, 1) by decide +kernel) rfl
theorem e_223_1058 {d : Nat} {ls : am_L} {st : List Value} {h : am_H} {a : Nat} {i : Int32} : am_ev d 223 1058 ls (.int i :: .ref a :: st) h = am_ak (am_at h a) 0 10 i (fun v => am_ev d 223 1059 ls (.int v :: st) h) := x_iald (show am_code 223 1058 = some (.iaload, 1) by decide +kernel) rfl
theorem e_223_1059 {d : Nat} {x1 x2 x3 : Option Value} {v : Nat} {st : List Value} {h : am_H} : am_ev d 223 1059 [some (.ref v), x1, x2, x3] st h = am_ev d 223 1060 [some (.ref v), x1, x2, x3] (.ref v :: st) h := x_aload (show am_code 223 1059 = some (.aload 0, 1) by decide +kernel) rfl rfl
theorem e_223_1060 {d : Nat} {x0 x1 x2 : Option Value} {v : Int32} {st : List Value} {h : am_H} : am_ev d 223 1060 [x0, x1, x2, some (.int v)] st h = am_ev d 223 1061 [x0, x1, x2, some (.int v)] (.int v :: st) h := x_iload (show am_code 223 1060 = some (.iload 3, 1) by decide +kernel) rfl rfl
theorem e_223_1061 {d : Nat} {ls : am_L} {st : List Value} {h : am_H} : am_ev d 223 1061 ls st h = am_ev d 223 1062 ls (.int 2 :: st) h := x_iconst (show am_code 223 1061 = some (.iconst 2, 1) by decide +kernel) (by decide +kernel) rfl
theorem e_223_1062 {d : Nat} {ls : am_L} {st : List Value} {h : am_H} {x y : Int32} : am_ev d 223 1062 ls (.int y :: .int x :: st) h = am_ev d 223 1063 ls (.int (x + y) :: st) h := x_iadd (show am_code 223 1062 = some (.iadd, 1) by decide +kernel) rfl
theorem e_223_1063 {d : Nat} {ls : am_L} {st : List Value} {h : am_H} {a : Nat} {i : Int32} : am_ev d 223 1063 ls (.int i :: .ref a :: st) h = am_ak (am_at h a) 0 10 i (fun v => am_ev d 223 1064 ls (.int v :: st) h) := x_iald (show am_code 223 1063 = some (.iaload, 1) by decide +kernel) rfl
theorem e_223_1064 {d : Nat} {x1 x2 x3 : Option Value} {v : Nat} {st : List Value} {h : am_H} : am_ev d 223 1064 [some (.ref v), x1, x2, x3] st h = am_ev d 223 1065 [some (.ref v), x1, x2, x3] (.ref v :: st) h := x_aload (show am_code 223 1064 = some (.aload 0, 1) by decide +kernel) rfl rfl
theorem e_223_1065 {d : Nat} {x0 x1 x2 : Option Value} {v : Int32} {st : List Value} {h : am_H} : am_ev d 223 1065 [x0, x1, x2, some (.int v)] st h = am_ev d 223 1066 [x0, x1, x2, some (.int v)] (.int v :: st) h := x_iload (show am_code 223 1065 = some (.iload 3, 1) by decide +kernel) rfl rfl
theorem e_223_1066 {d : Nat} {ls : am_L} {st : List Value} {h : am_H} : am_ev d 223 1066 ls st h = am_ev d 223 1067 ls (.int 3 :: st) h := x_iconst (show am_code 223 1066 = some (.iconst 3, 1) by decide +kernel) (by decide +kernel) rfl
theorem e_223_1067 {d : Nat} {ls : am_L} {st : List Value} {h : am_H} {x y : Int32} : am_ev d 223 1067 ls (.int y :: .int x :: st) h = am_ev d 223 1068 ls (.int (x + y) :: st) h := x_iadd (show am_code 223 1067 = some (.iadd, 1) by decide +kernel) rfl
theorem e_223_1068 {d : Nat} {ls : am_L} {st : List Value} {h : am_H} {a : Nat} {i : Int32} : am_ev d 223 1068 ls (.int i :: .ref a :: st) h = am_ak (am_at h a) 0 10 i (fun v => am_ev d 223 1069 ls (.int v :: st) h) := x_iald (show am_code 223 1068 = some (.iaload, 1) by decide +kernel) rfl
theorem e_223_1069 {d : Nat} {x1 x2 x3 : Option Value} {v : Nat} {st : List Value} {h : am_H} : am_ev d 223 1069 [some (.ref v), x1, x2, x3] st h = am_ev d 223 1070 [some (.ref v), x1, x2, x3] (.ref v :: st) h := x_aload (show am_code 223 1069 = some (.aload 0, 1) by decide +kernel) rfl rfl
theorem e_223_1070 {d : Nat} {x0 x1 x2 : Option Value} {v : Int32} {st : List Value} {h : am_H} : am_ev d 223 1070 [x0, x1, x2, some (.int v)] st h = am_ev d 223 1071 [x0, x1, x2, some (.int v)] (.int v :: st) h := x_iload (show am_code 223 1070 = some (.iload 3, 1) by decide +kernel) rfl rfl
theorem e_223_1071 {d : Nat} {ls : am_L} {st : List Value} {h : am_H} : am_ev d 223 1071 ls st h = am_ev d 223 1072 ls (.int 4 :: st) h := x_iconst (show am_code 223 1071 = some (.iconst 4, 1) by decide +kernel) (by decide +kernel) rfl
theorem e_223_1072 {d : Nat} {ls : am_L} {st : List Value} {h : am_H} {x y : Int32} : am_ev d 223 1072 ls (.int y :: .int x :: st) h = am_ev d 223 1073 ls (.int (x + y) :: st) h := x_iadd (show am_code 223 1072 = some (.iadd, 1) by decide +kernel) rfl
theorem e_223_1073 {d : Nat} {ls : am_L} {st : List Value} {h : am_H} {a : Nat} {i : Int32} : am_ev d 223 1073 ls (.int i :: .ref a :: st) h = am_ak (am_at h a) 0 10 i (fun v => am_ev d 223 1074 ls (.int v :: st) h) := x_iald (show am_code 223 1073 = some (.iaload, 1) by decide +kernel) rfl
theorem e_223_1074 {d : Nat} {x1 x2 x3 : Option Value} {v : Nat} {st : List Value} {h : am_H} : am_ev d 223 1074 [some (.ref v), x1, x2, x3] st h = am_ev d 223 1075 [some (.ref v), x1, x2, x3] (.ref v :: st) h := x_aload (show am_code 223 1074 = some (.aload 0, 1) by decide +kernel) rfl rfl
theorem e_223_1075 {d : Nat} {x0 x1 x2 : Option Value} {v : Int32} {st : List Value} {h : am_H} : am_ev d 223 1075 [x0, x1, x2, some (.int v)] st h = am_ev d 223 1076 [x0, x1, x2, some (.int v)] (.int v :: st) h := x_iload (show am_code 223 1075 = some (.iload 3, 1) by decide +kernel) rfl rfl
theorem e_223_1076 {d : Nat} {ls : am_L} {st : List Value} {h : am_H} : am_ev d 223 1076 ls st h = am_ev d 223 1077 ls (.int 5 :: st) h := x_iconst (show am_code 223 1076 = some (.iconst 5, 1) by decide +kernel) (by decide +kernel) rfl
theorem e_223_1077 {d : Nat} {ls : am_L} {st : List Value} {h : am_H} {x y : Int32} : am_ev d 223 1077 ls (.int y :: .int x :: st) h = am_ev d 223 1078 ls (.int (x + y) :: st) h := x_iadd (show am_code 223 1077 = some (.iadd, 1) by decide +kernel) rfl
theorem e_223_1078 {d : Nat} {ls : am_L} {st : List Value} {h : am_H} {a : Nat} {i : Int32} : am_ev d 223 1078 ls (.int i :: .ref a :: st) h = am_ak (am_at h a) 0 10 i (fun v => am_ev d 223 1079 ls (.int v :: st) h) := x_iald (show am_code 223 1078 = some (.iaload, 1) by decide +kernel) rfl
theorem e_223_1079 {d : Nat} {ls : am_L} {st : List Value} {h : am_H} {a : Nat} {v0 : Int32} {v1 : Int32} {v2 : Int32} {v3 : Int32} {v4 : Int32} (hw : am_wd st ≤ 8) (hi : am_is (am_at h a) 8 = true) : am_ev (d + 1) 223 1079 ls (.int v4 :: .int v3 :: .int v2 :: .int v1 :: .int v0 :: .ref a :: st) h = am_bk (d + 1) 223 1082 ls st (am_cal (d + 1) 207 [.ref a, .int v0, .int v1, .int v2, .int v3, .int v4] h) := x_inv (q := mt_207) (show am_code 223 1079 = some (.invokevirtual 207, 3) by decide +kernel) (Or.inl ⟨rfl, rfl⟩) mt_207_at rfl rfl rfl hw (Nat.le_of_ble_eq_true rfl) (fun _ => ⟨_, _, rfl, Or.inr hi⟩) rfl
theorem e_223_1082 {d : Nat} {ls : am_L} {st : List Value} {h : am_H} {x y : Int32} : am_ev d 223 1082 ls (.int y :: .int x :: st) h = if x = y then am_ev d 223 1176 ls st h else am_ev d 223 1085 ls st h := x_icmp inferInstance (show am_code 223 1082 = some (.if_icmp .eq 1176, 3) by decide +kernel) rfl rfl (xc_eq _ _)
theorem e_223_1085 {d : Nat} {ls : am_L} {st : List Value} {h : am_H} : am_ev d 223 1085 ls st h = am_ev d 223 1086 ls (.int 0 :: st) h := x_iconst (show am_code 223 1085 = some (.iconst 0, 1) by decide +kernel) (by decide +kernel) rfl
theorem e_223_1086 {d : Nat} {ls : am_L} {h : am_H} {v : Int32} (hb : v &&& 1 = v) : am_ev d 223 1086 ls [.int v] h = some (some (.int v), h) := x_ret (q := mt_223) (show am_code 223 1086 = some (.ireturn, 1) by decide +kernel) mt_223_at rfl (am_n_bool hb)
theorem e_223_1087 {d : Nat} {x0 x2 x3 : Option Value} {v : Nat} {st : List Value} {h : am_H} : am_ev d 223 1087 [x0, some (.ref v), x2, x3] st h = am_ev d 223 1088 [x0, some (.ref v), x2, x3] (.ref v :: st) h := x_aload (show am_code 223 1087 = some (.aload 1, 1) by decide +kernel) rfl rfl
theorem e_223_1088 {d : Nat} {x1 x2 x3 : Option Value} {v : Nat} {st : List Value} {h : am_H} : am_ev d 223 1088 [some (.ref v), x1, x2, x3] st h = am_ev d 223 1089 [some (.ref v), x1, x2, x3] (.ref v :: st) h := x_aload (show am_code 223 1088 = some (.aload 0, 1) by decide +kernel) rfl rfl
theorem e_223_1089 {d : Nat} {x0 x1 x2 : Option Value} {v : Int32} {st : List Value} {h : am_H} : am_ev d 223 1089 [x0, x1, x2, some (.int v)] st h = am_ev d 223 1090 [x0, x1, x2, some (.int v)] (.int v :: st) h := x_iload (show am_code 223 1089 = some (.iload 3, 1) by decide +kernel) rfl rfl
theorem e_223_1090 {d : Nat} {ls : am_L} {st : List Value} {h : am_H} : am_ev d 223 1090 ls st h = am_ev d 223 1091 ls (.int 1 :: st) h := x_iconst (show am_code 223 1090 = some (.iconst 1, 1) by decide +kernel) (by decide +kernel) rfl
theorem e_223_1091 {d : Nat} {ls : am_L} {st : List Value} {h : am_H} {x y : Int32} : am_ev d 223 1091 ls (.int y :: .int x :: st) h = am_ev d 223 1092 ls (.int (x + y) :: st) h := x_iadd (show am_code 223 1091 = some (.iadd, 1) by decide +kernel) rfl
theorem e_223_1092 {d : Nat} {ls : am_L} {st : List Value} {h : am_H} {a : Nat} {i : Int32} : am_ev d 223 1092 ls (.int i :: .ref a :: st) h = am_ak (am_at h a) 0 10 i (fun v => am_ev d 223 1093 ls (.int v :: st) h) := x_iald (show am_code 223 1092 = some (.iaload, 1) by decide +kernel) rfl
theorem e_223_1093 {d : Nat} {x1 x2 x3 : Option Value} {v : Nat} {st : List Value} {h : am_H} : am_ev d 223 1093 [some (.ref v), x1, x2, x3] st h = am_ev d 223 1094 [some (.ref v), x1, x2, x3] (.ref v :: st) h := x_aload (show am_code 223 1093 = some (.aload 0, 1) by decide +kernel) rfl rfl
theorem e_223_1094 {d : Nat} {x0 x1 x2 : Option Value} {v : Int32} {st : List Value} {h : am_H} : am_ev d 223 1094 [x0, x1, x2, some (.int v)] st h = am_ev d 223 1095 [x0, x1, x2, some (.int v)] (.int v :: st) h := x_iload (show am_code 223 1094 = some (.iload 3, 1) by decide +kernel) rfl rfl
theorem e_223_1095 {d : Nat} {ls : am_L} {st : List Value} {h : am_H} : am_ev d 223 1095 ls st h = am_ev d 223 1096 ls (.int 2 :: st) h := x_iconst (show am_code 223 1095 = some (.iconst 2, 1) by decide +kernel) (by decide +kernel) rfl
theorem e_223_1096 {d : Nat} {ls : am_L} {st : List Value} {h : am_H} {x y : Int32} : am_ev d 223 1096 ls (.int y :: .int x :: st) h = am_ev d 223 1097 ls (.int (x + y) :: st) h := x_iadd (show am_code 223 1096 = some (.iadd, 1) by decide +kernel) rfl
theorem e_223_1097 {d : Nat} {ls : am_L} {st : List Value} {h : am_H} {a : Nat} {i : Int32} : am_ev d 223 1097 ls (.int i :: .ref a :: st) h = am_ak (am_at h a) 0 10 i (fun v => am_ev d 223 1098 ls (.int v :: st) h) := x_iald (show am_code 223 1097 = some (.iaload, 1) by decide +kernel) rfl
theorem e_223_1098 {d : Nat} {x1 x2 x3 : Option Value} {v : Nat} {st : List Value} {h : am_H} : am_ev d 223 1098 [some (.ref v), x1, x2, x3] st h = am_ev d 223 1099 [some (.ref v), x1, x2, x3] (.ref v :: st) h := x_aload (show am_code 223 1098 = some (.aload 0, 1) by decide +kernel) rfl rfl
theorem e_223_1099 {d : Nat} {x0 x1 x2 : Option Value} {v : Int32} {st : List Value} {h : am_H} : am_ev d 223 1099 [x0, x1, x2, some (.int v)] st h = am_ev d 223 1100 [x0, x1, x2, some (.int v)] (.int v :: st) h := x_iload (show am_code 223 1099 = some (.iload 3, 1) by decide +kernel) rfl rfl
theorem e_223_1100 {d : Nat} {ls : am_L} {st : List Value} {h : am_H} : am_ev d 223 1100 ls st h = am_ev d 223 1101 ls (.int 3 :: st) h := x_iconst (show am_code 223 1100 = some (.iconst 3, 1) by decide +kernel) (by decide +kernel) rfl
theorem e_223_1101 {d : Nat} {ls : am_L} {st : List Value} {h : am_H} {x y : Int32} : am_ev d 223 1101 ls (.int y :: .int x :: st) h = am_ev d 223 1102 ls (.int (x + y) :: st) h := x_iadd (show am_code 223 1101 = some (.iadd, 1) by decide +kernel) rfl
theorem e_223_1102 {d : Nat} {ls : am_L} {st : List Value} {h : am_H} {a : Nat} {i : Int32} : am_ev d 223 1102 ls (.int i :: .ref a :: st) h = am_ak (am_at h a) 0 10 i (fun v => am_ev d 223 1103 ls (.int v :: st) h) := x_iald (show am_code 223 1102 = some (.iaload, 1) by decide +kernel) rfl
theorem e_223_1103 {d : Nat} {ls : am_L} {st : List Value} {h : am_H} {a : Nat} {v0 : Int32} {v1 : Int32} {v2 : Int32} (hw : am_wd st ≤ 8) (hi : am_is (am_at h a) 7 = true) : am_ev (d + 1) 223 1103 ls (.int v2 :: .int v1 :: .int v0 :: .ref a :: st) h = am_bk (d + 1) 223 1106 ls st (am_cal (d + 1) 114 [.ref a, .int v0, .int v1, .int v2] h) := x_inv (q := mt_114) (show am_code 223 1103 = some (.invokevirtual 114, 3) by decide +kernel) (Or.inl ⟨rfl, rfl⟩) mt_114_at rfl rfl rfl hw (Nat.le_of_ble_eq_true rfl) (fun _ => ⟨_, _, rfl, Or.inr hi⟩) rfl
theorem e_223_1106 {d : Nat} {x0 x1 x3 : Option Value} {v : Nat} {st : List Value} {h : am_H} : am_ev d 223 1106 [x0, x1, some (.ref v), x3] st h = am_ev d 223 1107 [x0, x1, some (.ref v), x3] (.ref v :: st) h := x_aload (show am_code 223 1106 = some (.aload 2, 1) by decide +kernel) rfl rfl
theorem e_223_1107 {d : Nat} {x1 x2 x3 : Option Value} {v : Nat} {st : List Value} {h : am_H} : am_ev d 223 1107 [some (.ref v), x1, x2, x3] st h = am_ev d 223 1108 [some (.ref v), x1, x2, x3] (.ref v :: st) h := x_aload (show am_code 223 1107 = some (.aload 0, 1) by decide +kernel) rfl rfl
theorem e_223_1108 {d : Nat} {x0 x1 x2 : Option Value} {v : Int32} {st : List Value} {h : am_H} : am_ev d 223 1108 [x0, x1, x2, some (.int v)] st h = am_ev d 223 1109 [x0, x1, x2, some (.int v)] (.int v :: st) h := x_iload (show am_code 223 1108 = some (.iload 3, 1) by decide +kernel) rfl rfl
theorem e_223_1109 {d : Nat} {ls : am_L} {st : List Value} {h : am_H} : am_ev d 223 1109 ls st h = am_ev d 223 1110 ls (.int 1 :: st) h := x_iconst (show am_code 223 1109 = some (.iconst 1, 1) by decide +kernel) (by decide +kernel) rfl
theorem e_223_1110 {d : Nat} {ls : am_L} {st : List Value} {h : am_H} {x y : Int32} : am_ev d 223 1110 ls (.int y :: .int x :: st) h = am_ev d 223 1111 ls (.int (x + y) :: st) h := x_iadd (show am_code 223 1110 = some (.iadd, 1) by decide +kernel) rfl
theorem e_223_1111 {d : Nat} {ls : am_L} {st : List Value} {h : am_H} {a : Nat} {i : Int32} : am_ev d 223 1111 ls (.int i :: .ref a :: st) h = am_ak (am_at h a) 0 10 i (fun v => am_ev d 223 1112 ls (.int v :: st) h) := x_iald (show am_code 223 1111 = some (.iaload, 1) by decide +kernel) rfl
theorem e_223_1112 {d : Nat} {x1 x2 x3 : Option Value} {v : Nat} {st : List Value} {h : am_H} : am_ev d 223 1112 [some (.ref v), x1, x2, x3] st h = am_ev d 223 1113 [some (.ref v), x1, x2, x3] (.ref v :: st) h := x_aload (show am_code 223 1112 = some (.aload 0, 1) by decide +kernel) rfl rfl
theorem e_223_1113 {d : Nat} {x0 x1 x2 : Option Value} {v : Int32} {st : List Value} {h : am_H} : am_ev d 223 1113 [x0, x1, x2, some (.int v)] st h = am_ev d 223 1114 [x0, x1, x2, some (.int v)] (.int v :: st) h := x_iload (show am_code 223 1113 = some (.iload 3, 1) by decide +kernel) rfl rfl
theorem e_223_1114 {d : Nat} {ls : am_L} {st : List Value} {h : am_H} : am_ev d 223 1114 ls st h = am_ev d 223 1115 ls (.int 2 :: st) h := x_iconst (show am_code 223 1114 = some (.iconst 2, 1) by decide +kernel) (by decide +kernel) rfl
theorem e_223_1115 {d : Nat} {ls : am_L} {st : List Value} {h : am_H} {x y : Int32} : am_ev d 223 1115 ls (.int y :: .int x :: st) h = am_ev d 223 1116 ls (.int (x + y) :: st) h := x_iadd (show am_code 223 1115 = some (.iadd, 1) by decide +kernel) rfl
theorem e_223_1116 {d : Nat} {ls : am_L} {st : List Value} {h : am_H} {a : Nat} {i : Int32} : am_ev d 223 1116 ls (.int i :: .ref a :: st) h = am_ak (am_at h a) 0 10 i (fun v => am_ev d 223 1117 ls (.int v :: st) h) := x_iald (show am_code 223 1116 = some (.iaload, 1) by decide +kernel) rfl
theorem e_223_1117 {d : Nat} {x1 x2 x3 : Option Value} {v : Nat} {st : List Value} {h : am_H} : am_ev d 223 1117 [some (.ref v), x1, x2, x3] st h = am_ev d 223 1118 [some (.ref v), x1, x2, x3] (.ref v :: st) h := x_aload (show am_code 223 1117 = some (.aload 0, 1) by decide +kernel) rfl rfl
theorem e_223_1118 {d : Nat} {x0 x1 x2 : Option Value} {v : Int32} {st : List Value} {h : am_H} : am_ev d 223 1118 [x0, x1, x2, some (.int v)] st h = am_ev d 223 1119 [x0, x1, x2, some (.int v)] (.int v :: st) h := x_iload (show am_code 223 1118 = some (.iload 3, 1) by decide +kernel) rfl rfl
theorem e_223_1119 {d : Nat} {ls : am_L} {st : List Value} {h : am_H} : am_ev d 223 1119 ls st h = am_ev d 223 1120 ls (.int 3 :: st) h := x_iconst (show am_code 223 1119 = some (.iconst 3, 1) by decide +kernel) (by decide +kernel) rfl
theorem e_223_1120 {d : Nat} {ls : am_L} {st : List Value} {h : am_H} {x y : Int32} : am_ev d 223 1120 ls (.int y :: .int x :: st) h = am_ev d 223 1121 ls (.int (x + y) :: st) h := x_iadd (show am_code 223 1120 = some (.iadd, 1) by decide +kernel) rfl
theorem e_223_1121 {d : Nat} {ls : am_L} {st : List Value} {h : am_H} {a : Nat} {i : Int32} : am_ev d 223 1121 ls (.int i :: .ref a :: st) h = am_ak (am_at h a) 0 10 i (fun v => am_ev d 223 1122 ls (.int v :: st) h) := x_iald (show am_code 223 1121 = some (.iaload, 1) by decide +kernel) rfl
theorem e_223_1122 {d : Nat} {ls : am_L} {st : List Value} {h : am_H} {a : Nat} {v0 : Int32} {v1 : Int32} {v2 : Int32} (hw : am_wd st ≤ 8) (hi : am_is (am_at h a) 8 = true) : am_ev (d + 1) 223 1122 ls (.int v2 :: .int v1 :: .int v0 :: .ref a :: st) h = am_bk (d + 1) 223 1125 ls st (am_cal (d + 1) 208 [.ref a, .int v0, .int v1, .int v2] h) := x_inv (q := mt_208) (show am_code 223 1122 = some (.invokevirtual 208, 3) by decide +kernel) (Or.inl ⟨rfl, rfl⟩) mt_208_at rfl rfl rfl hw (Nat.le_of_ble_eq_true rfl) (fun _ => ⟨_, _, rfl, Or.inr hi⟩) rfl
theorem e_223_1125 {d : Nat} {ls : am_L} {st : List Value} {h : am_H} {x y : Int32} : am_ev d 223 1125 ls (.int y :: .int x :: st) h = if x = y then am_ev d 223 1176 ls st h else am_ev d 223 1128 ls st h := x_icmp inferInstance (show am_code 223 1125 = some (.if_icmp .eq 1176, 3) by decide +kernel) rfl rfl (xc_eq _ _)
theorem e_223_1128 {d : Nat} {ls : am_L} {st : List Value} {h : am_H} : am_ev d 223 1128 ls st h = am_ev d 223 1129 ls (.int 0 :: st) h := x_iconst (show am_code 223 1128 = some (.iconst 0, 1) by decide +kernel) (by decide +kernel) rfl
theorem e_223_1129 {d : Nat} {ls : am_L} {h : am_H} {v : Int32} (hb : v &&& 1 = v) : am_ev d 223 1129 ls [.int v] h = some (some (.int v), h) := x_ret (q := mt_223) (show am_code 223 1129 = some (.ireturn, 1) by decide +kernel) mt_223_at rfl (am_n_bool hb)
theorem e_223_1130 {d : Nat} {x0 x2 x3 : Option Value} {v : Nat} {st : List Value} {h : am_H} : am_ev d 223 1130 [x0, some (.ref v), x2, x3] st h = am_ev d 223 1131 [x0, some (.ref v), x2, x3] (.ref v :: st) h := x_aload (show am_code 223 1130 = some (.aload 1, 1) by decide +kernel) rfl rfl
theorem e_223_1131 {d : Nat} {x1 x2 x3 : Option Value} {v : Nat} {st : List Value} {h : am_H} : am_ev d 223 1131 [some (.ref v), x1, x2, x3] st h = am_ev d 223 1132 [some (.ref v), x1, x2, x3] (.ref v :: st) h := x_aload (show am_code 223 1131 = some (.aload 0, 1) by decide +kernel) rfl rfl
theorem e_223_1132 {d : Nat} {x0 x1 x2 : Option Value} {v : Int32} {st : List Value} {h : am_H} : am_ev d 223 1132 [x0, x1, x2, some (.int v)] st h = am_ev d 223 1133 [x0, x1, x2, some (.int v)] (.int v :: st) h := x_iload (show am_code 223 1132 = some (.iload 3, 1) by decide +kernel) rfl rfl
theorem e_223_1133 {d : Nat} {ls : am_L} {st : List Value} {h : am_H} : am_ev d 223 1133 ls st h = am_ev d 223 1134 ls (.int 1 :: st) h := x_iconst (show am_code 223 1133 = some (.iconst 1, 1) by decide +kernel) (by decide +kernel) rfl
theorem e_223_1134 {d : Nat} {ls : am_L} {st : List Value} {h : am_H} {x y : Int32} : am_ev d 223 1134 ls (.int y :: .int x :: st) h = am_ev d 223 1135 ls (.int (x + y) :: st) h := x_iadd (show am_code 223 1134 = some (.iadd, 1) by decide +kernel) rfl
theorem e_223_1135 {d : Nat} {ls : am_L} {st : List Value} {h : am_H} {a : Nat} {i : Int32} : am_ev d 223 1135 ls (.int i :: .ref a :: st) h = am_ak (am_at h a) 0 10 i (fun v => am_ev d 223 1136 ls (.int v :: st) h) := x_iald (show am_code 223 1135 = some (.iaload, 1) by decide +kernel) rfl
theorem e_223_1136 {d : Nat} {ls : am_L} {st : List Value} {h : am_H} {a : Nat} {v0 : Int32} (hw : am_wd st ≤ 8) (hi : am_is (am_at h a) 7 = true) : am_ev (d + 1) 223 1136 ls (.int v0 :: .ref a :: st) h = am_bk (d + 1) 223 1139 ls st (am_cal (d + 1) 115 [.ref a, .int v0] h) := x_inv (q := mt_115) (show am_code 223 1136 = some (.invokevirtual 115, 3) by decide +kernel) (Or.inl ⟨rfl, rfl⟩) mt_115_at rfl rfl rfl hw (Nat.le_of_ble_eq_true rfl) (fun _ => ⟨_, _, rfl, Or.inr hi⟩) rfl
theorem e_223_1139 {d : Nat} {x0 x1 x3 : Option Value} {v : Nat} {st : List Value} {h : am_H} : am_ev d 223 1139 [x0, x1, some (.ref v), x3] st h = am_ev d 223 1140 [x0, x1, some (.ref v), x3] (.ref v :: st) h := x_aload (show am_code 223 1139 = some (.aload 2, 1) by decide +kernel) rfl rfl
theorem e_223_1140 {d : Nat} {x1 x2 x3 : Option Value} {v : Nat} {st : List Value} {h : am_H} : am_ev d 223 1140 [some (.ref v), x1, x2, x3] st h = am_ev d 223 1141 [some (.ref v), x1, x2, x3] (.ref v :: st) h := x_aload (show am_code 223 1140 = some (.aload 0, 1) by decide +kernel) rfl rfl
theorem e_223_1141 {d : Nat} {x0 x1 x2 : Option Value} {v : Int32} {st : List Value} {h : am_H} : am_ev d 223 1141 [x0, x1, x2, some (.int v)] st h = am_ev d 223 1142 [x0, x1, x2, some (.int v)] (.int v :: st) h := x_iload (show am_code 223 1141 = some (.iload 3, 1) by decide +kernel) rfl rfl
theorem e_223_1142 {d : Nat} {ls : am_L} {st : List Value} {h : am_H} : am_ev d 223 1142 ls st h = am_ev d 223 1143 ls (.int 1 :: st) h := x_iconst (show am_code 223 1142 = some (.iconst 1, 1) by decide +kernel) (by decide +kernel) rfl
theorem e_223_1143 {d : Nat} {ls : am_L} {st : List Value} {h : am_H} {x y : Int32} : am_ev d 223 1143 ls (.int y :: .int x :: st) h = am_ev d 223 1144 ls (.int (x + y) :: st) h := x_iadd (show am_code 223 1143 = some (.iadd, 1) by decide +kernel) rfl
theorem e_223_1144 {d : Nat} {ls : am_L} {st : List Value} {h : am_H} {a : Nat} {i : Int32} : am_ev d 223 1144 ls (.int i :: .ref a :: st) h = am_ak (am_at h a) 0 10 i (fun v => am_ev d 223 1145 ls (.int v :: st) h) := x_iald (show am_code 223 1144 = some (.iaload, 1) by decide +kernel) rfl
theorem e_223_1145 {d : Nat} {ls : am_L} {st : List Value} {h : am_H} {a : Nat} {v0 : Int32} (hw : am_wd st ≤ 8) (hi : am_is (am_at h a) 8 = true) : am_ev (d + 1) 223 1145 ls (.int v0 :: .ref a :: st) h = am_bk (d + 1) 223 1148 ls st (am_cal (d + 1) 209 [.ref a, .int v0] h) := x_inv (q := mt_209) (show am_code 223 1145 = some (.invokevirtual 209, 3) by decide +kernel) (Or.inl ⟨rfl, rfl⟩) mt_209_at rfl rfl rfl hw (Nat.le_of_ble_eq_true rfl) (fun _ => ⟨_, _, rfl, Or.inr hi⟩) rfl
theorem e_223_1148 {d : Nat} {ls : am_L} {st : List Value} {h : am_H} {x y : Int32} : am_ev d 223 1148 ls (.int y :: .int x :: st) h = if x = y then am_ev d 223 1176 ls st h else am_ev d 223 1151 ls st h := x_icmp inferInstance (show am_code 223 1148 = some (.if_icmp .eq 1176, 3) by decide +kernel) rfl rfl (xc_eq _ _)
theorem e_223_1151 {d : Nat} {ls : am_L} {st : List Value} {h : am_H} : am_ev d 223 1151 ls st h = am_ev d 223 1152 ls (.int 0 :: st) h := x_iconst (show am_code 223 1151 = some (.iconst 0, 1) by decide +kernel) (by decide +kernel) rfl
theorem e_223_1152 {d : Nat} {ls : am_L} {h : am_H} {v : Int32} (hb : v &&& 1 = v) : am_ev d 223 1152 ls [.int v] h = some (some (.int v), h) := x_ret (q := mt_223) (show am_code 223 1152 = some (.ireturn, 1) by decide +kernel) mt_223_at rfl (am_n_bool hb)
theorem e_223_1153 {d : Nat} {x0 x2 x3 : Option Value} {v : Nat} {st : List Value} {h : am_H} : am_ev d 223 1153 [x0, some (.ref v), x2, x3] st h = am_ev d 223 1154 [x0, some (.ref v), x2, x3] (.ref v :: st) h := x_aload (show am_code 223 1153 = some (.aload 1, 1) by decide +kernel) rfl rfl
theorem e_223_1154 {d : Nat} {x1 x2 x3 : Option Value} {v : Nat} {st : List Value} {h : am_H} : am_ev d 223 1154 [some (.ref v), x1, x2, x3] st h = am_ev d 223 1155 [some (.ref v), x1, x2, x3] (.ref v :: st) h := x_aload (show am_code 223 1154 = some (.aload 0, 1) by decide +kernel) rfl rfl
theorem e_223_1155 {d : Nat} {x0 x1 x2 : Option Value} {v : Int32} {st : List Value} {h : am_H} : am_ev d 223 1155 [x0, x1, x2, some (.int v)] st h = am_ev d 223 1156 [x0, x1, x2, some (.int v)] (.int v :: st) h := x_iload (show am_code 223 1155 = some (.iload 3, 1) by decide +kernel) rfl rfl
theorem e_223_1156 {d : Nat} {ls : am_L} {st : List Value} {h : am_H} : am_ev d 223 1156 ls st h = am_ev d 223 1157 ls (.int 1 :: st) h := x_iconst (show am_code 223 1156 = some (.iconst 1, 1) by decide +kernel) (by decide +kernel) rfl
theorem e_223_1157 {d : Nat} {ls : am_L} {st : List Value} {h : am_H} {x y : Int32} : am_ev d 223 1157 ls (.int y :: .int x :: st) h = am_ev d 223 1158 ls (.int (x + y) :: st) h := x_iadd (show am_code 223 1157 = some (.iadd, 1) by decide +kernel) rfl
theorem e_223_1158 {d : Nat} {ls : am_L} {st : List Value} {h : am_H} {a : Nat} {i : Int32} : am_ev d 223 1158 ls (.int i :: .ref a :: st) h = am_ak (am_at h a) 0 10 i (fun v => am_ev d 223 1159 ls (.int v :: st) h) := x_iald (show am_code 223 1158 = some (.iaload, 1) by decide +kernel) rfl
theorem e_223_1159 {d : Nat} {ls : am_L} {st : List Value} {h : am_H} {a : Nat} {v0 : Int32} (hw : am_wd st ≤ 8) (hi : am_is (am_at h a) 7 = true) : am_ev (d + 1) 223 1159 ls (.int v0 :: .ref a :: st) h = am_bk (d + 1) 223 1162 ls st (am_cal (d + 1) 116 [.ref a, .int v0] h) := x_inv (q := mt_116) (show am_code 223 1159 = some (.invokevirtual 116, 3) by decide +kernel) (Or.inl ⟨rfl, rfl⟩) mt_116_at rfl rfl rfl hw (Nat.le_of_ble_eq_true rfl) (fun _ => ⟨_, _, rfl, Or.inr hi⟩) rfl
theorem e_223_1162 {d : Nat} {x0 x1 x3 : Option Value} {v : Nat} {st : List Value} {h : am_H} : am_ev d 223 1162 [x0, x1, some (.ref v), x3] st h = am_ev d 223 1163 [x0, x1, some (.ref v), x3] (.ref v :: st) h := x_aload (show am_code 223 1162 = some (.aload 2, 1) by decide +kernel) rfl rfl
theorem e_223_1163 {d : Nat} {x1 x2 x3 : Option Value} {v : Nat} {st : List Value} {h : am_H} : am_ev d 223 1163 [some (.ref v), x1, x2, x3] st h = am_ev d 223 1164 [some (.ref v), x1, x2, x3] (.ref v :: st) h := x_aload (show am_code 223 1163 = some (.aload 0, 1) by decide +kernel) rfl rfl
theorem e_223_1164 {d : Nat} {x0 x1 x2 : Option Value} {v : Int32} {st : List Value} {h : am_H} : am_ev d 223 1164 [x0, x1, x2, some (.int v)] st h = am_ev d 223 1165 [x0, x1, x2, some (.int v)] (.int v :: st) h := x_iload (show am_code 223 1164 = some (.iload 3, 1) by decide +kernel) rfl rfl
theorem e_223_1165 {d : Nat} {ls : am_L} {st : List Value} {h : am_H} : am_ev d 223 1165 ls st h = am_ev d 223 1166 ls (.int 1 :: st) h := x_iconst (show am_code 223 1165 = some (.iconst 1, 1) by decide +kernel) (by decide +kernel) rfl
theorem e_223_1166 {d : Nat} {ls : am_L} {st : List Value} {h : am_H} {x y : Int32} : am_ev d 223 1166 ls (.int y :: .int x :: st) h = am_ev d 223 1167 ls (.int (x + y) :: st) h := x_iadd (show am_code 223 1166 = some (.iadd, 1) by decide +kernel) rfl
theorem e_223_1167 {d : Nat} {ls : am_L} {st : List Value} {h : am_H} {a : Nat} {i : Int32} : am_ev d 223 1167 ls (.int i :: .ref a :: st) h = am_ak (am_at h a) 0 10 i (fun v => am_ev d 223 1168 ls (.int v :: st) h) := x_iald (show am_code 223 1167 = some (.iaload, 1) by decide +kernel) rfl
theorem e_223_1168 {d : Nat} {ls : am_L} {st : List Value} {h : am_H} {a : Nat} {v0 : Int32} (hw : am_wd st ≤ 8) (hi : am_is (am_at h a) 8 = true) : am_ev (d + 1) 223 1168 ls (.int v0 :: .ref a :: st) h = am_bk (d + 1) 223 1171 ls st (am_cal (d + 1) 211 [.ref a, .int v0] h) := x_inv (q := mt_211) (show am_code 223 1168 = some (.invokevirtual 211, 3) by decide +kernel) (Or.inl ⟨rfl, rfl⟩) mt_211_at rfl rfl rfl hw (Nat.le_of_ble_eq_true rfl) (fun _ => ⟨_, _, rfl, Or.inr hi⟩) rfl
theorem e_223_1171 {d : Nat} {ls : am_L} {st : List Value} {h : am_H} {x y : Int32} : am_ev d 223 1171 ls (.int y :: .int x :: st) h = if x = y then am_ev d 223 1176 ls st h else am_ev d 223 1174 ls st h := x_icmp inferInstance (show am_code 223 1171 = some (.if_icmp .eq 1176, 3) by decide +kernel) rfl rfl (xc_eq _ _)
theorem e_223_1174 {d : Nat} {ls : am_L} {st : List Value} {h : am_H} : am_ev d 223 1174 ls st h = am_ev d 223 1175 ls (.int 0 :: st) h := x_iconst (show am_code 223 1174 = some (.iconst 0, 1) by decide +kernel) (by decide +kernel) rfl
theorem e_223_1175 {d : Nat} {ls : am_L} {h : am_H} {v : Int32} (hb : v &&& 1 = v) : am_ev d 223 1175 ls [.int v] h = some (some (.int v), h) := x_ret (q := mt_223) (show am_code 223 1175 = some (.ireturn, 1) by decide +kernel) mt_223_at rfl (am_n_bool hb)
theorem e_223_1176 {d : Nat} {x0 x1 x2 : Option Value} {v : Int32} {st : List Value} {h : am_H} (hx : am_lg x2 = false) : am_ev d 223 1176 [x0, x1, x2, some (.int v)] st h = am_ev d 223 1179 [x0, x1, x2, some (.int (v + 6))] st h := x_iinc (show am_code 223 1176 = some (.iinc 3 6, 3) by decide +kernel) (by decide +kernel) rfl (p_4_3 hx) rfl
theorem e_223_1179 {d : Nat} {ls : am_L} {st : List Value} {h : am_H} : am_ev d 223 1179 ls st h = am_ev d 223 18 ls st h := x_goto (show am_code 223 1179 = some (.goto 18, 3) by decide +kernel) rfl
theorem e_223_1182 {d : Nat} {ls : am_L} {st : List Value} {h : am_H} : am_ev d 223 1182 ls st h = am_ev d 223 1183 ls (.int 1 :: st) h := x_iconst (show am_code 223 1182 = some (.iconst 1, 1) by decide +kernel) (by decide +kernel) rfl
theorem e_223_1183 {d : Nat} {ls : am_L} {h : am_H} {v : Int32} (hb : v &&& 1 = v) : am_ev d 223 1183 ls [.int v] h = some (some (.int v), h) := x_ret (q := mt_223) (show am_code 223 1183 = some (.ireturn, 1) by decide +kernel) mt_223_at rfl (am_n_bool hb)
theorem b_223 (d : Nat) (as : List Value) (h : am_H) : am_cal (d + 1) 223 as h = am_ev d 223 0 (am_ini 4 as) [] h := (am_cal_ev d 223 as h).trans (by rw [mt_223_at]; rfl)
