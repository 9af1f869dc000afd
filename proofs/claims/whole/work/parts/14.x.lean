/-! equations of the abstract machine, an instruction each -/
section AMX
variable {d k pc pc' m : Nat} {ls ls' : am_L} {st : List Value} {h : am_H}
theorem x_iconst {n : Int} {v : Int32} (hc : am_code k pc = some (.iconst n, m)) (hv : Int32.ofInt n = v) (hp : pc + m = pc') : am_ev d k pc ls st h = am_ev d k pc' ls (.int v :: st) h := by
  subst hv; subst hp; exact am_ev_on hc
theorem x_bipush {n : Int} {v : Int32} (hc : am_code k pc = some (.bipush n, m)) (hv : (Int8.ofInt n).toInt32 = v) (hp : pc + m = pc') : am_ev d k pc ls st h = am_ev d k pc' ls (.int v :: st) h := by
  subst hv; subst hp; exact am_ev_on hc
theorem x_sipush {n : Int} {v : Int32} (hc : am_code k pc = some (.sipush n, m)) (hv : (Int16.ofInt n).toInt32 = v) (hp : pc + m = pc') : am_ev d k pc ls st h = am_ev d k pc' ls (.int v :: st) h := by
  subst hv; subst hp; exact am_ev_on hc
theorem x_lconst {n : Fin 2} {v : Int64} (hc : am_code k pc = some (.lconst n, m)) (hv : Int64.ofNat n.val = v) (hp : pc + m = pc') : am_ev d k pc ls st h = am_ev d k pc' ls (.long v :: st) h := by
  subst hv; subst hp; exact am_ev_on hc
theorem x_jsr_w {n : Int} {v : Int64} (hc : am_code k pc = some (.jsr_w n, m)) (hv : Int64.ofInt n = v) (hp : pc + m = pc') : am_ev d k pc ls st h = am_ev d k pc' ls (.long v :: st) h := by
  subst hv; subst hp; exact am_ev_on hc
theorem x_ldc {n a : Nat} (hc : am_code k pc = some (.ldc n, m)) (ha : 1000000 + n = a) (hp : pc + m = pc') : am_ev d k pc ls st h = am_ev d k pc' ls (.ref a :: st) h := by
  subst ha; subst hp; exact am_ev_on hc
theorem x_getstatic {n : Nat} {v : Value} {q : String × String × String × Value} (hc : am_code k pc = some (.getstatic n, m)) (hv : am_sv[n]? = some q) (hq : q.2.2.2 = v) (hp : pc + m = pc') : am_ev d k pc ls st h = am_ev d k pc' ls (v :: st) h := by
  subst hq; subst hp
  refine (am_ev_on hc).trans ?_
  simp only [am_ins, hv]
  rfl
theorem x_iload {i : Nat} {x : Int32} (hc : am_code k pc = some (.iload i, m)) (hg : am_get ls i = some (.int x)) (hp : pc + m = pc') : am_ev d k pc ls st h = am_ev d k pc' ls (.int x :: st) h := by
  subst hp
  refine (am_ev_on hc).trans ?_
  simp only [am_ins, am_ld, hg]
  rfl
theorem x_aload {i a : Nat} (hc : am_code k pc = some (.aload i, m)) (hg : am_get ls i = some (.ref a)) (hp : pc + m = pc') : am_ev d k pc ls st h = am_ev d k pc' ls (.ref a :: st) h := by
  subst hp
  refine (am_ev_on hc).trans ?_
  simp only [am_ins, am_ld, hg]
  rfl
theorem x_lload {i : Nat} {x : Int64} (hc : am_code k pc = some (.lload i, m)) (hg : am_get ls i = some (.long x)) (hp : pc + m = pc') : am_ev d k pc ls st h = am_ev d k pc' ls (.long x :: st) h := by
  subst hp
  refine (am_ev_on hc).trans ?_
  simp only [am_ins, am_ld, hg]
  rfl
theorem x_istore {i : Nat} {x : Int32} (hc : am_code k pc = some (.istore i, m)) (hg : am_put ls i (.int x) = some ls') (hp : pc + m = pc') : am_ev d k pc ls (.int x :: st) h = am_ev d k pc' ls' st h := by
  subst hp
  refine (am_ev_on hc).trans ?_
  simp only [am_ins, am_stI, hg]
  rfl
theorem x_astore {i a : Nat} (hc : am_code k pc = some (.astore i, m)) (hg : am_put ls i (.ref a) = some ls') (hp : pc + m = pc') : am_ev d k pc ls (.ref a :: st) h = am_ev d k pc' ls' st h := by
  subst hp
  refine (am_ev_on hc).trans ?_
  simp only [am_ins, am_stA, hg]
  rfl
theorem x_lstore {i : Nat} {x : Int64} (hc : am_code k pc = some (.lstore i, m)) (hg : am_put2 ls i (.long x) = some ls') (hp : pc + m = pc') : am_ev d k pc ls (.long x :: st) h = am_ev d k pc' ls' st h := by
  subst hp
  refine (am_ev_on hc).trans ?_
  simp only [am_ins, am_stL, hg]
  rfl
theorem x_iinc {i : Nat} {n : Int} {x v : Int32} (hc : am_code k pc = some (.iinc i n, m)) (hv : Int32.ofInt n = v) (hx : am_get ls i = some (.int x)) (hg : am_put ls i (.int (x + v)) = some ls') (hp : pc + m = pc') : am_ev d k pc ls st h = am_ev d k pc' ls' st h := by
  subst hp; subst hv
  refine (am_ev_on hc).trans ?_
  simp only [am_ins, am_inc, hx, hg]
  rfl
theorem x_iadd {x y : Int32} (hc : am_code k pc = some (.iadd, m)) (hp : pc + m = pc') : am_ev d k pc ls (.int y :: .int x :: st) h = am_ev d k pc' ls (.int (x + y) :: st) h := by
  subst hp; exact am_ev_on hc
theorem x_isub {x y : Int32} (hc : am_code k pc = some (.isub, m)) (hp : pc + m = pc') : am_ev d k pc ls (.int y :: .int x :: st) h = am_ev d k pc' ls (.int (x - y) :: st) h := by
  subst hp; exact am_ev_on hc
theorem x_imul {x y : Int32} (hc : am_code k pc = some (.imul, m)) (hp : pc + m = pc') : am_ev d k pc ls (.int y :: .int x :: st) h = am_ev d k pc' ls (.int (x * y) :: st) h := by
  subst hp; exact am_ev_on hc
theorem x_iand {x y : Int32} (hc : am_code k pc = some (.iand, m)) (hp : pc + m = pc') : am_ev d k pc ls (.int y :: .int x :: st) h = am_ev d k pc' ls (.int (x &&& y) :: st) h := by
  subst hp; exact am_ev_on hc
theorem x_ior {x y : Int32} (hc : am_code k pc = some (.ior, m)) (hp : pc + m = pc') : am_ev d k pc ls (.int y :: .int x :: st) h = am_ev d k pc' ls (.int (x ||| y) :: st) h := by
  subst hp; exact am_ev_on hc
theorem x_ixor {x y : Int32} (hc : am_code k pc = some (.ixor, m)) (hp : pc + m = pc') : am_ev d k pc ls (.int y :: .int x :: st) h = am_ev d k pc' ls (.int (x ^^^ y) :: st) h := by
  subst hp; exact am_ev_on hc
theorem x_ishl {x y : Int32} (hc : am_code k pc = some (.ishl, m)) (hp : pc + m = pc') : am_ev d k pc ls (.int y :: .int x :: st) h = am_ev d k pc' ls (.int (x <<< (y &&& 31)) :: st) h := by
  subst hp; exact am_ev_on hc
theorem x_ishr {x y : Int32} (hc : am_code k pc = some (.ishr, m)) (hp : pc + m = pc') : am_ev d k pc ls (.int y :: .int x :: st) h = am_ev d k pc' ls (.int (x >>> (y &&& 31)) :: st) h := by
  subst hp; exact am_ev_on hc
theorem x_iushr {x y : Int32} (hc : am_code k pc = some (.iushr, m)) (hp : pc + m = pc') : am_ev d k pc ls (.int y :: .int x :: st) h = am_ev d k pc' ls (.int ((x.toUInt32 >>> (y.toUInt32 &&& Int32.toUInt32 31)).toInt32) :: st) h := by
  subst hp; exact am_ev_on hc
theorem x_idiv {x y : Int32} (hc : am_code k pc = some (.idiv, m)) (hp : pc + m = pc') : am_ev d k pc ls (.int y :: .int x :: st) h = if y = 0 then none else am_ev d k pc' ls (.int (x / y) :: st) h := by
  subst hp
  refine (am_ev_on hc).trans ?_
  simp only [am_ins, am_div]
  split <;> rfl
theorem x_irem {x y : Int32} (hc : am_code k pc = some (.irem, m)) (hp : pc + m = pc') : am_ev d k pc ls (.int y :: .int x :: st) h = if y = 0 then none else am_ev d k pc' ls (.int (x - x / y * y) :: st) h := by
  subst hp
  refine (am_ev_on hc).trans ?_
  simp only [am_ins, am_div]
  split <;> rfl
theorem x_lmul {x y : Int64} (hc : am_code k pc = some (.lmul, m)) (hp : pc + m = pc') : am_ev d k pc ls (.long y :: .long x :: st) h = am_ev d k pc' ls (.long (x * y) :: st) h := by
  subst hp; exact am_ev_on hc
theorem x_lsub {x y : Int64} (hc : am_code k pc = some (.lsub, m)) (hp : pc + m = pc') : am_ev d k pc ls (.long y :: .long x :: st) h = am_ev d k pc' ls (.long (x - y) :: st) h := by
  subst hp; exact am_ev_on hc
theorem x_ldiv {x y : Int64} (hc : am_code k pc = some (.ldiv, m)) (hp : pc + m = pc') : am_ev d k pc ls (.long y :: .long x :: st) h = if y = 0 then none else am_ev d k pc' ls (.long (x / y) :: st) h := by
  subst hp
  refine (am_ev_on hc).trans ?_
  simp only [am_ins, am_ldv]
  split <;> rfl
theorem x_lrem {x y : Int64} (hc : am_code k pc = some (.lrem, m)) (hp : pc + m = pc') : am_ev d k pc ls (.long y :: .long x :: st) h = if y = 0 then none else am_ev d k pc' ls (.long (x - x / y * y) :: st) h := by
  subst hp
  refine (am_ev_on hc).trans ?_
  simp only [am_ins, am_ldv]
  split <;> rfl
theorem x_lcmp {x y : Int64} (hc : am_code k pc = some (.lcmp, m)) (hp : pc + m = pc') : am_ev d k pc ls (.long y :: .long x :: st) h = am_ev d k pc' ls (.int (lg_cmp x y) :: st) h := by
  subst hp; exact am_ev_on hc
theorem x_i2l {x : Int32} (hc : am_code k pc = some (.i2l, m)) (hp : pc + m = pc') : am_ev d k pc ls (.int x :: st) h = am_ev d k pc' ls (.long x.toInt64 :: st) h := by
  subst hp; exact am_ev_on hc
theorem x_l2i {x : Int64} (hc : am_code k pc = some (.l2i, m)) (hp : pc + m = pc') : am_ev d k pc ls (.long x :: st) h = am_ev d k pc' ls (.int x.toInt32 :: st) h := by
  subst hp; exact am_ev_on hc
theorem x_i2c {x : Int32} (hc : am_code k pc = some (.i2c, m)) (hp : pc + m = pc') : am_ev d k pc ls (.int x :: st) h = am_ev d k pc' ls (.int (x.toUInt32 % 65536).toInt32 :: st) h := by
  subst hp; exact am_ev_on hc
theorem x_dupI {x : Int32} (hc : am_code k pc = some (.dup, m)) (hp : pc + m = pc') : am_ev d k pc ls (.int x :: st) h = am_ev d k pc' ls (.int x :: .int x :: st) h := by
  subst hp; exact am_ev_on hc
theorem x_dupA {x : Nat} (hc : am_code k pc = some (.dup, m)) (hp : pc + m = pc') : am_ev d k pc ls (.ref x :: st) h = am_ev d k pc' ls (.ref x :: .ref x :: st) h := by
  subst hp; exact am_ev_on hc
theorem x_dup2 {x : Int32} {a : Nat} (hc : am_code k pc = some (.dup2, m)) (hp : pc + m = pc') : am_ev d k pc ls (.int x :: .ref a :: st) h = am_ev d k pc' ls (.int x :: .ref a :: .int x :: .ref a :: st) h := by
  subst hp; exact am_ev_on hc
theorem x_popI {x : Int32} (hc : am_code k pc = some (.pop, m)) (hp : pc + m = pc') : am_ev d k pc ls (.int x :: st) h = am_ev d k pc' ls st h := by
  subst hp; exact am_ev_on hc
theorem x_goto {t : Int} (hc : am_code k pc = some (.goto t, m)) (hp : t.toNat = pc') : am_ev d k pc ls st h = am_ev d k pc' ls st h := by
  subst hp; exact am_ev_on hc
theorem x_if {q : Jvm.ClassFile.Cond} {t : Int} {tg : Nat} {x : Int32} {P : Prop} (pd : Decidable P) (hc : am_code k pc = some (.ifCond q t, m)) (ht : t.toNat = tg) (hp : pc + m = pc') (hP : am_cond q x 0 = true ↔ P) : am_ev d k pc ls (.int x :: st) h = @ite _ P pd (am_ev d k tg ls st h) (am_ev d k pc' ls st h) := by
  subst hp; subst ht
  refine (am_ev_on hc).trans ?_
  by_cases hb : P
  · rw [if_pos hb]
    show am_ev d k (if am_cond q x 0 = true then _ else _) _ _ _ = _
    rw [if_pos (hP.mpr hb)]
  · rw [if_neg hb]
    show am_ev d k (if am_cond q x 0 = true then _ else _) _ _ _ = _
    rw [if_neg (fun z => hb (hP.mp z))]
theorem x_icmp {q : Jvm.ClassFile.Cond} {t : Int} {tg : Nat} {x y : Int32} {P : Prop} (pd : Decidable P) (hc : am_code k pc = some (.if_icmp q t, m)) (ht : t.toNat = tg) (hp : pc + m = pc') (hP : am_cond q x y = true ↔ P) : am_ev d k pc ls (.int y :: .int x :: st) h = @ite _ P pd (am_ev d k tg ls st h) (am_ev d k pc' ls st h) := by
  subst hp; subst ht
  refine (am_ev_on hc).trans ?_
  by_cases hb : P
  · rw [if_pos hb]
    show am_ev d k (if am_cond q x y = true then _ else _) _ _ _ = _
    rw [if_pos (hP.mpr hb)]
  · rw [if_neg hb]
    show am_ev d k (if am_cond q x y = true then _ else _) _ _ _ = _
    rw [if_neg (fun z => hb (hP.mp z))]
theorem xc_eq (x y : Int32) : am_cond .eq x y = true ↔ x = y := by simp [am_cond]
theorem xc_ne (x y : Int32) : am_cond .ne x y = true ↔ ¬ x = y := by simp [am_cond]
theorem xc_lt (x y : Int32) : am_cond .lt x y = true ↔ x < y := by simp [am_cond]
theorem xc_ge (x y : Int32) : am_cond .ge x y = true ↔ y ≤ x := by simp [am_cond]
theorem xc_gt (x y : Int32) : am_cond .gt x y = true ↔ y < x := by simp [am_cond]
theorem xc_le (x y : Int32) : am_cond .le x y = true ↔ x ≤ y := by simp [am_cond]
theorem x_acmpE {t : Int} {tg a b : Nat} (hc : am_code k pc = some (.if_acmp .eq t, m)) (ht : t.toNat = tg) (hp : pc + m = pc') (ha : 1000001 < a ∧ a < 1000007) (hb : 1000001 < b ∧ b < 1000007) : am_ev d k pc ls (.ref b :: .ref a :: st) h = if a = b then am_ev d k tg ls st h else am_ev d k pc' ls st h := by
  subst hp; subst ht
  refine (am_ev_on hc).trans ?_
  simp only [am_ins]
  rw [if_pos ⟨ha.1, ha.2, hb.1, hb.2⟩]
  by_cases hab : a = b
  · rw [if_pos hab]; simp [am_go, am_on, hab]
  · rw [if_neg hab]; simp [am_go, am_on, hab]
theorem x_acmpN {t : Int} {tg a b : Nat} (hc : am_code k pc = some (.if_acmp .ne t, m)) (ht : t.toNat = tg) (hp : pc + m = pc') (ha : 1000001 < a ∧ a < 1000007) (hb : 1000001 < b ∧ b < 1000007) : am_ev d k pc ls (.ref b :: .ref a :: st) h = if a = b then am_ev d k pc' ls st h else am_ev d k tg ls st h := by
  subst hp; subst ht
  refine (am_ev_on hc).trans ?_
  simp only [am_ins]
  rw [if_pos ⟨ha.1, ha.2, hb.1, hb.2⟩]
  by_cases hab : a = b
  · rw [if_pos hab]; simp [am_go, am_on, hab]
  · rw [if_neg hab]; simp [am_go, am_on, hab]
theorem x_tab {t lo hi : Int} {os : Array Int} {x : Int32} (hc : am_code k pc = some (.tableswitch t lo hi os, m)) : am_ev d k pc ls (.int x :: st) h = if x.toInt < lo ∨ hi < x.toInt then am_ev d k t.toNat ls st h else (os[(x.toInt - lo).toNat]?).elim none (fun o => am_ev d k o.toNat ls st h) := by
  refine (am_ev_on hc).trans ?_
  simp only [am_ins, am_tab]
  split
  · rfl
  · cases os[(x.toInt - lo).toNat]? <;> rfl
/-- reading a field -/
def am_fld (o : Option va_E) (c i : Nat) : Option Value := match o with
  | some (.inr (c', fs)) => if c' = c then fs[i]? else none
  | _ => none
noncomputable def am_gk (o : Option Value) (f : Value → Option am_R) : Option am_R := match o with
  | some v => f v
  | none => none
theorem am_fld_s (c i : Nat) (fs : List Value) : am_fld (some (.inr (c, fs))) c i = fs[i]? := by simp [am_fld]
theorem am_gk_s (v : Value) (f : Value → Option am_R) : am_gk (some v) f = f v := rfl
theorem x_getf {e c i a : Nat} (hc : am_code k pc = some (.getfield e, m)) (h1 : e / 100 = c) (h2 : e % 100 = i) (hp : pc + m = pc') : am_ev d k pc ls (.ref a :: st) h = am_gk (am_fld (am_at h a) c i) (fun v => am_ev d k pc' ls (v :: st) h) := by
  subst hp; subst h1; subst h2
  refine (am_ev_on hc).trans ?_
  simp only [am_ins, am_gf]
  cases hat : am_at h a with
  | none => rfl
  | some ce =>
    match ce with
    | .inl _ => rfl
    | .inr (c', fs) =>
      simp only [am_fld]
      split
      · cases fs[e % 100]? <;> rfl
      · rfl
/-- writing a field -/
noncomputable def am_pk (o : Option va_E) (c i : Nat) (f : List Value → Option am_R) : Option am_R := match o with
  | some (.inr (c', fs)) => if c' = c ∧ i < fs.length then f fs else none
  | _ => none
theorem am_pk_s (c i : Nat) (fs : List Value) (f : List Value → Option am_R) (hi : i < fs.length) : am_pk (some (.inr (c, fs))) c i f = f fs := by simp [am_pk, hi]
theorem x_putf {e c i a : Nat} {v : Value} (hc : am_code k pc = some (.putfield e, m)) (h1 : e / 100 = c) (h2 : e % 100 = i) (h9 : c < 9) (hf : ((am_ft.getD c []).getD i ("", "", "", true)).2.2.2 = false ∨ (am_isI k = true ∧ c = am_owc k)) (hv : am_fit ((am_tt.getD c []).getD i .int) v = true) (hp : pc + m = pc') : am_ev d k pc ls (v :: .ref a :: st) h = am_pk (am_at h a) c i (fun fs => am_ev d k pc' ls st (am_set h a (.inr (c, fs.set i v)))) := by
  subst hp; subst h1; subst h2
  refine (am_ev_on hc).trans ?_
  simp only [am_ins, am_pf]
  cases hat : am_at h a with
  | none => rfl
  | some ce =>
    match ce with
    | .inl _ => rfl
    | .inr (c', fs) =>
      simp only [am_pk]
      by_cases hcc : c' = e / 100 ∧ e % 100 < fs.length
      · obtain ⟨rfl, hl⟩ := hcc
        rw [if_pos ⟨rfl, h9, hl, hf, hv⟩, if_pos ⟨rfl, hl⟩]
        rfl
      · rw [if_neg (fun z => hcc ⟨z.1, z.2.2.1⟩), if_neg hcc]
        rfl
/-- reading an array -/
noncomputable def am_ak (o : Option va_E) (t1 t2 : Nat) (i : Int32) (f : Int32 → Option am_R) : Option am_R := match o with
  | some (.inl (t, n, .inl g)) => if (t = t1 ∨ t = t2) ∧ ¬ (i < 0 ∨ n ≤ i.toNatClampNeg) then f (g i.toNatClampNeg) else none
  | _ => none
theorem am_ak_s {t t1 t2 n j : Nat} (g : Nat → Int32) (f : Int32 → Option am_R) (ht : t = t1 ∨ t = t2) (hj : j < n) (hn : n < 2 ^ 31) : am_ak (some (.inl (t, n, .inl g))) t1 t2 (nI j) f = f (g j) := by
  have h1 : ¬ (nI j < 0 ∨ n ≤ (nI j).toNatClampNeg) := vp_in_nI hj hn
  simp only [am_ak]
  rw [if_pos ⟨ht, h1⟩, nI_clamp (by omega)]
theorem x_iald {a : Nat} {i : Int32} (hc : am_code k pc = some (.iaload, m)) (hp : pc + m = pc') : am_ev d k pc ls (.int i :: .ref a :: st) h = am_ak (am_at h a) 0 10 i (fun v => am_ev d k pc' ls (.int v :: st) h) := by
  subst hp
  refine (am_ev_on hc).trans ?_
  simp only [am_ins, am_ial]
  cases hat : am_at h a with
  | none => rfl
  | some ce =>
    match ce with
    | .inl (t, n, .inl g) =>
      simp only [am_ak]
      split <;> rfl
    | .inl (t, n, .inr g) => rfl
    | .inr _ => rfl
theorem x_bald {a : Nat} {i : Int32} (hc : am_code k pc = some (.baload, m)) (hp : pc + m = pc') : am_ev d k pc ls (.int i :: .ref a :: st) h = am_ak (am_at h a) 1 11 i (fun v => am_ev d k pc' ls (.int v :: st) h) := by
  subst hp
  refine (am_ev_on hc).trans ?_
  simp only [am_ins, am_ial]
  cases hat : am_at h a with
  | none => rfl
  | some ce =>
    match ce with
    | .inl (t, n, .inl g) =>
      simp only [am_ak]
      split <;> rfl
    | .inl (t, n, .inr g) => rfl
    | .inr _ => rfl
noncomputable def am_qk (o : Option va_E) (i : Int32) (f : Value → Option am_R) : Option am_R := match o with
  | some (.inl (_, n, .inr (.inr (.inr (.inr g))))) => if ¬ (i < 0 ∨ n ≤ i.toNatClampNeg) then f (va_rf (g i.toNatClampNeg)) else none
  | _ => none
theorem am_qk_s {t n j : Nat} (g : Nat → Option Nat) (f : Value → Option am_R) (hj : j < n) (hn : n < 2 ^ 31) : am_qk (some (.inl (t, n, .inr (.inr (.inr (.inr g)))))) (nI j) f = f (va_rf (g j)) := by
  have h1 : ¬ (nI j < 0 ∨ n ≤ (nI j).toNatClampNeg) := vp_in_nI hj hn
  simp only [am_qk]
  rw [if_pos h1, nI_clamp (by omega)]
theorem x_aald {a : Nat} {i : Int32} (hc : am_code k pc = some (.aaload, m)) (hp : pc + m = pc') : am_ev d k pc ls (.int i :: .ref a :: st) h = am_qk (am_at h a) i (fun v => am_ev d k pc' ls (v :: st) h) := by
  subst hp
  refine (am_ev_on hc).trans ?_
  simp only [am_ins, am_aal]
  cases hat : am_at h a with
  | none => rfl
  | some ce =>
    match ce with
    | .inl (t, n, .inl g) => rfl
    | .inl (t, n, .inr (.inl g)) => rfl
    | .inl (t, n, .inr (.inr (.inl g))) => rfl
    | .inl (t, n, .inr (.inr (.inr (.inl g)))) => rfl
    | .inl (t, n, .inr (.inr (.inr (.inr g)))) =>
      simp only [am_qk]
      split <;> rfl
    | .inr _ => rfl
/-- writing an array -/
noncomputable def am_sk (o : Option va_E) (t1 : Nat) (i : Int32) (f : Nat → (Nat → Int32) → Option am_R) : Option am_R := match o with
  | some (.inl (t, n, .inl g)) => if t = t1 ∧ ¬ (i < 0 ∨ n ≤ i.toNatClampNeg) then f n g else none
  | _ => none
theorem am_sk_s {t n j : Nat} (g : Nat → Int32) (f : Nat → (Nat → Int32) → Option am_R) (hj : j < n) (hn : n < 2 ^ 31) : am_sk (some (.inl (t, n, .inl g))) t (nI j) f = f n g := by
  have h1 : ¬ (nI j < 0 ∨ n ≤ (nI j).toNatClampNeg) := vp_in_nI hj hn
  unfold am_sk
  dsimp only
  rw [if_pos ⟨rfl, h1⟩]
theorem x_iast {a : Nat} {i x : Int32} (hc : am_code k pc = some (.iastore, m)) (hp : pc + m = pc') : am_ev d k pc ls (.int x :: .int i :: .ref a :: st) h = am_sk (am_at h a) 0 i (fun n g => am_ev d k pc' ls st (am_set h a (.inl (0, n, .inl (upd g i.toNatClampNeg x))))) := by
  subst hp
  refine (am_ev_on hc).trans ?_
  simp only [am_ins, am_ias]
  cases hat : am_at h a with
  | none => rfl
  | some ce =>
    match ce with
    | .inl (t, n, .inl g) =>
      simp only [am_sk]
      split
      · rename_i hz
        obtain ⟨rfl, -⟩ := hz
        rfl
      · rfl
    | .inl (t, n, .inr g) => rfl
    | .inr _ => rfl
theorem x_bast {a : Nat} {i x : Int32} (hc : am_code k pc = some (.bastore, m)) (hp : pc + m = pc') : am_ev d k pc ls (.int x :: .int i :: .ref a :: st) h = am_sk (am_at h a) 1 i (fun n g => am_ev d k pc' ls st (am_set h a (.inl (1, n, .inl (upd g i.toNatClampNeg (x &&& 1)))))) := by
  subst hp
  refine (am_ev_on hc).trans ?_
  simp only [am_ins, am_ias]
  cases hat : am_at h a with
  | none => rfl
  | some ce =>
    match ce with
    | .inl (t, n, .inl g) =>
      simp only [am_sk]
      split
      · rename_i hz
        obtain ⟨rfl, -⟩ := hz
        rfl
      · rfl
    | .inl (t, n, .inr g) => rfl
    | .inr _ => rfl
noncomputable def am_wk (o : Option va_E) (b : Option va_E) (i : Int32) (f : Nat → Nat → (Nat → Option Nat) → Option am_R) : Option am_R := match o, b with
  | some (.inl (t, n, .inr (.inr (.inr (.inr g))))), some (.inr (c, _)) => if c = am_tc t ∧ ¬ (i < 0 ∨ n ≤ i.toNatClampNeg) then f t n g else none
  | _, _ => none
theorem x_aast {a v : Nat} {i : Int32} (hc : am_code k pc = some (.aastore, m)) (hp : pc + m = pc') : am_ev d k pc ls (.ref v :: .int i :: .ref a :: st) h = am_wk (am_at h a) (am_at h v) i (fun t n g => am_ev d k pc' ls st (am_set h a (.inl (t, n, .inr (.inr (.inr (.inr (va_up g i.toNatClampNeg (some v))))))))) := by
  subst hp
  refine (am_ev_on hc).trans ?_
  simp only [am_ins, am_aas, am_wk]
  split
  · rename_i g1 g2
    rw [g1, g2]
    dsimp only
    split <;> rfl
  · rename_i hz
    split
    · rename_i g1 g2; exact absurd g2 (by intro z; exact hz _ _ _ _ _ g1 z)
    · rfl
theorem x_alen {a t n : Nat} {g : (Nat → Int32) ⊕ (Nat → Int64) ⊕ (Nat → UInt32) ⊕ (Nat → UInt64) ⊕ (Nat → Option Nat)} (hc : am_code k pc = some (.arraylength, m)) (hp : pc + m = pc') (ha : am_at h a = some (.inl (t, n, g))) : am_ev d k pc ls (.ref a :: st) h = am_ev d k pc' ls (.int (nI n) :: st) h := by
  subst hp
  refine (am_ev_on hc).trans ?_
  simp only [am_ins, am_aln, ha]
  rfl
theorem x_new {c : Nat} (hc : am_code k pc = some (.new c, m)) (h9 : c < 9) (hn : h.1 < 1000000) (hp : pc + m = pc') : am_ev d k pc ls st h = am_ev d k pc' ls (.ref h.1 :: st) (am_new h (am_dflt c).length (.inr (c, am_dflt c))) := by
  subst hp
  refine (am_ev_on hc).trans ?_
  simp only [am_ins, am_nw]
  rw [if_pos ⟨h9, hn⟩]
  rfl
theorem x_newI {n : Int32} {N : Nat} (hc : am_code k pc = some (.newarray .int, m)) (h0 : ¬ n < 0) (hN : n.toNatClampNeg = N) (h1 : N ≤ 100000) (hn : h.1 < 1000000) (hp : pc + m = pc') : am_ev d k pc ls (.int n :: st) h = am_ev d k pc' ls (.ref h.1 :: st) (am_new h N (.inl (0, N, .inl (fun _ => 0)))) := by
  subst hp; subst hN
  refine (am_ev_on hc).trans ?_
  simp only [am_ins, am_nwa]
  rw [if_pos ⟨h0, h1, hn⟩]
  rfl
theorem x_newZ {n : Int32} {N : Nat} (hc : am_code k pc = some (.newarray .boolean, m)) (h0 : ¬ n < 0) (hN : n.toNatClampNeg = N) (h1 : N ≤ 100000) (hn : h.1 < 1000000) (hp : pc + m = pc') : am_ev d k pc ls (.int n :: st) h = am_ev d k pc' ls (.ref h.1 :: st) (am_new h N (.inl (1, N, .inl (fun _ => 0)))) := by
  subst hp; subst hN
  refine (am_ev_on hc).trans ?_
  simp only [am_ins, am_nwa]
  rw [if_pos ⟨h0, h1, hn⟩]
  rfl
theorem x_newQ {n : Int32} {N t : Nat} (hc : am_code k pc = some (.anewarray t, m)) (h0 : ¬ n < 0) (hN : n.toNatClampNeg = N) (h1 : N ≤ 100000) (hn : h.1 < 1000000) (hp : pc + m = pc') : am_ev d k pc ls (.int n :: st) h = am_ev d k pc' ls (.ref h.1 :: st) (am_new h N (.inl (t, N, .inr (.inr (.inr (.inr (fun _ => none))))))) := by
  subst hp; subst hN
  refine (am_ev_on hc).trans ?_
  simp only [am_ins, am_nwq]
  rw [if_pos ⟨h0, h1, hn⟩]
  rfl
/-- behind a call -/
noncomputable def am_bk (d k pc : Nat) (ls : am_L) (st : List Value) (r : Option am_R) : Option am_R := match r with
  | none => none
  | some (none, h) => am_ev d k pc ls st h
  | some (some v, h) => am_ev d k pc ls (v :: st) h
theorem am_bk_v (d k pc : Nat) (ls : am_L) (st : List Value) (v : Value) (h : am_H) : am_bk d k pc ls st (some (some v, h)) = am_ev d k pc ls (v :: st) h := rfl
theorem am_bk_n (d k pc : Nat) (ls : am_L) (st : List Value) (h : am_H) : am_bk d k pc ls st (some (none, h)) = am_ev d k pc ls st h := rfl
theorem am_on_back (d k pc : Nat) (ls : am_L) (st : List Value) (r : Option am_R) : am_on d k (am_back pc ls st r) = am_bk d k pc ls st r := by
  unfold am_back am_bk
  split <;> rfl
theorem x_inv {kind k' na : Nat} {i : Instr} {as r : List Value} {q : am_M} (hc : am_code k pc = some (i, m)) (hi : (i = .invokevirtual k' ∧ kind = 1) ∨ (i = .invokestatic k' ∧ kind = 0 ∧ k' ≠ 9998) ∨ (i = .invokespecial k' ∧ kind = 2 ∧ k' ≠ 9999)) (hq : am_mt[k']? = some q) (hna : q.2.2.2.2.2.1 = na) (hkd : q.2.2.2.2.2.2.2.1 = kind) (hpop : am_pop na [] st = some (as, r)) (hw : am_wd r ≤ 8) (hwa : am_wd as ≤ q.2.2.1) (hrec : kind ≠ 0 → ∃ a As, as = .ref a :: As ∧ (kind = 2 ∨ am_is (am_at h a) (am_rc q.2.2.2.2.1) = true)) (hp : pc + m = pc') : am_ev (d + 1) k pc ls st h = am_bk (d + 1) k pc' ls r (am_cal (d + 1) k' as h) := by
  subst hp; subst hna
  refine (am_ev_on hc).trans ?_
  have hok : decide (d + 1 ≠ 0) = true := by simp
  have key : am_inv kind (am_cal (d + 1)) k' (pc + m) ls st h = am_back (pc + m) ls r (am_cal (d + 1) k' as h) := by
    unfold am_inv
    rw [hq]
    dsimp only
    rw [hpop]
    dsimp only
    rw [if_pos ⟨hkd, hw, hwa⟩]
    by_cases hk : kind = 0
    · rw [if_pos hk]
    · rw [if_neg hk]
      obtain ⟨a, As, rfl, hz⟩ := hrec hk
      dsimp only
      rw [if_pos hz]
  rcases hi with ⟨rfl, rfl⟩ | ⟨rfl, rfl, h8⟩ | ⟨rfl, rfl, h8⟩
  · simp only [am_ins, hok, if_true]
    rw [key, am_on_back]
  · simp only [am_ins, hok, if_true, if_neg h8]
    rw [key, am_on_back]
  · simp only [am_ins, hok, if_true, if_neg h8]
    rw [key, am_on_back]
theorem x_obj {a : Nat} (hc : am_code k pc = some (.invokespecial 9999, m)) (hw : am_wd st ≤ 8) (hp : pc + m = pc') : am_ev (d + 1) k pc ls (.ref a :: st) h = am_ev (d + 1) k pc' ls st h := by
  subst hp
  refine (am_ev_on hc).trans ?_
  have hok : decide (d + 1 ≠ 0) = true := by simp
  simp only [am_ins, hok, if_true]
  rw [if_pos hw]
  rfl
theorem x_acp {a a0 n0 n1 sp dp n : Nat} {f g : Nat → Int32} (hc : am_code k pc = some (.invokestatic 9998, m)) (hp : pc + m = pc') (hw : am_wd st ≤ 8) (ha0 : am_at h a0 = some (.inl (0, n0, .inl f))) (ha1 : am_at h a = some (.inl (0, n1, .inl g))) (h4 : sp + n ≤ n0) (h5 : dp + n ≤ n1) (hb : n0 < 2 ^ 30 ∧ n1 < 2 ^ 30) : am_ev (d + 1) k pc ls (.int (nI n) :: .int (nI dp) :: .ref a :: .int (nI sp) :: .ref a0 :: st) h = am_ev (d + 1) k pc' ls st (am_set h a (.inl (0, n1, .inl (va_cpy f g sp dp n)))) := by
  subst hp
  refine (am_ev_on hc).trans ?_
  have hok : decide (d + 1 ≠ 0) = true := by simp
  simp only [am_ins, hok, if_true, am_acp, ha0, ha1]
  rw [nI_clamp (n := sp) (by omega), nI_clamp (n := dp) (by omega), nI_clamp (n := n) (by omega), if_pos ⟨nI_pos (by omega), nI_pos (by omega), nI_pos (by omega), h4, h5, hw⟩]
  rfl
theorem x_ret {v : Int32} {q : am_M} {ty : FieldType} (hc : am_code k pc = some (.ireturn, m)) (hq : am_mt[k]? = some q) (ht : q.2.2.2.1 = some ty) (hn : narrow ty (.int v) = .int v) : am_ev d k pc ls [.int v] h = some (some (.int v), h) := by
  refine (am_ev_on hc).trans ?_
  simp only [am_ins, am_ret, hq, ht]
  rw [if_pos hn]
  rfl
theorem x_reta {a : Nat} {q : am_M} {nm : String} (hc : am_code k pc = some (.areturn, m)) (hq : am_mt[k]? = some q) (ht : q.2.2.2.1 = some (.object nm)) : am_ev d k pc ls [.ref a] h = some (some (.ref a), h) := by
  refine (am_ev_on hc).trans ?_
  simp only [am_ins, am_rta, hq, ht]
  rfl
theorem x_retv {q : am_M} (hc : am_code k pc = some (.return_, m)) (hq : am_mt[k]? = some q) (ht : q.2.2.2.1 = none) : am_ev d k pc ls [] h = some (none, h) := by
  refine (am_ev_on hc).trans ?_
  simp only [am_ins, am_rtv, hq, ht]
  rfl
end AMX
theorem am_lg_n : am_lg none = false := rfl
theorem am_lg_i (x : Int32) : am_lg (some (.int x)) = false := rfl
theorem am_lg_r (x : Nat) : am_lg (some (.ref x)) = false := rfl
theorem am_wd_nil : am_wd [] = 0 := rfl
theorem am_wd_i (x : Int32) (r : List Value) : am_wd (.int x :: r) = 1 + am_wd r := by simp [am_wd, Value.category]
theorem am_wd_r (x : Nat) (r : List Value) : am_wd (.ref x :: r) = 1 + am_wd r := by simp [am_wd, Value.category]
theorem am_wd_l (x : Int64) (r : List Value) : am_wd (.long x :: r) = 2 + am_wd r := by simp [am_wd, Value.category]
theorem am_n_int (v : Int32) : narrow .int (.int v) = .int v := rfl
theorem am_n_bool {v : Int32} (h : v &&& 1 = v) : narrow .boolean (.int v) = .int v := by show Value.int (v &&& 1) = _; rw [h]
theorem am_fit_int (x : Int32) : am_fit .int (.int x) = true := by simp [am_fit, narrow, fits]
theorem am_fit_bool {x : Int32} (h : x = 0 ∨ x = 1) : am_fit .boolean (.int x) = true := by rcases h with rfl | rfl <;> decide
theorem am_fit_obj (n : String) (x : Nat) : am_fit (.object n) (.ref x) = true := rfl
theorem am_fit_arr (t : FieldType) (x : Nat) : am_fit (.array t) (.ref x) = true := rfl
