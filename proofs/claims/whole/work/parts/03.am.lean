/-! An abstract machine over numbered cells: a heap is how many cells and slots were made, and the cells by their numbers (from 1000000 on: what was there ahead, never written). It runs the methods' own bytes; part 05 proves that the machine of the claim does what it does. -/
abbrev am_H : Type := Nat × Nat × (Nat → Option va_E)
abbrev am_L : Type := List (Option Value)
abbrev am_C : Type := Nat × am_L × List Value × am_H
abbrev am_R : Type := Option Value × am_H
def am_at (h : am_H) (a : Nat) : Option va_E := h.2.2 a
def am_set (h : am_H) (a : Nat) (c : va_E) : am_H := (h.1, h.2.1, fun j => if j = a then some c else h.2.2 j)
def am_new (h : am_H) (n : Nat) (c : va_E) : am_H := (h.1 + 1, h.2.1 + n, fun j => if j = h.1 then some c else h.2.2 j)
def am_fnd {α : Type} (l : List (Nat × Nat × α)) (c i : Nat) : Option α := (l.find? (fun q => q.1 == c && q.2.1 == i)).map (fun q => q.2.2)
/-- an instruction with what its index, or its jump, means: fields are 100 times class and place; methods, statics, classes, texts are numbers; jsr_w pushes a long -/
def am_rs (c pc : Nat) (i : Instr) : Option Instr := match i with
  | .iload_n n => some (.iload n.val)
  | .aload_n n => some (.aload n.val)
  | .lload_n n => some (.lload n.val)
  | .istore_n n => some (.istore n.val)
  | .astore_n n => some (.astore n.val)
  | .lstore_n n => some (.lstore n.val)
  | .goto o => if 0 ≤ (pc : Int) + o then some (.goto (pc + o)) else none
  | .ifCond q o => if 0 ≤ (pc : Int) + o then some (.ifCond q (pc + o)) else none
  | .if_icmp q o => if 0 ≤ (pc : Int) + o then some (.if_icmp q (pc + o)) else none
  | .if_acmp q o => if 0 ≤ (pc : Int) + o then some (.if_acmp q (pc + o)) else none
  | .tableswitch d lo hi os => if 0 ≤ (pc : Int) + d ∧ os.toList.all (fun o => decide (0 ≤ (pc : Int) + o)) = true then some (.tableswitch (pc + d) lo hi (os.map (fun o => pc + o))) else none
  | .getfield x => (am_fnd am_pF c x).map (fun q => .getfield (100 * q.1 + q.2.1))
  | .putfield x => (am_fnd am_pF c x).map (fun q => .putfield (100 * q.1 + q.2.1))
  | .getstatic x => (am_fnd am_pS c x).map (fun q => .getstatic q.1)
  | .new x => (am_fnd am_pN c x).map (fun q => .new q.1)
  | .anewarray x => (am_fnd am_pA c x).map (fun q => .anewarray q.1)
  | .invokevirtual x => (am_fnd am_pM c x).map (fun q => .invokevirtual q.1)
  | .invokestatic x => (am_fnd am_pM c x).map (fun q => .invokestatic q.1)
  | .invokespecial x => (am_fnd am_pM c x).map (fun q => .invokespecial q.1)
  | .ldc x => match am_fnd am_pI c x with
    | some q => some (.iconst q.1)
    | none => (am_fnd am_pT c x).map (fun q => .ldc q.1)
  | .ldc_w x => (am_fnd am_pI c x).map (fun q => .iconst q.1)
  | .ldc2_w x => (am_fnd am_pL c x).map (fun q => .jsr_w q.1)
  | .iload _ | .aload _ | .lload _ | .istore _ | .astore _ | .lstore _ | .iconst _ | .bipush _ | .sipush _ | .lconst _ | .iinc _ _ => some i
  | .iadd | .isub | .imul | .idiv | .irem | .iand | .ior | .ixor | .ishl | .ishr | .iushr | .i2l | .l2i | .i2c | .lmul | .lsub | .ldiv | .lrem | .lcmp => some i
  | .dup | .dup2 | .pop | .iaload | .baload | .aaload | .iastore | .bastore | .aastore | .arraylength => some i
  | .newarray .int | .newarray .boolean => some i
  | .ireturn | .areturn | .return_ => some i
  | _ => none
/-- how many bytes an instruction takes -/
def am_ln (n : Nat) : Instr → Nat
  | .iload _ | .aload _ | .lload _ | .istore _ | .astore _ | .lstore _ | .bipush _ | .ldc _ | .newarray _ => 2
  | .sipush _ | .ldc_w _ | .ldc2_w _ | .getfield _ | .putfield _ | .getstatic _ | .new _ | .anewarray _ | .invokevirtual _ | .invokestatic _ | .invokespecial _ | .goto _ | .ifCond _ _ | .if_icmp _ _ | .if_acmp _ _ | .iinc _ _ => 3
  | .tableswitch .. => n
  | _ => 1
def am_code (k pc : Nat) : Option (Instr × Nat) := match am_mt[k]? with
  | none => none
  | some q => match decode q.2.1 pc with
    | .ok (i, n) => if n = am_ln n i then (am_rs q.2.2.2.2.1 pc i).map (fun j => (j, n)) else none
    | .error _ => none
def am_get (ls : am_L) (i : Nat) : Option Value := match ls[i]? with
  | some x => x
  | none => none
def am_lg : Option Value → Bool
  | some (.long _) | some (.double _) => true
  | _ => false
/-- a value of one word into a place that no long stands ahead of -/
def am_put : am_L → Nat → Value → Option am_L
  | [], _, _ => none
  | _ :: r, 0, v => some (some v :: r)
  | x :: r, 1, v => if am_lg x then none else match r with
    | [] => none
    | _ :: r' => some (x :: some v :: r')
  | x :: r, i + 2, v => match am_put r (i + 1) v with
    | none => none
    | some r' => some (x :: r')
/-- a long takes two places -/
def am_put2 : am_L → Nat → Value → Option am_L
  | [], _, _ => none
  | _ :: r, 0, v => match r with
    | _ :: r' => some (some v :: none :: r')
    | [] => none
  | x :: r, 1, v => if am_lg x then none else match r with
    | _ :: _ :: r' => some (x :: some v :: none :: r')
    | _ => none
  | x :: r, i + 2, v => match am_put2 r (i + 1) v with
    | none => none
    | some r' => some (x :: r')
def am_ini : Nat → List Value → am_L
  | n, [] => List.replicate n none
  | n + 2, .long x :: r => some (.long x) :: none :: am_ini n r
  | n + 2, .double x :: r => some (.double x) :: none :: am_ini n r
  | n + 1, v :: r => some v :: am_ini n r
  | 0, _ => []
abbrev am_X : Type := Option (am_C ⊕ am_R)
def am_go (pc : Nat) (ls : am_L) (st : List Value) (h : am_H) : am_X := some (.inl (pc, ls, st, h))
def am_bin (f : Int32 → Int32 → Int32) (pc : Nat) (ls : am_L) (st : List Value) (h : am_H) : am_X := match st with
  | .int y :: .int x :: r => am_go pc ls (.int (f x y) :: r) h
  | _ => none
def am_div (f : Int32 → Int32 → Int32) (pc : Nat) (ls : am_L) (st : List Value) (h : am_H) : am_X := match st with
  | .int y :: .int x :: r => if y = 0 then none else am_go pc ls (.int (f x y) :: r) h
  | _ => none
def am_lbin (f : Int64 → Int64 → Int64) (pc : Nat) (ls : am_L) (st : List Value) (h : am_H) : am_X := match st with
  | .long y :: .long x :: r => am_go pc ls (.long (f x y) :: r) h
  | _ => none
def am_ldv (f : Int64 → Int64 → Int64) (pc : Nat) (ls : am_L) (st : List Value) (h : am_H) : am_X := match st with
  | .long y :: .long x :: r => if y = 0 then none else am_go pc ls (.long (f x y) :: r) h
  | _ => none
def am_cond (q : Jvm.ClassFile.Cond) (x y : Int32) : Bool := match q with
  | .eq => decide (x = y)
  | .ne => decide (¬ x = y)
  | .lt => decide (x < y)
  | .ge => decide (y ≤ x)
  | .gt => decide (y < x)
  | .le => decide (x ≤ y)
def am_ld (c : Nat) (pc : Nat) (ls : am_L) (i : Nat) (st : List Value) (h : am_H) : am_X := match am_get ls i with
  | some (.int x) => if c = 0 then am_go pc ls (.int x :: st) h else none
  | some (.ref x) => if c = 1 then am_go pc ls (.ref x :: st) h else none
  | some (.long x) => if c = 2 then am_go pc ls (.long x :: st) h else none
  | _ => none
def am_stI (pc : Nat) (ls : am_L) (i : Nat) (st : List Value) (h : am_H) : am_X := match st with
  | .int x :: r => match am_put ls i (.int x) with
    | some ls' => am_go pc ls' r h
    | none => none
  | _ => none
def am_stA (pc : Nat) (ls : am_L) (i : Nat) (st : List Value) (h : am_H) : am_X := match st with
  | .ref x :: r => match am_put ls i (.ref x) with
    | some ls' => am_go pc ls' r h
    | none => none
  | _ => none
def am_stL (pc : Nat) (ls : am_L) (i : Nat) (st : List Value) (h : am_H) : am_X := match st with
  | .long x :: r => match am_put2 ls i (.long x) with
    | some ls' => am_go pc ls' r h
    | none => none
  | _ => none
def am_inc (pc : Nat) (ls : am_L) (i : Nat) (n : Int) (st : List Value) (h : am_H) : am_X := match am_get ls i with
  | some (.int x) => match am_put ls i (.int (x + Int32.ofInt n)) with
    | some ls' => am_go pc ls' st h
    | none => none
  | _ => none
def am_tab (d lo hi : Int) (os : Array Int) (ls : am_L) (st : List Value) (h : am_H) : am_X := match st with
  | .int x :: r => if x.toInt < lo ∨ hi < x.toInt then am_go d.toNat ls r h else match os[(x.toInt - lo).toNat]? with
    | some o => am_go o.toNat ls r h
    | none => none
  | _ => none
def am_gf (e : Nat) (pc : Nat) (ls : am_L) (st : List Value) (h : am_H) : am_X := match st with
  | .ref a :: r => match am_at h a with
    | some (.inr (c, fs)) => if c = e / 100 then match fs[e % 100]? with
      | some v => am_go pc ls (v :: r) h
      | none => none
      else none
    | _ => none
  | _ => none
def am_fit (ty : FieldType) : Value → Bool
  | .int x => decide (narrow ty (.int x) = .int x) && fits ty (.int x)
  | .ref a => fits ty (.ref a)
  | _ => false
def am_pf (ini : Bool) (own : Nat) (e : Nat) (pc : Nat) (ls : am_L) (st : List Value) (h : am_H) : am_X := match st with
  | v :: .ref a :: r => match am_at h a with
    | some (.inr (c, fs)) => if c = e / 100 ∧ c < 9 ∧ e % 100 < fs.length ∧ (((am_ft.getD c []).getD (e % 100) ("", "", "", true)).2.2.2 = false ∨ (ini = true ∧ c = own)) ∧ am_fit ((am_tt.getD c []).getD (e % 100) .int) v = true then am_go pc ls r (am_set h a (.inr (c, fs.set (e % 100) v))) else none
    | _ => none
  | _ => none
def am_ial (t1 t2 : Nat) (pc : Nat) (ls : am_L) (st : List Value) (h : am_H) : am_X := match st with
  | .int i :: .ref a :: r => match am_at h a with
    | some (.inl (t, n, .inl g)) => if (t = t1 ∨ t = t2) ∧ ¬ (i < 0 ∨ n ≤ i.toNatClampNeg) then am_go pc ls (.int (g i.toNatClampNeg) :: r) h else none
    | _ => none
  | _ => none
def am_aal (pc : Nat) (ls : am_L) (st : List Value) (h : am_H) : am_X := match st with
  | .int i :: .ref a :: r => match am_at h a with
    | some (.inl (_, n, .inr (.inr (.inr (.inr g))))) => if ¬ (i < 0 ∨ n ≤ i.toNatClampNeg) then am_go pc ls (va_rf (g i.toNatClampNeg) :: r) h else none
    | _ => none
  | _ => none
def am_ias (t1 : Nat) (f : Int32 → Int32) (pc : Nat) (ls : am_L) (st : List Value) (h : am_H) : am_X := match st with
  | .int x :: .int i :: .ref a :: r => match am_at h a with
    | some (.inl (t, n, .inl g)) => if t = t1 ∧ ¬ (i < 0 ∨ n ≤ i.toNatClampNeg) then am_go pc ls r (am_set h a (.inl (t, n, .inl (upd g i.toNatClampNeg (f x))))) else none
    | _ => none
  | _ => none
def am_tc (t : Nat) : Nat := if t = 2 then 20 else if t = 3 then 1 else if t = 4 then 2 else 99
def am_aas (pc : Nat) (ls : am_L) (st : List Value) (h : am_H) : am_X := match st with
  | .ref v :: .int i :: .ref a :: r => match am_at h a, am_at h v with
    | some (.inl (t, n, .inr (.inr (.inr (.inr g))))), some (.inr (c, _)) => if c = am_tc t ∧ ¬ (i < 0 ∨ n ≤ i.toNatClampNeg) then am_go pc ls r (am_set h a (.inl (t, n, .inr (.inr (.inr (.inr (va_up g i.toNatClampNeg (some v)))))))) else none
    | _, _ => none
  | _ => none
def am_aln (pc : Nat) (ls : am_L) (st : List Value) (h : am_H) : am_X := match st with
  | .ref a :: r => match am_at h a with
    | some (.inl (_, n, _)) => am_go pc ls (.int (Int32.ofNat n) :: r) h
    | _ => none
  | _ => none
def am_dflt (c : Nat) : List Value := (am_tt.getD c []).map defaultValue
def am_nw (c : Nat) (pc : Nat) (ls : am_L) (st : List Value) (h : am_H) : am_X := if c < 9 ∧ h.1 < 1000000 then am_go pc ls (.ref h.1 :: st) (am_new h (am_dflt c).length (.inr (c, am_dflt c))) else none
def am_nwa (t : Nat) (pc : Nat) (ls : am_L) (st : List Value) (h : am_H) : am_X := match st with
  | .int n :: r => if ¬ n < 0 ∧ n.toNatClampNeg ≤ 100000 ∧ h.1 < 1000000 then am_go pc ls (.ref h.1 :: r) (am_new h n.toNatClampNeg (.inl (t, n.toNatClampNeg, .inl (fun _ => 0)))) else none
  | _ => none
def am_nwq (t : Nat) (pc : Nat) (ls : am_L) (st : List Value) (h : am_H) : am_X := match st with
  | .int n :: r => if ¬ n < 0 ∧ n.toNatClampNeg ≤ 100000 ∧ h.1 < 1000000 then am_go pc ls (.ref h.1 :: r) (am_new h n.toNatClampNeg (.inl (t, n.toNatClampNeg, .inr (.inr (.inr (.inr (fun _ => none))))))) else none
  | _ => none
/-- the words that lie below a call -/
def am_wd (st : List Value) : Nat := (st.map (fun v => v.category)).sum
def am_pop : Nat → List Value → List Value → Option (List Value × List Value)
  | 0, as, st => some (as, st)
  | n + 1, as, v :: st => am_pop n (v :: as) st
  | _ + 1, _, [] => none
def am_rc (c : Nat) : Nat := if c < 9 then c else if c = 9 then 20 else if c = 12 then 21 else 99
def am_is (o : Option va_E) (c : Nat) : Bool := match o with
  | some (.inr (d, _)) => d == c
  | _ => false
def am_back (pc : Nat) (ls : am_L) (st : List Value) (r : Option am_R) : am_X := match r with
  | none => none
  | some (none, h) => am_go pc ls st h
  | some (some v, h) => am_go pc ls (v :: st) h
def am_inv (kind : Nat) (call : Nat → List Value → am_H → Option am_R) (k pc : Nat) (ls : am_L) (st : List Value) (h : am_H) : am_X := match am_mt[k]? with
  | none => none
  | some q => match am_pop q.2.2.2.2.2.1 [] st with
    | none => none
    | some (as, r) => if q.2.2.2.2.2.2.2.1 = kind ∧ am_wd r ≤ 8 ∧ am_wd as ≤ q.2.2.1 then
        (if kind = 0 then am_back pc ls r (call k as h) else match as with
          | .ref a :: _ => if kind = 2 ∨ am_is (am_at h a) (am_rc q.2.2.2.2.1) = true then am_back pc ls r (call k as h) else none
          | _ => none)
      else none
def am_acp (pc : Nat) (ls : am_L) (st : List Value) (h : am_H) : am_X := match st with
  | .int n :: .int dp :: .ref d :: .int sp :: .ref s :: r => match am_at h s, am_at h d with
    | some (.inl (0, n0, .inl f)), some (.inl (0, n1, .inl g)) => if ¬ sp < 0 ∧ ¬ dp < 0 ∧ ¬ n < 0 ∧ sp.toNatClampNeg + n.toNatClampNeg ≤ n0 ∧ dp.toNatClampNeg + n.toNatClampNeg ≤ n1 ∧ am_wd r ≤ 8 then
        am_go pc ls r (am_set h d (.inl (0, n1, .inl (va_cpy f g sp.toNatClampNeg dp.toNatClampNeg n.toNatClampNeg)))) else none
    | _, _ => none
  | _ => none
def am_ret (k : Nat) (st : List Value) (h : am_H) : am_X := match st, am_mt[k]? with
  | [.int v], some q => match q.2.2.2.1 with
    | some ty => if narrow ty (.int v) = .int v then some (.inr (some (.int v), h)) else none
    | none => none
  | _, _ => none
def am_rta (k : Nat) (st : List Value) (h : am_H) : am_X := match st, am_mt[k]? with
  | [.ref v], some q => match q.2.2.2.1 with
    | some (.object _) => some (.inr (some (.ref v), h))
    | _ => none
  | _, _ => none
def am_rtv (k : Nat) (st : List Value) (h : am_H) : am_X := match st, am_mt[k]? with
  | [], some q => match q.2.2.2.1 with
    | none => some (.inr (none, h))
    | _ => none
  | _, _ => none
def am_isI (k : Nat) : Bool := match am_mt[k]? with
  | some q => q.2.2.2.2.2.2.2.1 == 2
  | none => false
def am_owc (k : Nat) : Nat := match am_mt[k]? with
  | some q => q.2.2.2.2.1
  | none => 99
def am_ins (ok : Bool) (call : Nat → List Value → am_H → Option am_R) (k : Nat) (i : Instr) (pc0 pc : Nat) (ls : am_L) (st : List Value) (h : am_H) : am_X := match i with
  | .iconst n => am_go pc ls (.int (Int32.ofInt n) :: st) h
  | .bipush n => am_go pc ls (.int (Int8.ofInt n).toInt32 :: st) h
  | .sipush n => am_go pc ls (.int (Int16.ofInt n).toInt32 :: st) h
  | .lconst n => am_go pc ls (.long (Int64.ofNat n.val) :: st) h
  | .jsr_w n => am_go pc ls (.long (Int64.ofInt n) :: st) h
  | .ldc n => am_go pc ls (.ref (1000000 + n) :: st) h
  | .iload n => am_ld 0 pc ls n st h
  | .aload n => am_ld 1 pc ls n st h
  | .lload n => am_ld 2 pc ls n st h
  | .istore n => am_stI pc ls n st h
  | .astore n => am_stA pc ls n st h
  | .lstore n => am_stL pc ls n st h
  | .iinc n v => am_inc pc ls n v st h
  | .iadd => am_bin (fun x y => x + y) pc ls st h
  | .isub => am_bin (fun x y => x - y) pc ls st h
  | .imul => am_bin (fun x y => x * y) pc ls st h
  | .iand => am_bin (fun x y => x &&& y) pc ls st h
  | .ior => am_bin (fun x y => x ||| y) pc ls st h
  | .ixor => am_bin (fun x y => x ^^^ y) pc ls st h
  | .ishl => am_bin (fun x y => x <<< (y &&& 31)) pc ls st h
  | .ishr => am_bin (fun x y => x >>> (y &&& 31)) pc ls st h
  | .iushr => am_bin (fun x y => (x.toUInt32 >>> (y.toUInt32 &&& Int32.toUInt32 31)).toInt32) pc ls st h
  | .idiv => am_div (fun x y => x / y) pc ls st h
  | .irem => am_div (fun x y => x - x / y * y) pc ls st h
  | .lmul => am_lbin (fun x y => x * y) pc ls st h
  | .lsub => am_lbin (fun x y => x - y) pc ls st h
  | .ldiv => am_ldv (fun x y => x / y) pc ls st h
  | .lrem => am_ldv (fun x y => x - x / y * y) pc ls st h
  | .lcmp => match st with
    | .long y :: .long x :: r => am_go pc ls (.int (lg_cmp x y) :: r) h
    | _ => none
  | .i2l => match st with
    | .int x :: r => am_go pc ls (.long x.toInt64 :: r) h
    | _ => none
  | .l2i => match st with
    | .long x :: r => am_go pc ls (.int x.toInt32 :: r) h
    | _ => none
  | .i2c => match st with
    | .int x :: r => am_go pc ls (.int (x.toUInt32 % 65536).toInt32 :: r) h
    | _ => none
  | .dup => match st with
    | v :: r => if v.category = 1 then am_go pc ls (v :: v :: r) h else none
    | _ => none
  | .dup2 => match st with
    | v :: w :: r => if v.category = 1 ∧ w.category = 1 then am_go pc ls (v :: w :: v :: w :: r) h else none
    | _ => none
  | .pop => match st with
    | v :: r => if v.category = 1 then am_go pc ls r h else none
    | _ => none
  | .goto t => am_go t.toNat ls st h
  | .ifCond q t => match st with
    | .int x :: r => am_go (if am_cond q x 0 then t.toNat else pc) ls r h
    | _ => none
  | .if_icmp q t => match st with
    | .int y :: .int x :: r => am_go (if am_cond q x y then t.toNat else pc) ls r h
    | _ => none
  | .if_acmp q t => match st with
    | .ref y :: .ref x :: r => if 1000001 < x ∧ x < 1000007 ∧ 1000001 < y ∧ y < 1000007 then am_go (if (match q with | .eq => decide (x = y) | .ne => decide (¬ x = y)) then t.toNat else pc) ls r h else none
    | _ => none
  | .tableswitch d lo hi os => am_tab d lo hi os ls st h
  | .getfield e => am_gf e pc ls st h
  | .putfield e => am_pf (am_isI k) (am_owc k) e pc ls st h
  | .getstatic j => match am_sv[j]? with
    | some q => am_go pc ls (q.2.2.2 :: st) h
    | none => none
  | .iaload => am_ial 0 10 pc ls st h
  | .baload => am_ial 1 11 pc ls st h
  | .aaload => am_aal pc ls st h
  | .iastore => am_ias 0 (fun x => x) pc ls st h
  | .bastore => am_ias 1 (vp_nar .boolean) pc ls st h
  | .aastore => am_aas pc ls st h
  | .arraylength => am_aln pc ls st h
  | .new c => am_nw c pc ls st h
  | .newarray .int => am_nwa 0 pc ls st h
  | .newarray .boolean => am_nwa 1 pc ls st h
  | .anewarray t => am_nwq t pc ls st h
  | .invokevirtual n => if ok then am_inv 1 call n pc ls st h else none
  | .invokestatic n => if ok then (if n = 9998 then am_acp pc ls st h else am_inv 0 call n pc ls st h) else none
  | .invokespecial n => if ok then (if n = 9999 then (match st with
      | .ref _ :: r => if am_wd r ≤ 8 then am_go pc ls r h else none
      | _ => none) else am_inv 2 call n pc ls st h) else none
  | .ireturn => am_ret k st h
  | .areturn => am_rta k st h
  | .return_ => am_rtv k st h
  | _ => none
def am_stp (ok : Bool) (call : Nat → List Value → am_H → Option am_R) (k : Nat) (c : am_C) : am_X := match am_code k c.1 with
  | none => none
  | some q => am_ins ok call k q.1 c.1 (c.1 + q.2) c.2.1 c.2.2.1 c.2.2.2
def am_run (ok : Bool) (call : Nat → List Value → am_H → Option am_R) (k : Nat) : Nat → am_C → Option am_R
  | 0, _ => none
  | n + 1, c => match am_stp ok call k c with
    | none => none
    | some (.inl c') => am_run ok call k n c'
    | some (.inr r) => some r
noncomputable def am_lim (g : Nat → Option am_R) : Option am_R := @dite (Option am_R) (∃ n r, g n = some r) (Classical.propDecidable _) (fun h => g (Classical.choose h)) (fun _ => none)
theorem am_lim_of {g : Nat → Option am_R} (hm : ∀ n r, g n = some r → ∀ m, n ≤ m → g m = some r) {n : Nat} {r : am_R} (h : g n = some r) : am_lim g = some r := by
  have hx : ∃ n r, g n = some r := ⟨n, r, h⟩
  unfold am_lim
  rw [dif_pos hx]
  obtain ⟨r', h'⟩ := Classical.choose_spec hx
  have h1 := hm _ _ h' (max (Classical.choose hx) n) (by omega)
  have h2 := hm _ _ h (max (Classical.choose hx) n) (by omega)
  rw [h', ← h1, h2]
theorem am_lim_some {g : Nat → Option am_R} {r : am_R} (h : am_lim g = some r) : ∃ n, g n = some r := by
  unfold am_lim at h
  by_cases hx : ∃ n r, g n = some r
  · rw [dif_pos hx] at h
    exact ⟨_, h⟩
  · rw [dif_neg hx] at h
    cases h
theorem am_run_mono {ok : Bool} {call : Nat → List Value → am_H → Option am_R} {k : Nat} : ∀ (n : Nat) (c : am_C) (r : am_R), am_run ok call k n c = some r → ∀ m, n ≤ m → am_run ok call k m c = some r
  | 0, _, _, h, _, _ => by simp [am_run] at h
  | n + 1, c, r, h, m, hm => by
    obtain ⟨m, rfl⟩ : ∃ m', m = m' + 1 := ⟨m - 1, by omega⟩
    unfold am_run at h ⊢
    cases hs : am_stp ok call k c with
    | none => rw [hs] at h; cases h
    | some x =>
      rw [hs] at h
      cases x with
      | inl c' => exact am_run_mono n c' r h m (by omega)
      | inr r' => exact h
/-- what a method comes to, run at a depth: calls go one depth less -/
noncomputable def am_cal : Nat → Nat → List Value → am_H → Option am_R
  | 0 => fun _ _ _ => none
  | d + 1 => fun k as h => am_lim (fun n => am_run (decide (d ≠ 0)) (am_cal d) k n (0, am_ini ((am_mt[k]?).elim 0 (fun q => q.2.2.1)) as, [], h))
noncomputable def am_ev (d k pc : Nat) (ls : am_L) (st : List Value) (h : am_H) : Option am_R := am_lim (fun n => am_run (decide (d ≠ 0)) (am_cal d) k n (pc, ls, st, h))
theorem am_cal_ev (d k : Nat) (as : List Value) (h : am_H) : am_cal (d + 1) k as h = am_ev d k 0 (am_ini ((am_mt[k]?).elim 0 (fun q => q.2.2.1)) as) [] h := rfl
theorem am_ev_some {d k pc : Nat} {ls : am_L} {st : List Value} {h : am_H} {r : am_R} (e : am_ev d k pc ls st h = some r) : ∃ n, am_run (decide (d ≠ 0)) (am_cal d) k n (pc, ls, st, h) = some r := am_lim_some e
/-- one step -/
theorem am_ev_go {d k pc pc' : Nat} {ls ls' : am_L} {st st' : List Value} {h h' : am_H} (e : am_stp (decide (d ≠ 0)) (am_cal d) k (pc, ls, st, h) = some (.inl (pc', ls', st', h'))) : am_ev d k pc ls st h = am_ev d k pc' ls' st' h' := by
  have key : ∀ n, am_run (decide (d ≠ 0)) (am_cal d) k (n + 1) (pc, ls, st, h) = am_run (decide (d ≠ 0)) (am_cal d) k n (pc', ls', st', h') := fun n => by
    show (match am_stp _ _ _ _ with | none => none | some (.inl c') => _ | some (.inr r) => some r) = _
    rw [e]
  cases hr : am_ev d k pc' ls' st' h' with
  | some r =>
    obtain ⟨n, hn⟩ := am_ev_some hr
    exact am_lim_of (fun n r q m hm => am_run_mono n _ r q m hm) (n := n + 1) ((key n).trans hn)
  | none =>
    cases hl : am_ev d k pc ls st h with
    | none => rfl
    | some r =>
      obtain ⟨n, hn⟩ := am_ev_some hl
      cases n with
      | zero => simp [am_run] at hn
      | succ n =>
        rw [key n] at hn
        have := am_lim_of (g := fun n => am_run (decide (d ≠ 0)) (am_cal d) k n (pc', ls', st', h')) (fun n r q m hm => am_run_mono n _ r q m hm) hn
        unfold am_ev at hr
        rw [this] at hr
        cases hr
theorem am_ev_ret {d k pc : Nat} {ls : am_L} {st : List Value} {h : am_H} {r : am_R} (e : am_stp (decide (d ≠ 0)) (am_cal d) k (pc, ls, st, h) = some (.inr r)) : am_ev d k pc ls st h = some r := by
  refine am_lim_of (fun n r q m hm => am_run_mono n _ r q m hm) (n := 1) ?_
  show (match am_stp _ _ _ _ with | none => none | some (.inl c') => _ | some (.inr r) => some r) = _
  rw [e]
/-- what comes of a step's outcome -/
noncomputable def am_on (d k : Nat) (x : am_X) : Option am_R := match x with
  | none => none
  | some (.inl c) => am_ev d k c.1 c.2.1 c.2.2.1 c.2.2.2
  | some (.inr r) => some r
theorem am_ev_none {d k pc : Nat} {ls : am_L} {st : List Value} {h : am_H} (e : am_stp (decide (d ≠ 0)) (am_cal d) k (pc, ls, st, h) = none) : am_ev d k pc ls st h = none := by
  cases hl : am_ev d k pc ls st h with
  | none => rfl
  | some r =>
    obtain ⟨n, hn⟩ := am_ev_some hl
    cases n with
    | zero => simp [am_run] at hn
    | succ n =>
      have : am_run (decide (d ≠ 0)) (am_cal d) k (n + 1) (pc, ls, st, h) = none := by
        show (match am_stp _ _ _ _ with | none => none | some (.inl c') => _ | some (.inr r) => some r) = _
        rw [e]
      rw [this] at hn
      cases hn
theorem am_ev_on {d k pc : Nat} {ls : am_L} {st : List Value} {h : am_H} {i : Instr} {n : Nat} (hc : am_code k pc = some (i, n)) : am_ev d k pc ls st h = am_on d k (am_ins (decide (d ≠ 0)) (am_cal d) k i pc (pc + n) ls st h) := by
  have e : am_stp (decide (d ≠ 0)) (am_cal d) k (pc, ls, st, h) = am_ins (decide (d ≠ 0)) (am_cal d) k i pc (pc + n) ls st h := by
    unfold am_stp
    rw [hc]
  cases hx : am_ins (decide (d ≠ 0)) (am_cal d) k i pc (pc + n) ls st h with
  | none => exact am_ev_none (e.trans hx)
  | some x =>
    cases x with
    | inl c => exact am_ev_go (e.trans hx)
    | inr r => exact am_ev_ret (e.trans hx)
