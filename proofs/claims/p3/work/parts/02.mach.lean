/-! A machine of my own: it runs the decoded code over a heap of its own, from values that are known, or symbolic ints within an interval, or any int. What it says is held against the model's machine in the parts behind.
 A value of it is a Value of the model, read so: int, long, null as they stand; '.ref k' the k-th object of its heap; '.retAddr i' the i-th symbolic int; '.float k' the k-th object that was there before; '.double _' some int. -/
section MXA
abbrev mx_C : Type := (Nat × Nat × Value × List (Nat × Value)) ⊕ (Nat × List Value)
abbrev mx_H : Type := List mx_C
abbrev mx_E : Type := List (Int × Int)
abbrev mx_L : Type := List (Nat × Value)
abbrev mx_I : Type := Instr × Nat × Nat × Nat
/-- a method: name, code, locals, what it answers, how many values it takes beside its object, its class's number -/
abbrev mx_M : Type := MethodName × ByteArray × Nat × Option FieldType × Nat × Nat
/-- a program: methods; decoded code, with links; a class's field types; a new object; array types, and their elements' classes; the classes -/
abbrev mx_P : Type := (Nat → mx_M) × (Nat → Nat → Option mx_I) × (Nat → Nat → FieldType) × (Nat → List Value) × List FieldType × (Nat → Nat) × List vw_C
abbrev mx_G : Type := List (String × Nat × MethodName × String) × List String × List (String × Nat × String)
def mx_mt (P : mx_P) : Nat → mx_M := P.1
def mx_pg (P : mx_P) : Nat → Nat → Option mx_I := P.2.1
def mx_ft (P : mx_P) : Nat → Nat → FieldType := P.2.2.1
def mx_fd (P : mx_P) : Nat → List Value := P.2.2.2.1
def mx_TY (P : mx_P) : List FieldType := P.2.2.2.2.1
def mx_ec (P : mx_P) : Nat → Nat := P.2.2.2.2.2.1
def mx_cl (P : mx_P) : List vw_C := P.2.2.2.2.2.2
def mx_isI : Value → Bool
  | .int _ => true
  | .retAddr _ => true
  | .double _ => true
  | _ => false
def mx_isA : Value → Bool
  | .null => true
  | .ref _ => true
  | .float _ => true
  | _ => false
def mx_isJ : Value → Bool
  | .long _ => true
  | _ => false
def mx_cat : Value → Nat
  | .long _ => 2
  | _ => 1
def mx_look : List (Nat × Value) → Nat → Option Value
  | [], _ => none
  | q :: r, i => bif Nat.beq q.1 i then some q.2 else mx_look r i
def mx_put1 (ls : mx_L) (i : Nat) (v : Value) : mx_L := (i, v) :: ls.filter (fun q => !(q.1 == i) && !(q.1 + 1 == i && mx_cat q.2 == 2))
def mx_put2 (ls : mx_L) (i : Nat) (v : Value) : mx_L := (i, v) :: ls.filter (fun q => !(q.1 == i) && (!(q.1 == i + 1) && !(q.1 + 1 == i && mx_cat q.2 == 2)))
/-- how long an instruction is (of a switch nothing is said) -/
def mx_len : Instr → Nat
  | .bipush _ => 2
  | .sipush _ => 3
  | .iload _ => 2
  | .lload _ => 2
  | .aload _ => 2
  | .istore _ => 2
  | .lstore _ => 2
  | .astore _ => 2
  | .iinc _ _ => 3
  | .ldc _ => 2
  | .ldc2_w _ => 3
  | .getfield _ => 3
  | .putfield _ => 3
  | .getstatic _ => 3
  | .new _ => 3
  | .newarray _ => 2
  | .anewarray _ => 3
  | .invokevirtual _ => 3
  | .invokespecial _ => 3
  | .invokestatic _ => 3
  | .goto _ => 3
  | .ifCond _ _ => 3
  | .if_icmp _ _ => 3
  | .if_acmp _ _ => 3
  | .ifnull _ => 3
  | .ifnonnull _ => 3
  | _ => 1
def mx_sw : Instr → Bool
  | .tableswitch .. => true
  | .lookupswitch .. => true
  | _ => false
def mx_ar (ins : Instr) (x y : Int32) : Option Int32 := match ins with
  | .iadd => some (x + y)
  | .isub => some (x - y)
  | .imul => some (x * y)
  | .iand => some (x &&& y)
  | .ior => some (x ||| y)
  | .ixor => some (x ^^^ y)
  | .ishl => some (x <<< (y &&& 31))
  | .ishr => some (x >>> (y &&& 31))
  | .idiv => if y = 0 then none else some (x / y)
  | .irem => if y = 0 then none else some (x - x / y * y)
  | _ => none
/-- the same where an operand isn't known: some int comes out, if nothing can throw -/
def mx_arT (ins : Instr) (x y : Value) : Bool := mx_isI x && mx_isI y && (match ins with
  | .iadd => true
  | .isub => true
  | .imul => true
  | .iand => true
  | .ior => true
  | .ixor => true
  | .ishl => true
  | .ishr => true
  | .idiv => (match y with
    | .int c => if c = 0 then false else true
    | _ => false)
  | .irem => (match y with
    | .int c => if c = 0 then false else true
    | _ => false)
  | _ => false)
def mx_arL (ins : Instr) (x y : Int64) : Option Int64 := match ins with
  | .ladd => some (x + y)
  | .lsub => some (x - y)
  | .lmul => some (x * y)
  | .land => some (x &&& y)
  | .lor => some (x ||| y)
  | .lxor => some (x ^^^ y)
  | _ => none
def mx_arS (ins : Instr) (x : Int64) (y : Int32) : Option Int64 := match ins with
  | .lshl => some (x <<< (y.toInt64 &&& 63))
  | .lshr => some (x >>> (y.toInt64 &&& 63))
  | _ => none
def mx_b2 (ins : Instr) (st : List Value) : Option (List Value) := match st with
  | .int y :: .int x :: r => (mx_ar ins x y).map (fun z => .int z :: r)
  | y :: x :: r => if mx_arT ins x y then some (.double 0 :: r) else none
  | _ => none
def mx_b2L (ins : Instr) (st : List Value) : Option (List Value) := match st with
  | .long y :: .long x :: r => (mx_arL ins x y).map (fun z => .long z :: r)
  | _ => none
def mx_b2S (ins : Instr) (st : List Value) : Option (List Value) := match st with
  | .int y :: .long x :: r => (mx_arS ins x y).map (fun z => .long z :: r)
  | _ => none
def mx_ld (t : Value → Bool) (ls : mx_L) (i : Nat) (st : List Value) : Option (mx_L × List Value) := match mx_look ls i with
  | some v => if t v then some (ls, v :: st) else none
  | none => none
def mx_st1 (t : Value → Bool) (nL : Nat) (ls : mx_L) (i : Nat) (st : List Value) : Option (mx_L × List Value) := match st with
  | v :: r => if t v && decide (i < nL) then some (mx_put1 ls i v, r) else none
  | _ => none
def mx_st2 (nL : Nat) (ls : mx_L) (i : Nat) (st : List Value) : Option (mx_L × List Value) := match st with
  | v :: r => if mx_isJ v && decide (i + 1 < nL) then some (mx_put2 ls i v, r) else none
  | _ => none
/-- what touches the stack and the locals alone -/
def mx_s1 (nL : Nat) (ins : Instr) (ls : mx_L) (st : List Value) : Option (mx_L × List Value) := match ins with
  | .iconst n => some (ls, .int (Int32.ofInt n) :: st)
  | .bipush n => some (ls, .int (Int8.ofInt n).toInt32 :: st)
  | .sipush n => some (ls, .int (Int16.ofInt n).toInt32 :: st)
  | .lconst n => some (ls, .long (Int64.ofNat n) :: st)
  | .aconst_null => some (ls, .null :: st)
  | .iload i => mx_ld mx_isI ls i st
  | .iload_n i => mx_ld mx_isI ls i st
  | .lload i => mx_ld mx_isJ ls i st
  | .lload_n i => mx_ld mx_isJ ls i st
  | .aload i => mx_ld mx_isA ls i st
  | .aload_n i => mx_ld mx_isA ls i st
  | .istore i => mx_st1 mx_isI nL ls i st
  | .istore_n i => mx_st1 mx_isI nL ls i st
  | .astore i => mx_st1 mx_isA nL ls i st
  | .astore_n i => mx_st1 mx_isA nL ls i st
  | .lstore i => mx_st2 nL ls i st
  | .lstore_n i => mx_st2 nL ls i st
  | .iinc i n => (match mx_look ls i with
    | some (.int x) => if i < nL then some (mx_put1 ls i (.int (x + Int32.ofInt n)), st) else none
    | _ => none)
  | .iadd => (mx_b2 .iadd st).map (fun r => (ls, r))
  | .isub => (mx_b2 .isub st).map (fun r => (ls, r))
  | .imul => (mx_b2 .imul st).map (fun r => (ls, r))
  | .iand => (mx_b2 .iand st).map (fun r => (ls, r))
  | .ior => (mx_b2 .ior st).map (fun r => (ls, r))
  | .ixor => (mx_b2 .ixor st).map (fun r => (ls, r))
  | .ishl => (mx_b2 .ishl st).map (fun r => (ls, r))
  | .ishr => (mx_b2 .ishr st).map (fun r => (ls, r))
  | .idiv => (mx_b2 .idiv st).map (fun r => (ls, r))
  | .irem => (mx_b2 .irem st).map (fun r => (ls, r))
  | .ladd => (mx_b2L .ladd st).map (fun r => (ls, r))
  | .lsub => (mx_b2L .lsub st).map (fun r => (ls, r))
  | .lmul => (mx_b2L .lmul st).map (fun r => (ls, r))
  | .land => (mx_b2L .land st).map (fun r => (ls, r))
  | .lor => (mx_b2L .lor st).map (fun r => (ls, r))
  | .lxor => (mx_b2L .lxor st).map (fun r => (ls, r))
  | .lshl => (mx_b2S .lshl st).map (fun r => (ls, r))
  | .lshr => (mx_b2S .lshr st).map (fun r => (ls, r))
  | .ineg => (match st with
    | .int x :: r => some (ls, .int (-x) :: r)
    | _ => none)
  | .i2l => (match st with
    | .int x :: r => some (ls, .long x.toInt64 :: r)
    | _ => none)
  | .l2i => (match st with
    | .long x :: r => some (ls, .int x.toInt32 :: r)
    | _ => none)
  | .i2b => (match st with
    | .int x :: r => some (ls, .int x.toInt8.toInt32 :: r)
    | _ => none)
  | .lcmp => (match st with
    | .long y :: .long x :: r => some (ls, .int (lg_cmp x y) :: r)
    | _ => none)
  | .dup => (match st with
    | v :: r => if mx_isJ v then none else some (ls, v :: v :: r)
    | _ => none)
  | .pop => (match st with
    | v :: r => if mx_isJ v then none else some (ls, r)
    | _ => none)
  | .dup_x1 => (match st with
    | v :: w :: r => if mx_isJ v || mx_isJ w then none else some (ls, v :: w :: v :: r)
    | _ => none)
  | .dup2 => (match st with
    | v :: w :: r => if mx_isJ v || mx_isJ w then none else some (ls, v :: w :: v :: w :: r)
    | _ => none)
  | _ => none
/-- which places of the stack an instruction wants known -/
def mx_need : Instr → List Nat
  | .iadd => [0, 1]
  | .isub => [0, 1]
  | .imul => [0, 1]
  | .iand => [0, 1]
  | .ior => [0, 1]
  | .ixor => [0, 1]
  | .ishl => [0, 1]
  | .ishr => [0, 1]
  | .idiv => [0, 1]
  | .irem => [0, 1]
  | .ineg => [0]
  | .i2l => [0]
  | .i2b => [0]
  | .iaload => [0]
  | .baload => [0]
  | .laload => [0]
  | .aaload => [0]
  | .iastore => [1]
  | .bastore => [0, 1]
  | .lastore => [1]
  | .aastore => [1]
  | .tableswitch .. => [0]
  | _ => []
def mx_small (env : mx_E) (st : List Value) (k : Nat) : Option (Nat × Int × Int) := match st[k]? with
  | some (.retAddr i) => (match env[i]? with
    | some (lo, hi) => if hi - lo < 64 then some (i, lo, hi) else none
    | none => none)
  | _ => none
def mx_rng (lo : Int) : Nat → List Int
  | 0 => []
  | n + 1 => lo :: mx_rng (lo + 1) n
/-- a switch over a symbolic int: below, within, above -/
def mx_sT (ins : Instr) (env : mx_E) (st : List Value) : Option (List (mx_E × List Value)) := match ins with
  | .tableswitch _ lo hi _ => (match st with
    | .retAddr i :: _ => (match env[i]? with
      | some (l1, h1) => if l1 < lo ∧ lo ≤ h1 then some [(env.set i (l1, lo - 1), st), (env.set i (lo, h1), st)]
          else if l1 ≤ hi ∧ hi < h1 then some [(env.set i (l1, hi), st), (env.set i (hi + 1, h1), st)] else none
      | none => none)
    | _ => none)
  | _ => none
def mx_s0 (ins : Instr) (env : mx_E) (st : List Value) : Option (List (mx_E × List Value)) :=
  match (mx_need ins).find? (fun k => (mx_small env st k).isSome) with
  | none => mx_sT ins env st
  | some k => match mx_small env st k with
    | none => none
    | some (i, lo, hi) => some ((mx_rng lo (hi - lo + 1).toNat).map (fun z => (env.set i (z, z), st.set k (.int (Int32.ofInt z)))))
def mx_cmp (cd : Jvm.ClassFile.Cond) (x y : Int32) : Bool := match cd with
  | .eq => decide (x = y)
  | .ne => !decide (x = y)
  | .lt => decide (x < y)
  | .ge => !decide (x < y)
  | .gt => decide (y < x)
  | .le => !decide (y < x)
def mx_flip : Jvm.ClassFile.Cond → Jvm.ClassFile.Cond
  | .eq => .eq
  | .ne => .ne
  | .lt => .gt
  | .ge => .le
  | .gt => .lt
  | .le => .ge
/-- the part of an interval where an int below, at, from .. c may lie -/
def mx_refT (cd : Jvm.ClassFile.Cond) (c lo hi : Int) : Int × Int := match cd with
  | .eq => (max lo c, min hi c)
  | .ne => (if c = lo then lo + 1 else lo, if c = hi then hi - 1 else hi)
  | .lt => (lo, min hi (c - 1))
  | .ge => (max lo c, hi)
  | .gt => (max lo (c + 1), hi)
  | .le => (lo, min hi c)
def mx_neg : Jvm.ClassFile.Cond → Jvm.ClassFile.Cond
  | .eq => .ne
  | .ne => .eq
  | .lt => .ge
  | .ge => .lt
  | .gt => .le
  | .le => .gt
def mx_cand (cd : Jvm.ClassFile.Cond) (c lo hi : Int) (tgt nxt : Nat) : List ((Int × Int) × Nat) := match cd with
  | .eq => [((max lo c, min hi c), tgt), ((lo, min hi (c - 1)), nxt), ((max lo (c + 1), hi), nxt)]
  | .ne => [((lo, min hi (c - 1)), tgt), ((max lo (c + 1), hi), tgt), ((max lo c, min hi c), nxt)]
  | cd => [(mx_refT cd c lo hi, tgt), (mx_refT (mx_neg cd) c lo hi, nxt)]
def mx_fork (cd : Jvm.ClassFile.Cond) (env : mx_E) (i : Nat) (c : Int) (tgt nxt : Nat) (r : List Value) : Option (List (mx_E × Nat × List Value)) := match env[i]? with
  | none => none
  | some (lo, hi) => some (((mx_cand cd c lo hi tgt nxt).filter (fun q => decide (q.1.1 ≤ q.1.2))).map (fun q => (env.set i q.1, q.2, r)))
def mx_tg (pc : Nat) (off : Int) : Option Nat := if 0 ≤ (pc : Int) + off then some ((pc : Int) + off).toNat else none
/-- branches: where the run may go on -/
def mx_s2 (ins : Instr) (pc : Nat) (env : mx_E) (st : List Value) : Option (List (mx_E × Nat × List Value)) := match ins with
  | .goto off => (mx_tg pc off).map (fun t => [(env, t, st)])
  | .ifCond cd off => (match mx_tg pc off, st with
    | some t, .int x :: r => some [(env, (if mx_cmp cd x 0 then t else pc + 3), r)]
    | some t, .retAddr i :: r => mx_fork cd env i 0 t (pc + 3) r
    | _, _ => none)
  | .if_icmp cd off => (match mx_tg pc off, st with
    | some t, .int y :: .int x :: r => some [(env, (if mx_cmp cd x y then t else pc + 3), r)]
    | some t, .int y :: .retAddr i :: r => mx_fork cd env i y.toInt t (pc + 3) r
    | some t, .retAddr i :: .int x :: r => mx_fork (mx_flip cd) env i x.toInt t (pc + 3) r
    | _, _ => none)
  | .ifnull off => (match mx_tg pc off, st with
    | some t, .null :: r => some [(env, t, r)]
    | some _, .ref _ :: r => some [(env, pc + 3, r)]
    | some _, .float _ :: r => some [(env, pc + 3, r)]
    | _, _ => none)
  | .ifnonnull off => (match mx_tg pc off, st with
    | some _, .null :: r => some [(env, pc + 3, r)]
    | some t, .ref _ :: r => some [(env, t, r)]
    | some t, .float _ :: r => some [(env, t, r)]
    | _, _ => none)
  | .tableswitch dflt lo hi offs => (match st with
    | .int x :: r => if x.toInt < lo ∨ hi < x.toInt then (mx_tg pc dflt).map (fun t => [(env, t, r)])
      else (match offs[(x.toInt - lo).toNat]? with
        | some off => (mx_tg pc off).map (fun t => [(env, t, r)])
        | none => none)
    | .retAddr i :: r => (match mx_tg pc dflt, env[i]? with
        | some t, some (l1, h1) => if h1 < lo ∨ hi < l1 then some [(env, t, r)] else none
        | _, _ => none)
    | _ => none)
  | _ => none
/-- what an array holds at a place -/
def mx_at (d : Value) (us : List (Nat × Value)) (j : Nat) : Value := match mx_look us j with
  | some v => v
  | none => d
def mx_idx (n : Nat) (x : Int32) : Option Nat := if x < 0 ∨ n ≤ x.toNatClampNeg then none else some x.toNatClampNeg
def mx_up (d : Value) (us : List (Nat × Value)) (j : Nat) (v : Value) : List (Nat × Value) :=
  if d = v ∧ mx_at d us j = v then us else (j, v) :: us
def mx_01 : Value → Bool
  | .int x => decide (x = 0) || decide (x = 1)
  | _ => false
def mx_okB : Value → Bool
  | .int x => decide (x.toInt8.toInt32 = x)
  | _ => false
def mx_fit (ty : FieldType) (v : Value) : Bool := match ty with
  | .int => mx_isI v
  | .boolean => mx_01 v
  | .long => mx_isJ v
  | .object _ => mx_isA v
  | .array _ => mx_isA v
  | _ => false
def mx_isTy (P : mx_P) (t : Nat) (ty : FieldType) : Bool := match (mx_TY P)[t]? with
  | some x => decide (x = ty)
  | none => false
def mx_aload (P : mx_P) (ty : FieldType) (h : mx_H) (st : List Value) : Option (mx_H × List Value) := match st with
  | .int x :: .ref k :: r => (match h[k]? with
    | some (.inl (t, n, d, us)) => if mx_isTy P t ty then (mx_idx n x).map (fun j => (h, mx_at d us j :: r)) else none
    | _ => none)
  | _ => none
/-- an element out of the law's script -/
def mx_sload (env : mx_E) (h : mx_H) (st : List Value) : Option (mx_H × List Value) := match st with
  | .int x :: .float u :: r => if u = 0 ∧ env[4096]? = some (8, 8) then (mx_idx 8 x).map (fun j => (h, .retAddr j :: r)) else none
  | _ => none
def mx_qload (P : mx_P) (h : mx_H) (st : List Value) : Option (mx_H × List Value) := match st with
  | .int x :: .ref k :: r => (match h[k]? with
    | some (.inl (t, n, d, us)) => (match (mx_TY P)[t]? with
      | some (.object _) => (mx_idx n x).map (fun j => (h, mx_at d us j :: r))
      | _ => none)
    | _ => none)
  | _ => none
def mx_astore (P : mx_P) (ty : FieldType) (ok : Value → Bool) (h : mx_H) (st : List Value) : Option (mx_H × List Value) := match st with
  | v :: .int x :: .ref k :: r => (match h[k]? with
    | some (.inl (t, n, d, us)) => if mx_isTy P t ty && ok v then (mx_idx n x).map (fun j => (h.set k (.inl (t, n, d, mx_up d us j v)), r)) else none
    | _ => none)
  | _ => none
def mx_qstore (P : mx_P) (h : mx_H) (st : List Value) : Option (mx_H × List Value) := match st with
  | .ref o :: .int x :: .ref k :: r => (match h[k]?, h[o]? with
    | some (.inl (t, n, d, us)), some (.inr (ci, _)) => (match (mx_TY P)[t]? with
      | some (.object _) => if mx_ec P t = ci then (mx_idx n x).map (fun j => (h.set k (.inl (t, n, d, mx_up d us j (.ref o))), r)) else none
      | _ => none)
    | _, _ => none)
  | _ => none
def mx_copy (P : mx_P) (h : mx_H) (st : List Value) : Option (mx_H × List Value) := match st with
  | .int n :: .int dp :: .ref k1 :: .int sp :: .ref k0 :: r => (match h[k0]?, h[k1]? with
    | some (.inl (t0, n0, d0, u0)), some (.inl (t1, n1, d1, u1)) =>
      if mx_isTy P t0 .int && mx_isTy P t1 .int && !decide (sp < 0) && !decide (dp < 0) && !decide (n < 0) && decide (sp.toNatClampNeg + n.toNatClampNeg ≤ n0) && decide (dp.toNatClampNeg + n.toNatClampNeg ≤ n1) && decide ((r.map mx_cat).sum ≤ 8) then
        (if sp.toNatClampNeg = 0 ∧ dp.toNatClampNeg = 0 ∧ n.toNatClampNeg = n1 then some (h.set k1 (.inl (t1, n1, d0, u0)), r)
         else some (h.set k1 (.inl (t1, n1, d1, ((List.range n.toNatClampNeg).map (fun i => (dp.toNatClampNeg + i, mx_at d0 u0 (sp.toNatClampNeg + i)))) ++ u1)), r))
      else none
    | _, _ => none)
  | _ => none
def mx_df : ArrayType → Value
  | .long => .long 0
  | _ => .int 0
/-- what touches the heap -/
def mx_s3 (P : mx_P) (d : Nat) (ins : Instr) (a b : Nat) (env : mx_E) (h : mx_H) (st : List Value) : Option (mx_H × List Value) := match ins with
  | .getfield _ => (match st with
    | .ref k :: r => (match h[k]? with
      | some (.inr (ci, fs)) => if ci = a then (fs[b]?).map (fun v => (h, v :: r)) else none
      | _ => none)
    | _ => none)
  | .putfield _ => (match st with
    | v :: .ref k :: r => (match h[k]? with
      | some (.inr (ci, fs)) => if ci = a ∧ b < fs.length ∧ mx_fit (mx_ft P a b) v = true then some (h.set k (.inr (ci, fs.set b v)), r) else none
      | _ => none)
    | _ => none)
  | .new _ => some (h ++ [.inr (a, mx_fd P a)], .ref h.length :: st)
  | .newarray ty => (match st with
    | .int n :: r => if n < 0 ∨ 100000 < n.toNatClampNeg then none else some (h ++ [.inl (a, n.toNatClampNeg, mx_df ty, [])], .ref h.length :: r)
    | _ => none)
  | .anewarray _ => (match st with
    | .int n :: r => if n < 0 ∨ 100000 < n.toNatClampNeg then none else some (h ++ [.inl (a, n.toNatClampNeg, .null, [])], .ref h.length :: r)
    | _ => none)
  | .iaload => (match mx_aload P .int h st with
    | some q => some q
    | none => mx_sload env h st)
  | .baload => (match mx_aload P .boolean h st with
    | some q => some q
    | none => mx_aload P .byte h st)
  | .laload => mx_aload P .long h st
  | .aaload => mx_qload P h st
  | .iastore => mx_astore P .int mx_isI h st
  | .bastore => (match mx_astore P .boolean mx_01 h st with
    | some q => some q
    | none => mx_astore P .byte mx_okB h st)
  | .lastore => mx_astore P .long mx_isJ h st
  | .aastore => mx_qstore P h st
  | .arraylength => (match st with
    | .ref k :: r => (match h[k]? with
      | some (.inl (_, n, _, _)) => some (h, .int (Int32.ofNat n) :: r)
      | _ => none)
    | .float u :: r => if u = 0 then some (h, .retAddr 4096 :: r) else none
    | _ => none)
  | .ldc _ => if b = 0 then some (h, .int (Int32.ofNat a) :: st) else some (h, .float (UInt32.ofNat a) :: st)
  | .ldc2_w _ => some (h, .long (Int64.ofNat a) :: st)
  | .invokespecial _ => (match st, d, a with
    | .ref _ :: r, _ + 1, 0 => if (r.map mx_cat).sum ≤ 8 then some (h, r) else none
    | _, _, _ => none)
  | .invokestatic _ => (match d, a with
    | _ + 1, 0 => mx_copy P h st
    | _, _ => none)
  | _ => none
/-- a call: what it takes, and what stays on the stack -/
def mx_s4 (P : mx_P) (ins : Instr) (a b : Nat) (h : mx_H) (st : List Value) : Option (List Value × List Value) := match ins with
  | .invokestatic _ => if 0 < a ∧ (mx_mt P b).2.2.2.2.1 ≤ st.length ∧ ((st.drop (mx_mt P b).2.2.2.2.1).map mx_cat).sum ≤ 8 ∧ ((st.take (mx_mt P b).2.2.2.2.1).map mx_cat).sum ≤ (mx_mt P b).2.2.1 then some ((st.take (mx_mt P b).2.2.2.2.1).reverse, st.drop (mx_mt P b).2.2.2.2.1) else none
  | .invokespecial _ => (match st.drop (mx_mt P b).2.2.2.2.1 with
    | .ref k :: r => (match h[k]? with
      | some (.inr (ci, _)) => if 0 < a ∧ ci = (mx_mt P b).2.2.2.2.2 ∧ (r.map mx_cat).sum ≤ 8 ∧ 1 + ((st.take (mx_mt P b).2.2.2.2.1).map mx_cat).sum ≤ (mx_mt P b).2.2.1 then some (.ref k :: (st.take (mx_mt P b).2.2.2.2.1).reverse, r) else none
      | _ => none)
    | _ => none)
  | .invokevirtual _ => (match st.drop (mx_mt P b).2.2.2.2.1 with
    | .ref k :: r => (match h[k]? with
      | some (.inr (ci, _)) => if 0 < a ∧ ci = (mx_mt P b).2.2.2.2.2 ∧ (r.map mx_cat).sum ≤ 8 ∧ 1 + ((st.take (mx_mt P b).2.2.2.2.1).map mx_cat).sum ≤ (mx_mt P b).2.2.1 then some (.ref k :: (st.take (mx_mt P b).2.2.2.2.1).reverse, r) else none
      | _ => none)
    | _ => none)
  | _ => none
def mx_isR : Instr → Bool
  | .ireturn => true
  | .lreturn => true
  | .areturn => true
  | .return_ => true
  | _ => false
/-- what a method answers -/
def mx_rv (ins : Instr) (ret : Option FieldType) (st : List Value) : Option (Option Value) := match ins, ret, st with
  | .ireturn, some .int, [v] => if mx_isI v then some (some v) else none
  | .ireturn, some .boolean, [v] => if mx_01 v then some (some v) else none
  | .lreturn, some .long, [v] => if mx_isJ v then some (some v) else none
  | .areturn, some (.object _), [v] => if mx_isA v then some (some v) else none
  | .return_, none, [] => some none
  | _, _, _ => none
def mx_args : Nat → List Value → mx_L
  | _, [] => []
  | i, v :: r => (i, v) :: mx_args (i + mx_cat v) r
/-- the run: fuel, depth; K is asked at each end: where a method returns, or where no code is told -/
def mx (P : mx_P) : Nat → Nat → mx_E → mx_H → Nat → Nat → mx_L → List Value → (mx_E → mx_H → Nat → mx_L → List Value → Bool) → Bool
  | 0, _, _, _, _, _, _, _, _ => false
  | n + 1, d, env, h, m, pc, ls, st, K => match mx_pg P m pc with
    | none => K env h pc ls st
    | some (ins, a, b, _) => bif mx_isR ins then K env h pc ls st else
      match mx_s0 ins env st with
      | some fs => fs.all (fun q => mx P n d q.1 h m pc ls q.2 K)
      | none => match mx_s1 (mx_mt P m).2.2.1 ins ls st with
        | some q => mx P n d env h m (pc + mx_len ins) q.1 q.2 K
        | none => match mx_s2 ins pc env st with
          | some bs => bs.all (fun q => mx P n d q.1 h m q.2.1 ls q.2.2 K)
          | none => match mx_s3 P d ins a b env h st with
            | some q => mx P n d env q.1 m (pc + mx_len ins) ls q.2 K
            | none => match mx_s4 P ins a b h st with
              | none => false
              | some q => match d with
                | 0 => false
                | d' + 1 => mx P n d' env h b 0 (mx_args 0 q.1) [] (fun env' h' pc' _ st' => match mx_pg P b pc' with
                  | none => false
                  | some (ins', _) => match mx_rv ins' (mx_mt P b).2.2.2.1 st' with
                    | none => false
                    | some v => mx P n (d' + 1) env' h' m (pc + 3) ls (v.toList ++ q.2) K)
end MXA
