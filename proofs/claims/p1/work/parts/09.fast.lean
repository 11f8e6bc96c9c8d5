/-! the same machine, told so that the kernel runs it with less room -/
section MXF
abbrev mf_O : Type := (mx_H × mx_L × List Value) ⊕ (List (mx_E × Nat × List Value)) ⊕ (List Value × List Value) ⊕ Unit
/-- what one instruction does, the slow way -/
def mx_o (P : mx_P) (ins : Instr) (a b nL pc d : Nat) (env : mx_E) (h : mx_H) (ls : mx_L) (st : List Value) : mf_O :=
  match mx_s0 ins env st with
  | some fs => .inr (.inl (fs.map (fun q => (q.1, pc, q.2))))
  | none => match mx_s1 nL ins ls st with
    | some q => .inl (h, q.1, q.2)
    | none => match mx_s2 ins pc env st with
      | some bs => .inr (.inl bs)
      | none => match mx_s3 P d ins a b env h st with
        | some q => .inl (q.1, ls, q.2)
        | none => match mx_s4 P ins a b h st with
          | some q => .inr (.inr (.inl q))
          | none => .inr (.inr (.inr ()))
abbrev mf_S : Type := Nat → Nat → Nat → mx_E → mx_H → mx_L → List Value → mf_O
def fx_c (v : Value) : mf_S := fun _ _ _ _ h ls st => .inl (h, ls, v :: st)
def fx_ld (t : Value → Bool) (i : Nat) (slow : mf_S) : mf_S := fun nL pc d env h ls st => match mx_look ls i with
  | some v => bif t v then .inl (h, ls, v :: st) else slow nL pc d env h ls st
  | none => slow nL pc d env h ls st
def fx_st (t : Value → Bool) (i : Nat) (slow : mf_S) : mf_S := fun nL pc d env h ls st => match st with
  | v :: r => bif t v && Nat.blt i nL then .inl (h, mx_put1 ls i v, r) else slow nL pc d env h ls st
  | _ => slow nL pc d env h ls st
def fx_bin (f : Int32 → Int32 → Int32) (slow : mf_S) : mf_S := fun nL pc d env h ls st => match st with
  | .int y :: .int x :: r => .inl (h, ls, .int (f x y) :: r)
  | _ => slow nL pc d env h ls st
def fx_iinc (i : Nat) (n : Int) (slow : mf_S) : mf_S := fun nL pc d env h ls st => match mx_look ls i with
  | some (.int x) => bif Nat.blt i nL then .inl (h, mx_put1 ls i (.int (x + Int32.ofInt n)), st) else slow nL pc d env h ls st
  | _ => slow nL pc d env h ls st
def fx_dup (slow : mf_S) : mf_S := fun nL pc d env h ls st => match st with
  | v :: r => bif mx_isJ v then slow nL pc d env h ls st else .inl (h, ls, v :: v :: r)
  | _ => slow nL pc d env h ls st
def fx_goto (off : Int) (slow : mf_S) : mf_S := fun nL pc d env h ls st => match mx_tg pc off with
  | some t => .inr (.inl [(env, t, st)])
  | none => slow nL pc d env h ls st
def fx_if (cd : Jvm.ClassFile.Cond) (off : Int) (slow : mf_S) : mf_S := fun nL pc d env h ls st => match mx_tg pc off, st with
  | some t, .int x :: r => .inr (.inl [(env, (bif mx_cmp cd x 0 then t else pc + 3), r)])
  | _, _ => slow nL pc d env h ls st
def fx_icmp (cd : Jvm.ClassFile.Cond) (off : Int) (slow : mf_S) : mf_S := fun nL pc d env h ls st => match mx_tg pc off, st with
  | some t, .int y :: .int x :: r => .inr (.inl [(env, (bif mx_cmp cd x y then t else pc + 3), r)])
  | _, _ => slow nL pc d env h ls st
def fx_get (a b : Nat) (slow : mf_S) : mf_S := fun nL pc d env h ls st => match st with
  | .ref k :: r => (match h[k]? with
    | some (.inr q) => bif Nat.beq q.1 a then (match q.2[b]? with
      | some v => .inl (h, ls, v :: r)
      | none => slow nL pc d env h ls st) else slow nL pc d env h ls st
    | _ => slow nL pc d env h ls st)
  | _ => slow nL pc d env h ls st
def fx_aload (P : mx_P) (ty : FieldType) (slow : mf_S) : mf_S := fun nL pc d env h ls st => match st with
  | .int x :: _ => (match mx_aload P ty h st with
    | some q => .inl (q.1, ls, q.2)
    | none => slow nL pc d env h ls st)
  | _ => slow nL pc d env h ls st
def fx_astore (P : mx_P) (ty : FieldType) (ok : Value → Bool) (slow : mf_S) : mf_S := fun nL pc d env h ls st => match st with
  | .int _ :: .int x :: _ => (match mx_astore P ty ok h st with
    | some q => .inl (q.1, ls, q.2)
    | none => slow nL pc d env h ls st)
  | _ => slow nL pc d env h ls st
/-- straight to the heap's part -/
def fx_s3 (P : mx_P) (ins : Instr) (a b : Nat) (slow : mf_S) : mf_S := fun nL pc d env h ls st => match mx_s3 P d ins a b env h st with
  | some q => .inl (q.1, ls, q.2)
  | none => slow nL pc d env h ls st
def fx_call (P : mx_P) (ins : Instr) (a b : Nat) (slow : mf_S) : mf_S := fun nL pc d env h ls st => bif Nat.beq a 0 then slow nL pc d env h ls st else (match mx_s4 P ins a b h st with
  | some q => .inr (.inr (.inl q))
  | none => slow nL pc d env h ls st)
def fx_of (P : mx_P) (i : mx_I) : mf_S := match i with
  | (.iconst n, _) => fx_c (.int (Int32.ofInt n))
  | (.bipush n, _) => fx_c (.int (Int8.ofInt n).toInt32)
  | (.sipush n, _) => fx_c (.int (Int16.ofInt n).toInt32)
  | (.iload k, q) => fx_ld mx_isI k (mx_o P (.iload k) q.1 q.2.1)
  | (.iload_n k, q) => fx_ld mx_isI k (mx_o P (.iload_n k) q.1 q.2.1)
  | (.aload k, q) => fx_ld mx_isA k (mx_o P (.aload k) q.1 q.2.1)
  | (.aload_n k, q) => fx_ld mx_isA k (mx_o P (.aload_n k) q.1 q.2.1)
  | (.istore k, q) => fx_st mx_isI k (mx_o P (.istore k) q.1 q.2.1)
  | (.istore_n k, q) => fx_st mx_isI k (mx_o P (.istore_n k) q.1 q.2.1)
  | (.astore k, q) => fx_st mx_isA k (mx_o P (.astore k) q.1 q.2.1)
  | (.astore_n k, q) => fx_st mx_isA k (mx_o P (.astore_n k) q.1 q.2.1)
  | (.iinc k n, q) => fx_iinc k n (mx_o P (.iinc k n) q.1 q.2.1)
  | (.iadd, q) => fx_bin (fun x y => x + y) (mx_o P .iadd q.1 q.2.1)
  | (.isub, q) => fx_bin (fun x y => x - y) (mx_o P .isub q.1 q.2.1)
  | (.imul, q) => fx_bin (fun x y => x * y) (mx_o P .imul q.1 q.2.1)
  | (.dup, q) => fx_dup (mx_o P .dup q.1 q.2.1)
  | (.goto off, q) => fx_goto off (mx_o P (.goto off) q.1 q.2.1)
  | (.ifCond cd off, q) => fx_if cd off (mx_o P (.ifCond cd off) q.1 q.2.1)
  | (.if_icmp cd off, q) => fx_icmp cd off (mx_o P (.if_icmp cd off) q.1 q.2.1)
  | (.getfield x, q) => fx_get q.1 q.2.1 (mx_o P (.getfield x) q.1 q.2.1)
  | (.putfield x, q) => fx_s3 P (.putfield x) q.1 q.2.1 (mx_o P (.putfield x) q.1 q.2.1)
  | (.new x, q) => fx_s3 P (.new x) q.1 q.2.1 (mx_o P (.new x) q.1 q.2.1)
  | (.newarray x, q) => fx_s3 P (.newarray x) q.1 q.2.1 (mx_o P (.newarray x) q.1 q.2.1)
  | (.anewarray x, q) => fx_s3 P (.anewarray x) q.1 q.2.1 (mx_o P (.anewarray x) q.1 q.2.1)
  | (.arraylength, q) => fx_s3 P .arraylength q.1 q.2.1 (mx_o P .arraylength q.1 q.2.1)
  | (.iaload, q) => fx_aload P .int (mx_o P .iaload q.1 q.2.1)
  | (.baload, q) => fx_aload P .boolean (mx_o P .baload q.1 q.2.1)
  | (.iastore, q) => fx_astore P .int mx_isI (mx_o P .iastore q.1 q.2.1)
  | (.bastore, q) => fx_astore P .boolean mx_01 (mx_o P .bastore q.1 q.2.1)
  | (.invokevirtual x, q) => fx_call P (.invokevirtual x) q.1 q.2.1 (mx_o P (.invokevirtual x) q.1 q.2.1)
  | (.invokestatic x, q) => fx_call P (.invokestatic x) q.1 q.2.1 (mx_o P (.invokestatic x) q.1 q.2.1)
  | (.invokespecial x, q) => fx_call P (.invokespecial x) q.1 q.2.1 (mx_o P (.invokespecial x) q.1 q.2.1)
  | (ins, q) => mx_o P ins q.1 q.2.1
abbrev mf_K : Type := mx_E → mx_H → Nat → mx_L → List Value → Bool
abbrev mf_R : Type := Nat → mx_E → mx_H → Nat → Nat → mx_L → List Value → mf_K → Bool
/-- a call's end -/
def mf_ret (P : mx_P) (ih : mf_R) (d m b pc : Nat) (ls : mx_L) (rest : List Value) (K : mf_K) : mf_K := fun env' h' pc' _ st' => match mx_pg P b pc' with
  | none => false
  | some i => match mx_rv i.1 (mx_mt P b).2.2.2.1 st' with
    | none => false
    | some v => ih d env' h' m (pc + 3) ls (v.toList ++ rest) K
def mf_out (P : mx_P) (ih : mf_R) (d : Nat) (env : mx_E) (h : mx_H) (m pc : Nat) (ls : mx_L) (K : mf_K) (i : mx_I) (o : mf_O) : Bool := match o with
  | .inl q => ih d env q.1 m (pc + mx_len i.1) q.2.1 q.2.2 K
  | .inr (.inl fs) => fs.all (fun q => ih d q.1 h m q.2.1 ls q.2.2 K)
  | .inr (.inr (.inl q)) => (match d with
    | 0 => false
    | d' + 1 => ih d' env h i.2.2.1 0 (mx_args 0 q.1) [] (mf_ret P ih (d' + 1) m i.2.2.1 pc ls q.2 K))
  | .inr (.inr (.inr _)) => false
def mf_step (P : mx_P) (ih : mf_R) : mf_R := fun d env h m pc ls st K => match mx_pg P m pc with
  | none => K env h pc ls st
  | some i => bif mx_isR i.1 then K env h pc ls st else mf_out P ih d env h m pc ls K i (fx_of P i (mx_mt P m).2.2.1 pc d env h ls st)
noncomputable def mf (P : mx_P) (n : Nat) : mf_R := Nat.rec (fun _ _ _ _ _ _ _ _ => false) (fun _ ih => mf_step P ih) n
end MXF
