/-! the same machine, told so that the kernel runs it with less room: the heap in portions of sixteen -/
section MXF
abbrev mf_H : Type := List (List mx_C)
abbrev mf_O : Type := (mf_H × mx_L × List Value) ⊕ (List (mx_E × Nat × List Value)) ⊕ (List Value × List Value) ⊕ Unit
abbrev mx_O : Type := (mx_H × mx_L × List Value) ⊕ (List (mx_E × Nat × List Value)) ⊕ (List Value × List Value) ⊕ Unit
noncomputable def fh_nth (l : mf_H) (k : Nat) : Option mx_C := match fz_nth l (k / 16) with
  | some c => fz_nth c (k % 16)
  | none => none
noncomputable def fh_set (l : mf_H) (c : mx_C) (k : Nat) : mf_H := match fz_nth l (k / 16) with
  | some ch => fz_set l (fz_set ch c (k % 16)) (k / 16)
  | none => l
def fh_push : mf_H → mx_C → mf_H
  | [], c => [[c]]
  | [ch], c => bif Nat.blt ch.length 16 then [ch ++ [c]] else [ch, [c]]
  | ch :: t :: r, c => ch :: fh_push (t :: r) c
def fh_len : mf_H → Nat
  | [] => 0
  | ch :: t => ch.length + fh_len t
def fh_of : mx_H → mf_H := fun h => h.foldl fh_push []
/-- what one instruction does, the slow way -/
noncomputable def mx_o (ins : Instr) (a b nL pc d : Nat) (env : mx_E) (h : mx_H) (ls : mx_L) (st : List Value) : mx_O :=
  match mx_s0 ins env st with
  | some fs => .inr (.inl (fs.map (fun q => (q.1, pc, q.2))))
  | none => match mx_s1 nL ins ls st with
    | some q => .inl (h, q.1, q.2)
    | none => match mx_s2 ins pc env st with
      | some bs => .inr (.inl bs)
      | none => match mx_s3 mz_P d ins a b env h st with
        | some q => .inl (q.1, ls, q.2)
        | none => match mx_s4 mz_P ins a b h st with
          | some q => .inr (.inr (.inl q))
          | none => .inr (.inr (.inr ()))
noncomputable def fx_o (ins : Instr) (a b nL pc d : Nat) (env : mx_E) (h : mf_H) (ls : mx_L) (st : List Value) : mf_O :=
  match mx_s0 ins env st with
  | some fs => .inr (.inl (fs.map (fun q => (q.1, pc, q.2))))
  | none => match mx_s1 nL ins ls st with
    | some q => .inl (h, q.1, q.2)
    | none => match mx_s2 ins pc env st with
      | some bs => .inr (.inl bs)
      | none => match mx_s3 mz_P d ins a b env h.flatten st with
        | some q => .inl (fh_of q.1, ls, q.2)
        | none => match mx_s4 mz_P ins a b h.flatten st with
          | some q => .inr (.inr (.inl q))
          | none => .inr (.inr (.inr ()))
abbrev mf_S : Type := Nat → Nat → Nat → mx_E → mf_H → mx_L → List Value → mf_O
def fz_n (x : Int32) : Nat := x.toBitVec.toNat
def fz_lt (x y : Int32) : Bool := Nat.blt ((fz_n x + 2147483648) % 4294967296) ((fz_n y + 2147483648) % 4294967296)
def fz_cmp (cd : Jvm.ClassFile.Cond) (x y : Int32) : Bool := match cd with
  | .eq => Nat.beq (fz_n x) (fz_n y)
  | .ne => !Nat.beq (fz_n x) (fz_n y)
  | .lt => fz_lt x y
  | .ge => !fz_lt x y
  | .gt => fz_lt y x
  | .le => !fz_lt y x
def fz_idx (n : Nat) (x : Int32) : Option Nat := bif Nat.blt (fz_n x) n && Nat.blt n 2147483648 then some (fz_n x) else none
def fx_c (v : Value) : mf_S := fun _ _ _ _ h ls st => .inl (h, ls, v :: st)
def fx_ld (t : Value → Bool) (i : Nat) (slow : mf_S) : mf_S := fun nL pc d env h ls st => match mx_look ls i with
  | some v => bif t v then .inl (h, ls, v :: st) else slow nL pc d env h ls st
  | none => slow nL pc d env h ls st
def fx_st (t : Value → Bool) (i : Nat) (slow : mf_S) : mf_S := fun nL pc d env h ls st => match st with
  | v :: r => bif t v && Nat.blt i nL then .inl (h, mx_put1 ls i v, r) else slow nL pc d env h ls st
  | _ => slow nL pc d env h ls st
def fx_bin (f : Int32 → Int32 → Int32) (slow : mf_S) : mf_S := fun nL pc d env h ls st => match st with
  | .int y :: .int x :: r => .inl (h, ls, .int (f x y) :: r)
  | _ => slow nL pc d env h ls st
def fx_iinc (i : Nat) (n : Int) (slow : mf_S) : mf_S := fun nL pc d env h ls st => match mx_look ls i with
  | some (.int x) => bif Nat.blt i nL then .inl (h, mx_put1 ls i (.int (x + Int32.ofInt n)), st) else slow nL pc d env h ls st
  | _ => slow nL pc d env h ls st
def fx_dup (slow : mf_S) : mf_S := fun nL pc d env h ls st => match st with
  | v :: r => bif mx_isJ v then slow nL pc d env h ls st else .inl (h, ls, v :: v :: r)
  | _ => slow nL pc d env h ls st
def fx_goto (off : Int) (slow : mf_S) : mf_S := fun nL pc d env h ls st => match mx_tg pc off with
  | some t => .inr (.inl [(env, t, st)])
  | none => slow nL pc d env h ls st
def fx_if (cd : Jvm.ClassFile.Cond) (off : Int) (slow : mf_S) : mf_S := fun nL pc d env h ls st => match st with
  | .int x :: r => (match mx_tg pc off with
    | some t => .inr (.inl [(env, (bif fz_cmp cd x 0 then t else pc + 3), r)])
    | none => slow nL pc d env h ls st)
  | _ => slow nL pc d env h ls st
def fx_icmp (cd : Jvm.ClassFile.Cond) (off : Int) (slow : mf_S) : mf_S := fun nL pc d env h ls st => match st with
  | .int y :: .int x :: r => (match mx_tg pc off with
    | some t => .inr (.inl [(env, (bif fz_cmp cd x y then t else pc + 3), r)])
    | none => slow nL pc d env h ls st)
  | _ => slow nL pc d env h ls st
noncomputable def fx_get (a b : Nat) (slow : mf_S) : mf_S := fun nL pc d env h ls st => match st with
  | .ref k :: r => (match fh_nth h k with
    | some (.inr q) => bif Nat.beq q.1 a then (match fz_nth q.2 b with
      | some v => .inl (h, ls, v :: r)
      | none => slow nL pc d env h ls st) else slow nL pc d env h ls st
    | _ => slow nL pc d env h ls st)
  | _ => slow nL pc d env h ls st
noncomputable def fx_put (a b : Nat) (slow : mf_S) : mf_S := fun nL pc d env h ls st => match st with
  | v :: .ref k :: r => (match fh_nth h k with
    | some (.inr q) => bif Nat.beq q.1 a && Nat.blt b q.2.length && mx_fit (mz_ft a b) v then .inl (fh_set h (.inr (q.1, fz_set q.2 v b)) k, ls, r) else slow nL pc d env h ls st
    | _ => slow nL pc d env h ls st)
  | _ => slow nL pc d env h ls st
noncomputable def fx_aload (tc : Nat) (slow : mf_S) : mf_S := fun nL pc d env h ls st => match st with
  | .int x :: .ref k :: r => (match fh_nth h k with
    | some (.inl q) => bif Nat.beq q.1 tc then (match fz_idx q.2.1 x with
      | some j => .inl (h, ls, mx_at q.2.2.1 q.2.2.2 j :: r)
      | none => slow nL pc d env h ls st) else slow nL pc d env h ls st
    | _ => slow nL pc d env h ls st)
  | _ => slow nL pc d env h ls st
noncomputable def fx_len (slow : mf_S) : mf_S := fun nL pc d env h ls st => match st with
  | .ref k :: r => (match fh_nth h k with
    | some (.inl q) => .inl (h, ls, .int (Int32.ofNat q.2.1) :: r)
    | _ => slow nL pc d env h ls st)
  | _ => slow nL pc d env h ls st
noncomputable def fx_astore (tc : Nat) (ok : Value → Bool) (slow : mf_S) : mf_S := fun nL pc d env h ls st => match st with
  | .int v :: .int x :: .ref k :: r => (match fh_nth h k with
    | some (.inl q) => bif Nat.beq q.1 tc && ok (.int v) then (match fz_idx q.2.1 x with
      | some j => .inl (fh_set h (.inl (q.1, q.2.1, q.2.2.1, mx_up q.2.2.1 q.2.2.2 j (.int v))) k, ls, r)
      | none => slow nL pc d env h ls st) else slow nL pc d env h ls st
    | _ => slow nL pc d env h ls st)
  | _ => slow nL pc d env h ls st
noncomputable def fx_new (a : Nat) : mf_S := fun _ _ _ _ h ls st => .inl (fh_push h (.inr (a, mz_fd a)), ls, .ref (fh_len h) :: st)
def fx_newa (a : Nat) (df : Value) (slow : mf_S) : mf_S := fun nL pc d env h ls st => match st with
  | .int n :: r => bif Nat.blt (fz_n n) 100001 then .inl (fh_push h (.inl (a, fz_n n, df, [])), ls, .ref (fh_len h) :: r) else slow nL pc d env h ls st
  | _ => slow nL pc d env h ls st
noncomputable def fx_oi (slow : mf_S) : mf_S := fun nL pc d env h ls st => match d with
  | 0 => slow nL pc d env h ls st
  | _ + 1 => (match st with
    | .ref _ :: r => bif Nat.ble ((r.map mx_cat).sum) 8 then .inl (h, ls, r) else slow nL pc d env h ls st
    | _ => slow nL pc d env h ls st)
/-- a call of an object's method -/
noncomputable def fx_cv (np ci nL' : Nat) (slow : mf_S) : mf_S := fun nL pc d env h ls st => match st.drop np with
  | .ref k :: r => (match fh_nth h k with
    | some (.inr q) => bif Nat.beq q.1 ci && Nat.ble ((r.map mx_cat).sum) 8 && Nat.ble (1 + ((st.take np).map mx_cat).sum) nL' then .inr (.inr (.inl (.ref k :: (st.take np).reverse, r))) else slow nL pc d env h ls st
    | _ => slow nL pc d env h ls st)
  | _ => slow nL pc d env h ls st
noncomputable def fx_cs (np nL' : Nat) (slow : mf_S) : mf_S := fun nL pc d env h ls st => bif Nat.ble np st.length && Nat.ble (((st.drop np).map mx_cat).sum) 8 && Nat.ble (((st.take np).map mx_cat).sum) nL' then .inr (.inr (.inl ((st.take np).reverse, st.drop np))) else slow nL pc d env h ls st
noncomputable def fx_of : Instr → Nat → Nat → mf_S := fun ins a b => match ins with
  | .iconst n => fx_c (.int (Int32.ofInt n))
  | .bipush n => fx_c (.int (Int8.ofInt n).toInt32)
  | .sipush n => fx_c (.int (Int16.ofInt n).toInt32)
  | .ldc2_w _ => fx_c (.long (Int64.ofNat a))
  | .iload k => fx_ld mx_isI k (fx_o (.iload k) a b)
  | .iload_n k => fx_ld mx_isI k (fx_o (.iload_n k) a b)
  | .aload k => fx_ld mx_isA k (fx_o (.aload k) a b)
  | .aload_n k => fx_ld mx_isA k (fx_o (.aload_n k) a b)
  | .istore k => fx_st mx_isI k (fx_o (.istore k) a b)
  | .istore_n k => fx_st mx_isI k (fx_o (.istore_n k) a b)
  | .astore k => fx_st mx_isA k (fx_o (.astore k) a b)
  | .astore_n k => fx_st mx_isA k (fx_o (.astore_n k) a b)
  | .iinc k n => fx_iinc k n (fx_o (.iinc k n) a b)
  | .iadd => fx_bin (fun x y => x + y) (fx_o .iadd a b)
  | .isub => fx_bin (fun x y => x - y) (fx_o .isub a b)
  | .imul => fx_bin (fun x y => x * y) (fx_o .imul a b)
  | .dup => fx_dup (fx_o .dup a b)
  | .goto off => fx_goto off (fx_o (.goto off) a b)
  | .ifCond cd off => fx_if cd off (fx_o (.ifCond cd off) a b)
  | .if_icmp cd off => fx_icmp cd off (fx_o (.if_icmp cd off) a b)
  | .getfield x => fx_get a b (fx_o (.getfield x) a b)
  | .putfield x => fx_put a b (fx_o (.putfield x) a b)
  | .iaload => fx_aload 0 (fx_o .iaload a b)
  | .baload => fx_aload 1 (fx_o .baload a b)
  | .arraylength => fx_len (fx_o .arraylength a b)
  | .iastore => fx_astore 0 mx_isI (fx_o .iastore a b)
  | .bastore => fx_astore 1 mx_01 (fx_o .bastore a b)
  | .new _ => fx_new a
  | .newarray ty => fx_newa a (mx_df ty) (fx_o (.newarray ty) a b)
  | .anewarray x => fx_newa a .null (fx_o (.anewarray x) a b)
  | .invokevirtual x => bif Nat.beq a 0 then fx_o (.invokevirtual x) a b else fx_cv (mz_mt b).2.2.2.2.1 (mz_mt b).2.2.2.2.2 (mz_mt b).2.2.1 (fx_o (.invokevirtual x) a b)
  | .invokespecial x => bif Nat.beq a 0 then fx_oi (fx_o (.invokespecial x) a b) else fx_cv (mz_mt b).2.2.2.2.1 (mz_mt b).2.2.2.2.2 (mz_mt b).2.2.1 (fx_o (.invokespecial x) a b)
  | .invokestatic x => bif Nat.beq a 0 then fx_o (.invokestatic x) a b else fx_cs (mz_mt b).2.2.2.2.1 (mz_mt b).2.2.1 (fx_o (.invokestatic x) a b)
  | ins => fx_o ins a b
abbrev mf_K : Type := mx_E → mf_H → Nat → mx_L → List Value → Bool
abbrev mf_R : Type := Nat → mx_E → mf_H → Nat → Nat → mx_L → List Value → mf_K → Bool
abbrev mf_P : Type := Nat → Nat → Option mx_I
/-- a call's end -/
noncomputable def mf_ret (pg : mf_P) (ih : mf_R) (d m b pc : Nat) (ls : mx_L) (rest : List Value) (K : mf_K) : mf_K := fun env' h' pc' _ st' => match pg b pc' with
  | none => false
  | some i => match mx_rv i.1 (mz_mt b).2.2.2.1 st' with
    | none => false
    | some v => ih d env' h' m (pc + 3) ls (v.toList ++ rest) K
noncomputable def mf_out (pg : mf_P) (ih : mf_R) (d : Nat) (env : mx_E) (h : mf_H) (m pc : Nat) (ls : mx_L) (K : mf_K) (i : mx_I) (o : mf_O) : Bool := match o with
  | .inl q => ih d env q.1 m (pc + mx_len i.1) q.2.1 q.2.2 K
  | .inr (.inl fs) => fs.all (fun q => ih d q.1 h m q.2.1 ls q.2.2 K)
  | .inr (.inr (.inl q)) => (match d with
    | 0 => false
    | d' + 1 => ih d' env h i.2.2.1 0 (mx_args 0 q.1) [] (mf_ret pg ih (d' + 1) m i.2.2.1 pc ls q.2 K))
  | .inr (.inr (.inr _)) => false
noncomputable def mf_step (pg : mf_P) (ih : mf_R) : mf_R := fun d env h m pc ls st K => match pg m pc with
  | none => K env h pc ls st
  | some i => bif mx_isR i.1 then K env h pc ls st else mf_out pg ih d env h m pc ls K i (fx_of i.1 i.2.1 i.2.2.1 (mz_mt m).2.2.1 pc d env h ls st)
noncomputable def mf (pg : mf_P) (n : Nat) : mf_R := Nat.rec (fun _ _ _ _ _ _ _ _ => false) (fun _ ih => mf_step pg ih) n
end MXF
