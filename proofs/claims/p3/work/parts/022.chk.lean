/-! the tables are what the claim's own tables say -/
section MZB
noncomputable def mz_w (k : Nat) (w : Cond) : Bool := match mz_tb[k]? with
  | some x => decide (x = w)
  | none => false
theorem mz_w_spec {k : Nat} {w : Cond} (h : mz_w k w = true) : w ∈ mz_tb := by
  unfold mz_w at h
  split at h
  next x hx => rw [← of_decide_eq_true h]; exact List.mem_of_getElem? hx
  next => cases h
theorem mz_good : ∀ w ∈ mz_tb, goodWord w = true := fun w hw => (List.mem_filter.mp hw).2
theorem mz_sub : ∀ w ∈ mz_tb, w ∈ lw_tbl := fun w hw => (List.mem_filter.mp hw).1
noncomputable def mz_okM (b : Nat) : Bool :=
  mz_w (mz_mw b).1 (.code (mz_mt b).1 (mz_mt b).2.1 (mz_mt b).2.2.1 (mz_mt b).2.2.2.1) && mz_w (mz_mw b).2.1 (.initialized (mz_mt b).1.cls) && plainName (mz_mt b).1.cls && !decide ((mz_mt b).1.cls = "java/lang/invoke/MethodHandle") && !decide ((mz_mt b).1.cls = "java/lang/invoke/VarHandle") && decide ((parseMethodDescriptor (mz_mt b).1.desc).map (fun d => d.parameters.length) = some (mz_mt b).2.2.2.2.1) && decide ((mz_mt b).2.2.1 ≤ 40) &&
  (match (mz_mw b).2.2.2.2 with
    | 0 => mz_w (mz_mw b).2.2.1 (.static (mz_mt b).1)
    | 1 => mz_w (mz_mw b).2.2.1 (.instanceMethod (mz_mt b).1) && mz_w (mz_mw b).2.2.2.1 (.selects (mz_mt b).1.cls (mz_mt b).1 (mz_mt b).1) && (match mz_cl[(mz_mt b).2.2.2.2.2]? with
      | some q => decide (q.1 = (mz_mt b).1.cls)
      | none => false)
    | _ => mz_w (mz_mw b).2.2.1 (.instanceMethod (mz_mt b).1) && decide ((mz_mt b).1.name = "<init>") && decide ((mz_mt b).2.2.2.1 = none) && (match mz_cl[(mz_mt b).2.2.2.2.2]? with
      | some q => decide (q.1 = (mz_mt b).1.cls)
      | none => false))
noncomputable def mz_lk (m : Nat) (ins : Instr) (a b w : Nat) : Bool := match ins with
  | .getfield idx => (match mz_cl[a]? with
    | some q => decide (b < q.2.2) && mz_w w (.fieldLink (mz_mt m).1.cls idx (q.2.1 b).1 (q.2.1 b).2.1 (q.2.1 b).2.2.1)
    | none => false)
  | .putfield idx => (match mz_cl[a]? with
    | some q => decide (b < q.2.2) && mz_w w (.fieldLink (mz_mt m).1.cls idx (q.2.1 b).1 (q.2.1 b).2.1 (q.2.1 b).2.2.1) && (!(q.2.1 b).2.2.2 || (decide ((mz_mt m).1.name = "<init>") && decide ((q.2.1 b).1 = (mz_mt m).1.cls)))
    | none => false)
  | .new idx => (match mz_cl[a]? with
    | some q => mz_w w (.classLink (mz_mt m).1.cls idx q.1) && mz_w (mz_cw a).1 (.instantiable q.1 q.2.2) && mz_w (mz_cw a).2 (.initialized q.1)
    | none => false)
  | .newarray ty => decide (mz_TY[a]? = some (newarray.typeOf ty)) && mz_w w (.arrayClass (newarray.typeOf ty)) && (decide (ty = .int) || decide (ty = .boolean) || decide (ty = .long) || decide (ty = .byte))
  | .anewarray idx => (match mz_TY[a]? with
    | some (.object C) => mz_w w (.classLink (mz_mt m).1.cls idx C) && decide (C ∈ mz_ao)
    | _ => false)
  | .ldc idx => if b = 0 then mz_w w (.constant (mz_mt m).1.cls idx (Int32.ofNat a)) else decide (a < 4294967296) && (match a with
    | 0 => false
    | k + 1 => (match mz_qs[k]? with
      | some q => decide (q.1 = (mz_mt m).1.cls) && decide (q.2.1 = idx)
      | none => false))
  | .ldc2_w idx => mz_w w (.constantLong (mz_mt m).1.cls idx (Int64.ofNat a))
  | .invokespecial idx => if a = 0 then mz_w w (.methodLink (mz_mt m).1.cls idx objectInit) else true
  | .invokestatic idx => if a = 0 then mz_w w (.methodLink (mz_mt m).1.cls idx arraycopyName) else true
  | _ => true
noncomputable def mz_ln (m idx a b w : Nat) : Bool := decide (0 < b) && decide (b < 250) && (if a = 1 then mz_w w (.methodLink (mz_mt m).1.cls idx (mz_mt b).1) else (match mz_nw[w]? with
  | some q => decide (q.1 = (mz_mt m).1.cls) && decide (q.2.1 = idx) && decide (q.2.2.1 = (mz_mt b).1)
  | none => false))
noncomputable def mz_lc (m : Nat) (ins : Instr) (a b w : Nat) : Bool := match ins with
  | .invokevirtual idx => decide ((mz_mw b).2.2.2.2 = 1) && mz_ln m idx a b w
  | .invokespecial idx => if a = 0 then true else decide ((mz_mw b).2.2.2.2 = 2) && mz_ln m idx a b w
  | .invokestatic idx => if a = 0 then true else decide ((mz_mw b).2.2.2.2 = 0) && mz_ln m idx a b w
  | _ => true
noncomputable def mz_dc (m pc : Nat) (ins : Instr) : Bool := match decode (mz_mt m).2.1 pc with
  | .ok (j, len) => decide (j = ins) && (mx_sw ins || decide (len = mx_len ins))
  | .error _ => false
noncomputable def mz_at (m pc : Nat) : Bool := match mz_pm m pc with
  | none => true
  | some i => mz_dc m pc i.1 && mz_lk m i.1 i.2.1 i.2.2.1 i.2.2.2 && mz_lc m i.1 i.2.1 i.2.2.1 i.2.2.2
noncomputable def mz_ok (m : Nat) : Bool := (List.range (mz_N m)).all (fun pc => mz_at m pc)
end MZB
