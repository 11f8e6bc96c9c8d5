/-! the texts and the table of orders: String.length and String.charAt, walked in the model -/
section MJS
def mj_y1 : MethodName := ⟨"java/lang/String", "coder", "()B"⟩
def mj_y2 : MethodName := ⟨"java/lang/String", "length", "()I"⟩
def mj_y3 : MethodName := ⟨"java/lang/String", "isLatin1", "()Z"⟩
def mj_y4 : MethodName := ⟨"jdk/internal/util/Preconditions", "checkIndex", "(IILjava/util/function/BiFunction;)I"⟩
def mj_y5 : MethodName := ⟨"java/lang/String", "checkIndex", "(II)V"⟩
def mj_y6 : MethodName := ⟨"java/lang/StringLatin1", "charAt", "([BI)C"⟩
def mj_y7 : MethodName := ⟨"java/lang/String", "charAt", "(I)C"⟩
/-- the tables' words of them -/
def mj_W : List Cond := [.fieldLink "java/lang/String" 9 "java/lang/String" "value" "[B", .fieldLink "java/lang/String" 15 "java/lang/String" "coder" "B", .fieldLink "java/lang/String" 38 "java/lang/String" "COMPACT_STRINGS" "Z", .fieldLink "java/lang/String" 1053 "jdk/internal/util/Preconditions" "SIOOBE_FORMATTER" "Ljava/util/function/BiFunction;",
  .methodLink "java/lang/String" 335 mj_y1, .instanceMethod mj_y1, .selects "java/lang/String" mj_y1 mj_y1, .code mj_y1 prog_17_method_152_code 1 (some .byte), .initialized "java/lang/String",
  .methodLink "java/lang/String" 492 mj_y3, .instanceMethod mj_y3, .selects "java/lang/String" mj_y3 mj_y3, .code mj_y3 prog_17_method_154_code 1 (some .boolean),
  .methodLink "java/lang/String" 495 mj_y6, .static mj_y6, .initialized "java/lang/StringLatin1", .code mj_y6 prog_18_method_2_code 2 (some .char),
  .methodLink "java/lang/StringLatin1" 9 mj_y5, .static mj_y5, .code mj_y5 prog_17_method_155_code 2 none,
  .methodLink "java/lang/String" 1059 mj_y4, .static mj_y4, .initialized "jdk/internal/util/Preconditions", .code mj_y4 prog_23_method_11_code 3 (some .int),
  .methodLink "ThroughWindow$Reader" 177 mj_y2, .instanceMethod mj_y2, .selects "java/lang/String" mj_y2 mj_y2, .code mj_y2 prog_17_method_54_code 1 (some .int),
  .methodLink "ThroughWindow$Reader" 181 mj_y7, .instanceMethod mj_y7, .selects "java/lang/String" mj_y7 mj_y7, .code mj_y7 prog_17_method_56_code 2 (some .char),
  .fieldLink "ThroughWindow$Clerks" 47 "ThroughWindow$Clerks" "ORDERS" "[I"]
theorem mj_ws : ∀ w ∈ mj_W, w ∈ mz_tb := by decide +kernel
theorem mj_ok (k : Nat) {w : Cond} (h : mj_W[k]? = some w) : w ∈ mz_tb := mj_ws w (List.mem_of_getElem? h)
theorem mj_d2_0 : decode prog_17_method_54_code 0 = .ok (.aload_n 0, 1) := by decide +kernel
theorem mj_d2_1 : decode prog_17_method_54_code 1 = .ok (.getfield 9, 3) := by decide +kernel
theorem mj_d2_4 : decode prog_17_method_54_code 4 = .ok (.arraylength, 1) := by decide +kernel
theorem mj_d2_5 : decode prog_17_method_54_code 5 = .ok (.aload_n 0, 1) := by decide +kernel
theorem mj_d2_6 : decode prog_17_method_54_code 6 = .ok (.invokevirtual 335, 3) := by decide +kernel
theorem mj_d2_9 : decode prog_17_method_54_code 9 = .ok (.ishr, 1) := by decide +kernel
theorem mj_d2_10 : decode prog_17_method_54_code 10 = .ok (.ireturn, 1) := by decide +kernel
theorem mj_d7_0 : decode prog_17_method_56_code 0 = .ok (.aload_n 0, 1) := by decide +kernel
theorem mj_d7_1 : decode prog_17_method_56_code 1 = .ok (.invokevirtual 492, 3) := by decide +kernel
theorem mj_d7_4 : decode prog_17_method_56_code 4 = .ok (.ifCond .eq 12, 3) := by decide +kernel
theorem mj_d7_7 : decode prog_17_method_56_code 7 = .ok (.aload_n 0, 1) := by decide +kernel
theorem mj_d7_8 : decode prog_17_method_56_code 8 = .ok (.getfield 9, 3) := by decide +kernel
theorem mj_d7_11 : decode prog_17_method_56_code 11 = .ok (.iload_n 1, 1) := by decide +kernel
theorem mj_d7_12 : decode prog_17_method_56_code 12 = .ok (.invokestatic 495, 3) := by decide +kernel
theorem mj_d7_15 : decode prog_17_method_56_code 15 = .ok (.ireturn, 1) := by decide +kernel
theorem mj_d7_16 : decode prog_17_method_56_code 16 = .ok (.aload_n 0, 1) := by decide +kernel
theorem mj_d7_17 : decode prog_17_method_56_code 17 = .ok (.getfield 9, 3) := by decide +kernel
theorem mj_d7_20 : decode prog_17_method_56_code 20 = .ok (.iload_n 1, 1) := by decide +kernel
theorem mj_d7_21 : decode prog_17_method_56_code 21 = .ok (.invokestatic 498, 3) := by decide +kernel
theorem mj_d7_24 : decode prog_17_method_56_code 24 = .ok (.ireturn, 1) := by decide +kernel
theorem mj_h1 : mj_y1.cls ≠ "java/lang/invoke/MethodHandle" ∧ mj_y1.cls ≠ "java/lang/invoke/VarHandle" ∧ (parseMethodDescriptor mj_y1.desc).map (fun d => d.parameters.length) = some 0 := by decide +kernel
theorem mj_h2 : mj_y2.cls ≠ "java/lang/invoke/MethodHandle" ∧ mj_y2.cls ≠ "java/lang/invoke/VarHandle" ∧ (parseMethodDescriptor mj_y2.desc).map (fun d => d.parameters.length) = some 0 := by decide +kernel
theorem mj_h3 : mj_y3.cls ≠ "java/lang/invoke/MethodHandle" ∧ mj_y3.cls ≠ "java/lang/invoke/VarHandle" ∧ (parseMethodDescriptor mj_y3.desc).map (fun d => d.parameters.length) = some 0 := by decide +kernel
theorem mj_h4 : mj_y4.cls ≠ "java/lang/invoke/MethodHandle" ∧ mj_y4.cls ≠ "java/lang/invoke/VarHandle" ∧ (parseMethodDescriptor mj_y4.desc).map (fun d => d.parameters.length) = some 3 := by decide +kernel
theorem mj_h5 : mj_y5.cls ≠ "java/lang/invoke/MethodHandle" ∧ mj_y5.cls ≠ "java/lang/invoke/VarHandle" ∧ (parseMethodDescriptor mj_y5.desc).map (fun d => d.parameters.length) = some 2 := by decide +kernel
theorem mj_h6 : mj_y6.cls ≠ "java/lang/invoke/MethodHandle" ∧ mj_y6.cls ≠ "java/lang/invoke/VarHandle" ∧ (parseMethodDescriptor mj_y6.desc).map (fun d => d.parameters.length) = some 2 := by decide +kernel
theorem mj_h7 : mj_y7.cls ≠ "java/lang/invoke/MethodHandle" ∧ mj_y7.cls ≠ "java/lang/invoke/VarHandle" ∧ (parseMethodDescriptor mj_y7.desc).map (fun d => d.parameters.length) = some 1 := by decide +kernel
theorem mj_d1_0 : decode prog_17_method_152_code 0 = .ok (.getstatic 38, 3) := by decide +kernel
theorem mj_d1_3 : decode prog_17_method_152_code 3 = .ok (.ifCond .eq 10, 3) := by decide +kernel
theorem mj_d1_6 : decode prog_17_method_152_code 6 = .ok (.aload_n 0, 1) := by decide +kernel
theorem mj_d1_7 : decode prog_17_method_152_code 7 = .ok (.getfield 15, 3) := by decide +kernel
theorem mj_d1_10 : decode prog_17_method_152_code 10 = .ok (.goto 4, 3) := by decide +kernel
theorem mj_d1_13 : decode prog_17_method_152_code 13 = .ok (.iconst 1, 1) := by decide +kernel
theorem mj_d1_14 : decode prog_17_method_152_code 14 = .ok (.ireturn, 1) := by decide +kernel
theorem mj_d3_0 : decode prog_17_method_154_code 0 = .ok (.getstatic 38, 3) := by decide +kernel
theorem mj_d3_3 : decode prog_17_method_154_code 3 = .ok (.ifCond .eq 14, 3) := by decide +kernel
theorem mj_d3_6 : decode prog_17_method_154_code 6 = .ok (.aload_n 0, 1) := by decide +kernel
theorem mj_d3_7 : decode prog_17_method_154_code 7 = .ok (.getfield 15, 3) := by decide +kernel
theorem mj_d3_10 : decode prog_17_method_154_code 10 = .ok (.ifCond .ne 7, 3) := by decide +kernel
theorem mj_d3_13 : decode prog_17_method_154_code 13 = .ok (.iconst 1, 1) := by decide +kernel
theorem mj_d3_14 : decode prog_17_method_154_code 14 = .ok (.goto 4, 3) := by decide +kernel
theorem mj_d3_17 : decode prog_17_method_154_code 17 = .ok (.iconst 0, 1) := by decide +kernel
theorem mj_d3_18 : decode prog_17_method_154_code 18 = .ok (.ireturn, 1) := by decide +kernel
theorem mj_d5_0 : decode prog_17_method_155_code 0 = .ok (.iload_n 0, 1) := by decide +kernel
theorem mj_d5_1 : decode prog_17_method_155_code 1 = .ok (.iload_n 1, 1) := by decide +kernel
theorem mj_d5_2 : decode prog_17_method_155_code 2 = .ok (.getstatic 1053, 3) := by decide +kernel
theorem mj_d5_5 : decode prog_17_method_155_code 5 = .ok (.invokestatic 1059, 3) := by decide +kernel
theorem mj_d5_8 : decode prog_17_method_155_code 8 = .ok (.pop, 1) := by decide +kernel
theorem mj_d5_9 : decode prog_17_method_155_code 9 = .ok (.return_, 1) := by decide +kernel
theorem mj_d6_0 : decode prog_18_method_2_code 0 = .ok (.iload_n 1, 1) := by decide +kernel
theorem mj_d6_1 : decode prog_18_method_2_code 1 = .ok (.aload_n 0, 1) := by decide +kernel
theorem mj_d6_2 : decode prog_18_method_2_code 2 = .ok (.arraylength, 1) := by decide +kernel
theorem mj_d6_3 : decode prog_18_method_2_code 3 = .ok (.invokestatic 9, 3) := by decide +kernel
theorem mj_d6_6 : decode prog_18_method_2_code 6 = .ok (.aload_n 0, 1) := by decide +kernel
theorem mj_d6_7 : decode prog_18_method_2_code 7 = .ok (.iload_n 1, 1) := by decide +kernel
theorem mj_d6_8 : decode prog_18_method_2_code 8 = .ok (.baload, 1) := by decide +kernel
theorem mj_d6_9 : decode prog_18_method_2_code 9 = .ok (.sipush 255, 3) := by decide +kernel
theorem mj_d6_12 : decode prog_18_method_2_code 12 = .ok (.iand, 1) := by decide +kernel
theorem mj_d6_13 : decode prog_18_method_2_code 13 = .ok (.i2c, 1) := by decide +kernel
theorem mj_d6_14 : decode prog_18_method_2_code 14 = .ok (.ireturn, 1) := by decide +kernel
theorem mj_d4_0 : decode prog_23_method_11_code 0 = .ok (.iload_n 0, 1) := by decide +kernel
theorem mj_d4_1 : decode prog_23_method_11_code 1 = .ok (.ifCond .lt 8, 3) := by decide +kernel
theorem mj_d4_4 : decode prog_23_method_11_code 4 = .ok (.iload_n 0, 1) := by decide +kernel
theorem mj_d4_5 : decode prog_23_method_11_code 5 = .ok (.iload_n 1, 1) := by decide +kernel
theorem mj_d4_6 : decode prog_23_method_11_code 6 = .ok (.if_icmp .lt 10, 3) := by decide +kernel
theorem mj_d4_9 : decode prog_23_method_11_code 9 = .ok (.aload_n 2, 1) := by decide +kernel
theorem mj_d4_10 : decode prog_23_method_11_code 10 = .ok (.iload_n 0, 1) := by decide +kernel
theorem mj_d4_11 : decode prog_23_method_11_code 11 = .ok (.iload_n 1, 1) := by decide +kernel
theorem mj_d4_12 : decode prog_23_method_11_code 12 = .ok (.invokestatic 95, 3) := by decide +kernel
theorem mj_d4_15 : decode prog_23_method_11_code 15 = .ok (.athrow, 1) := by decide +kernel
theorem mj_d4_16 : decode prog_23_method_11_code 16 = .ok (.iload_n 0, 1) := by decide +kernel
theorem mj_d4_17 : decode prog_23_method_11_code 17 = .ok (.ireturn, 1) := by decide +kernel
section
variable {l : Launch} {rho : Nat → Int32} {n0 : Nat} {D : va_G} {tys : List (ClassId × FieldType)} {sg : Nat → Nat} {h : mx_H}
/-- a method's contract: from any such heap it comes to its answer, and leaves the objects as they are -/
def mj_Met (l : Launch) (rho : Nat → Int32) (n0 : Nat) (D : va_G) (tys : List (ClassId × FieldType)) (sg : Nat → Nat) (h : mx_H) (d : Nat) (y : MethodName) (cc : ByteArray) (nL : Nat) (ret : Option FieldType) (vals : List Value) (o : Option Int32) : Prop :=
  ∀ ws : va_W, va_D (fun q => n0 ≤ q) ws → mx_S sg rho tys ws h → Met l y (Cond.code y cc nL ret :: mz_tb) ({ frames := d, cells := 0, slots := 0, locals := 60 * d }) (mx_Pc mz_P mz_G n0 D tys sg rho ws vals) (mx_Qc mz_P n0 D tys sg rho ws h (o.map Value.int)) 0 0 (fun q => n0 ≤ q)
def mj_Fr (n0 : Nat) (D : va_G) (tys : List (ClassId × FieldType)) (sg : Nat → Nat) (rho : Nat → Int32) (p : Program) (R : Room) (s : State) (m : MethodId) (args : Array Value) (c : Code) (cc : ByteArray) (nL : Nat) (own : String) (d : Nat) : Prop :=
  p.tables.exec = Jvm.exec ∧ c.code = cc ∧ c.maxLocals = nL ∧ s.vm.findClass own = some m.cls ∧ (∀ w ∈ mz_tb, w.before args s = true) ∧ d ≤ R.frames ∧ 60 * d ≤ R.locals ∧ mx_Wd mz_P mz_G D tys sg s ∧ n0 ≤ s.heap.size ∧ mx_Sc n0 sg rho s s.heap
def mj_In (n0 : Nat) (D : va_G) (tys : List (ClassId × FieldType)) (sg : Nat → Nat) (rho : Nat → Int32) (h : mx_H) (ws : va_W) (s : State) (H : Heap) (locs : List Loc) : Prop :=
  ∃ ws' : va_W, va_P D (mx_cl mz_P) ws' H ∧ va_D (fun q => n0 ≤ q) ws' ∧ va_S (fun q => n0 ≤ q) s.heap H locs ∧ mx_S sg rho tys ws' h ∧ ∃ be : List Nat, ws'.map Prod.fst = ws.map Prod.fst ++ be
theorem mj_of {d nL : Nat} {y : MethodName} {cc : ByteArray} {ret : Option FieldType} {vals : List Value} {o : Option Int32} (hy : plainFor y = true) (hlen : (vals.map fun v => v.category).sum ≤ nL)
    (body : ∀ (p : Program) (e : Env) (R : Room) (s : State) (m : MethodId) (below : List Frame) (meth : Method) (c : Code) (H : Heap) (locs : List Loc) (sl : Array Slot) (ws : va_W), mj_Fr n0 D tys sg rho p R s m vals.toArray c cc nL y.cls d → meth.sig.returnType = ret → meth.locks = false → lv_has sl nL (lv_args 0 vals) → mj_In n0 D tys sg rho h ws s H locs →
      W p l e R s m vals.toArray below meth c H locs 0 0 (MQ below (mx_Qc mz_P n0 D tys sg rho ws h (o.map Value.int)) vals.toArray s 0 0 (fun q => n0 ≤ q)) (F0 m 0 sl [])) : mj_Met l rho n0 D tys sg h d y cc nL ret vals o := by
  intro ws hD hM
  refine mx_ofW (cc := cc) (maxL := nL) (ret := ret) hy rfl ?_
  intro p e s m args below meth c s₁ B hml hv
  obtain ⟨rfl, hn0, hP, hWd, hSc⟩ := hv
  have hts0 := atoms_spec B.pre
  have hts : ∀ w ∈ mz_tb, w.before vals.toArray s = true := fun w hw => hts0 w (List.mem_cons_of_mem _ hw)
  have hown : s.vm.findClass y.cls = some m.cls := findClass_of_methodNamed B.named
  rw [lg_entry_eq]
  have hF := lv_entry vals (n := nL) (by rw [mx_sl_len]; exact hlen)
  exact body p e _ s m below meth c s.heap [] _ ws ⟨B.exec, B.bytes, hml, hown, hts, Nat.le_refl _, Nat.le_refl _, hWd, hn0, hSc⟩ B.returns B.notSynchronized hF ⟨ws, hP, hD, va_S.rf, hM, [], by simp⟩
section
variable {p : Program} {e : Env} {R : Room} {s : State} {m : MethodId} {args : Array Value} {below : List Frame} {meth : Method} {c : Code} {H : Heap} {locs : List Loc} {cells slots : Nat} {Q : State → Prop} {sl : Array Slot} {rr : List Value} {cc : ByteArray} {nL pc d : Nat} {own : String} {ws : va_W}
theorem mj_ret {ty : FieldType} {v : Int32} (F : mj_Fr n0 D tys sg rho p R s m args c cc nL own d) (hr : meth.sig.returnType = some ty) (hlk : meth.locks = false) (hn : narrow ty (.int v) = .int v) (I : mj_In n0 D tys sg rho h ws s H locs) (hdc : decode cc pc = .ok (.ireturn, 1)) :
    W p l e R s m args below meth c H locs 0 0 (MQ below (mx_Qc mz_P n0 D tys sg rho ws h ((some v).map Value.int)) args s 0 0 (fun q => n0 ≤ q)) (F0 m pc sl [.int v]) := by
  obtain ⟨ws', hP, hD, hS, hM, pre⟩ := I
  exact W.zret F.1 F.2.1 hr hn (fun t ht _ => ⟨some (.int v), ws', rfl, ⟨rfl, trivial⟩, by rw [ht]; exact hP, hD, pre, hM, hS.F ht⟩) hS.2.2 hdc
theorem mj_vret (F : mj_Fr n0 D tys sg rho p R s m args c cc nL own d) (hr : meth.sig.returnType = none) (hlk : meth.locks = false) (I : mj_In n0 D tys sg rho h ws s H locs) (hdc : decode cc pc = .ok (.return_, 1)) :
    W p l e R s m args below meth c H locs 0 0 (MQ below (mx_Qc mz_P n0 D tys sg rho ws h ((none : Option Int32).map Value.int)) args s 0 0 (fun q => n0 ≤ q)) (F0 m pc sl []) := by
  obtain ⟨ws', hP, hD, hS, hM, pre⟩ := I
  exact W.vret F.1 F.2.1 hr (fun t ht _ => ⟨none, ws', rfl, trivial, by rw [ht]; exact hP, hD, pre, hM, hS.F ht⟩) hS.2.2 hdc
theorem mj_vl {al : List Nat} {o : Option Int32} {v : Option Value} (hv : mx_F2 (mx_R al sg rho) (o.map Value.int).toList v.toList) : v.toList = (o.map Value.int).toList := by
  cases o with
  | none => exact hv.n
  | some x =>
    obtain ⟨w, rr, e1, hw, hr1⟩ := mx_F2.c (a := Value.int x) (as := []) hv
    have e2 := hr1.n
    subst e2
    rw [e1]
    have e3 : w = .int x := hw
    rw [e3]
    rfl
theorem mj_pc (F : mj_Fr n0 D tys sg rho p R s m args c cc nL own d) {ws' : va_W} (hP : va_P D (mx_cl mz_P) ws' H) (hS : va_S (fun q => n0 ≤ q) s.heap H locs) (vals : List Value) : ∀ U : State, U.heap = H → s.WarmedH U.vm → mx_Pc mz_P mz_G n0 D tys sg rho ws' vals vals.toArray U := by
  obtain ⟨hx, hb, hml, hown, hts, hfr, hlo, hWd, hn0, hSc⟩ := F
  intro U hU hW
  exact ⟨rfl, by rw [hU]; exact Nat.le_trans hn0 hS.1, by rw [hU]; exact hP, hWd.moved hW, hSc.moved hW (fun a ha => by rw [hU]; exact hS.2.1 _ (Nat.lt_of_lt_of_le ha hn0) (Nat.not_le.mpr ha))⟩
theorem mj_callS {y : MethodName} {cy : ByteArray} {ny idx : Nat} {ry : Option FieldType} {As : List Value} {o : Option Int32} (F : mj_Fr n0 D tys sg rho p R s m args c cc nL own (d + 1)) (hm : mj_Met l rho n0 D tys sg h d y cy ny ry As o) (w1 : Cond.code y cy ny ry ∈ mz_tb) (w2 : Cond.initialized y.cls ∈ mz_tb) (w3 : Cond.static y ∈ mz_tb) (w4 : Cond.methodLink own idx y ∈ mz_tb)
    (hd : y.cls ≠ "java/lang/invoke/MethodHandle" ∧ y.cls ≠ "java/lang/invoke/VarHandle" ∧ (parseMethodDescriptor y.desc).map (fun d => d.parameters.length) = some As.length) (h40 : ny ≤ 40) (I : mj_In n0 D tys sg rho h ws s H locs) (hsz : sl.size = nL) (hr8 : (rr.map fun v => v.category).sum ≤ 8) (hdc : decode cc pc = .ok (.invokestatic idx, 3)) (hfit : cells + 0 ≤ R.cells ∧ slots + 0 ≤ R.slots)
    (kk : ∀ (H1 : Heap) (locs1 : List Loc), mj_In n0 D tys sg rho h ws s H1 locs1 → W p l e R s m args below meth c H1 locs1 cells slots Q (F0 m (pc + 3) sl ((o.map Value.int).toList ++ rr))) : W p l e R s m args below meth c H locs cells slots Q (F0 m pc sl (As.reverse ++ rr)) := by
  obtain ⟨ws', hP, hD, hS, hM, be0, pre0⟩ := I
  have hpc := mj_pc F hP hS As
  obtain ⟨hx, hb, hml, hown, hts, hfr, hlo, hWd, hn0, hSc⟩ := F
  have hS4 : CallFix p m c cc nL s args mz_tb own := ⟨hx, hb, hml, hown, hts⟩
  have hR : d + 1 ≤ R.frames ∧ 8 + (ny + 11) + 60 * d ≤ R.locals := ⟨hfr, by omega⟩
  refine mx_callW (va_runS (g := F0 m pc sl (As.reverse ++ rr)) (rest := rr) hS4 (hm ws' hD hM) ⟨callB_of (ws' := mz_tb) As.length hts (mx_goodIn mz_good (fun w hw => (List.mem_cons.mp hw).elim (fun e => e ▸ w1) (fun h => h))) rfl rfl rfl (hts _ w2) (hts _ w4) hd hR, hts _ w3⟩ ⟨mx_Pc.blind, hpc⟩ rfl rfl hsz rfl (lv_room hr8) hdc hfit) hS ?_
  intro v ws'' H1 locs1 hv hP1 hD1 hS1 pre1 hM1
  obtain ⟨be1, pre1⟩ := pre1
  rw [mj_vl hv]
  exact kk H1 locs1 ⟨ws'', hP1, hD1, hS1, hM1, be0 ++ be1, by rw [pre1, pre0, List.append_assoc]⟩
theorem mj_callV {y : MethodName} {cy : ByteArray} {ny idx b : Nat} {ry : Option FieldType} {As : List Value} {o : Option Int32} (F : mj_Fr n0 D tys sg rho p R s m args c cc nL own (d + 1)) (hm : mj_Met l rho n0 D tys sg h d y cy ny ry (.ref b :: As) o) (w1 : Cond.code y cy ny ry ∈ mz_tb) (w2 : Cond.initialized y.cls ∈ mz_tb) (w3 : Cond.instanceMethod y ∈ mz_tb) (w5 : Cond.selects y.cls y y ∈ mz_tb) (w4 : Cond.methodLink own idx y ∈ mz_tb)
    (hd : y.cls ≠ "java/lang/invoke/MethodHandle" ∧ y.cls ≠ "java/lang/invoke/VarHandle" ∧ (parseMethodDescriptor y.desc).map (fun d => d.parameters.length) = some As.length) (h40 : ny ≤ 40) (hrecv : ∃ cell : Cell, H[b]? = some cell ∧ cell.vm.isStatics = false ∧ s.vm.findClass y.cls = some cell.cls) (I : mj_In n0 D tys sg rho h ws s H locs) (hsz : sl.size = nL) (hr8 : (rr.map fun v => v.category).sum ≤ 8) (hdc : decode cc pc = .ok (.invokevirtual idx, 3)) (hfit : cells + 0 ≤ R.cells ∧ slots + 0 ≤ R.slots)
    (kk : ∀ (H1 : Heap) (locs1 : List Loc), mj_In n0 D tys sg rho h ws s H1 locs1 → W p l e R s m args below meth c H1 locs1 cells slots Q (F0 m (pc + 3) sl ((o.map Value.int).toList ++ rr))) : W p l e R s m args below meth c H locs cells slots Q (F0 m pc sl (As.reverse ++ .ref b :: rr)) := by
  obtain ⟨ws', hP, hD, hS, hM, be0, pre0⟩ := I
  have hpc := mj_pc F hP hS (.ref b :: As)
  obtain ⟨hx, hb, hml, hown, hts, hfr, hlo, hWd, hn0, hSc⟩ := F
  have hS4 : CallFix p m c cc nL s args mz_tb own := ⟨hx, hb, hml, hown, hts⟩
  have hR : d + 1 ≤ R.frames ∧ 8 + (ny + 11) + 60 * d ≤ R.locals := ⟨hfr, by omega⟩
  refine mx_callW (va_runV (g := F0 m pc sl (As.reverse ++ .ref b :: rr)) (b := b) (C := y.cls) (As := As) (rest := rr) hS4 (hm ws' hD hM) ⟨callB_of (ws' := mz_tb) As.length hts (mx_goodIn mz_good (fun w hw => (List.mem_cons.mp hw).elim (fun e => e ▸ w1) (fun h => h))) rfl rfl rfl (hts _ w2) (hts _ w4) hd hR, hts _ w3, hts _ w5⟩ ⟨mx_Pc.blind, hrecv, hpc⟩ rfl rfl hsz rfl (lv_room hr8) hdc hfit) hS ?_
  intro v ws'' H1 locs1 hv hP1 hD1 hS1 pre1 hM1
  obtain ⟨be1, pre1⟩ := pre1
  rw [mj_vl hv]
  exact kk H1 locs1 ⟨ws'', hP1, hD1, hS1, hM1, be0 ++ be1, by rw [pre1, pre0, List.append_assoc]⟩
theorem mj_rv {i : Nat} (hSc : mx_Sc n0 sg rho s s.heap) (hi : i < 12) (hS : va_S (fun q => n0 ≤ q) s.heap H locs) : ∃ cell : Cell, H[sg (i + 1)]? = some cell ∧ cell.vm.isStatics = false ∧ s.vm.findClass "java/lang/String" = some cell.cls := by
  obtain ⟨cell, h1, h2, h3, -⟩ := (hSc.2.1 i hi).1.kept hS.2.1
  exact ⟨cell, h1, h2, h3⟩
end
theorem mj_coder {i d : Nat} (hi : i < 12) : mj_Met l rho n0 D tys sg h d mj_y1 prog_17_method_152_code 1 (some .byte) [.ref (sg (i + 1))] (some 0) := by
  refine mj_of (by decide +kernel) (by simp [Value.category]) ?_
  intro p e R s m below meth c H locs sl ws F hr hlk hlv I
  obtain ⟨hx, hb, hml, hown, hts, hfr, hlo, hWd, hn0, hSc⟩ := id F
  obtain ⟨ws', hP, hD, hS, hM, pre⟩ := id I
  refine va_gets hx hb hSc.2.2.1 hS hown (hts _ (mj_ok 2 rfl)) (fun _ h => h) mj_d1_0 ?_
  refine lv_if_eq hx hb (tgt := 13) mj_d1_3 (by decide) (fun h => absurd h (by decide)) (fun _ => ?_)
  refine lv_aload_n hx hb mj_d1_6 rfl (lv_at hlv 0 rfl) ?_
  refine vk_getf hx hb (hSc.2.1 i hi).2.1 hS hown (hts _ (mj_ok 1 rfl)) (fun _ h => h) mj_d1_7 ?_
  refine lv_goto hx hb (tgt := 14) mj_d1_10 (by decide) ?_
  exact mj_ret F hr hlk rfl I mj_d1_14
theorem mj_latin {i d : Nat} (hi : i < 12) : mj_Met l rho n0 D tys sg h d mj_y3 prog_17_method_154_code 1 (some .boolean) [.ref (sg (i + 1))] (some 1) := by
  refine mj_of (by decide +kernel) (by simp [Value.category]) ?_
  intro p e R s m below meth c H locs sl ws F hr hlk hlv I
  obtain ⟨hx, hb, hml, hown, hts, hfr, hlo, hWd, hn0, hSc⟩ := id F
  obtain ⟨ws', hP, hD, hS, hM, pre⟩ := id I
  refine va_gets hx hb hSc.2.2.1 hS hown (hts _ (mj_ok 2 rfl)) (fun _ h => h) mj_d3_0 ?_
  refine lv_if_eq hx hb (tgt := 17) mj_d3_3 (by decide) (fun h => absurd h (by decide)) (fun _ => ?_)
  refine lv_aload_n hx hb mj_d3_6 rfl (lv_at hlv 0 rfl) ?_
  refine vk_getf hx hb (hSc.2.1 i hi).2.1 hS hown (hts _ (mj_ok 1 rfl)) (fun _ h => h) mj_d3_7 ?_
  refine lv_if_ne hx hb (tgt := 17) mj_d3_10 (by decide) (fun h => absurd rfl h) (fun _ => ?_)
  refine lv_iconst hx hb mj_d3_13 rfl ?_
  refine lv_goto hx hb (tgt := 18) mj_d3_14 (by decide) ?_
  exact mj_ret F hr hlk rfl I mj_d3_18
theorem mj_shr : ∀ i : Nat, i < 12 → Int32.ofNat (mx_tl.getD i 0) >>> ((0 : Int32) &&& 31) = Int32.ofNat (mx_tl.getD i 0) := by decide
theorem mj_len {i d : Nat} (hi : i < 12) : mj_Met l rho n0 D tys sg h (d + 1) mj_y2 prog_17_method_54_code 1 (some .int) [.ref (sg (i + 1))] (some (Int32.ofNat (mx_tl.getD i 0))) := by
  refine mj_of (by decide +kernel) (by simp [Value.category]) ?_
  intro p e R s m below meth c H locs sl ws F hr hlk hlv I
  obtain ⟨hx, hb, hml, hown, hts, hfr, hlo, hWd, hn0, hSc⟩ := id F
  obtain ⟨ws', hP, hD, hS, hM, pre⟩ := id I
  refine lv_aload_n hx hb mj_d2_0 rfl (lv_at hlv 0 rfl) ?_
  refine vk_getf hx hb (hSc.2.1 i hi).2.2.1 hS hown (hts _ (mj_ok 0 rfl)) (fun _ h => h) mj_d2_1 ?_
  refine va_tlen hx hb (hSc.2.1 i hi).2.2.2 hS rfl mj_d2_4 ?_
  refine lv_aload_n hx hb mj_d2_5 rfl (lv_at hlv 0 rfl) ?_
  refine mj_callV (As := []) (o := some 0) F (mj_coder hi) (mj_ok 7 rfl) (mj_ok 8 rfl) (mj_ok 5 rfl) (mj_ok 6 rfl) (mj_ok 4 rfl) mj_h1 (by decide) (mj_rv hSc hi hS) I hlv.1 (by simp [Value.category]) mj_d2_6 ⟨Nat.zero_le _, Nat.zero_le _⟩ (fun H1 locs1 I1 => ?_)
  refine lv_ishr hx hb mj_d2_9 ?_
  rw [mj_shr i hi]
  exact mj_ret F hr hlk rfl I1 mj_d2_10
theorem mj_chkP {d : Nat} {k n : Int32} {fv : Value} (hf : fv.category = 1) (h0 : ¬ k < 0) (hn : k < n) : mj_Met l rho n0 D tys sg h d mj_y4 prog_23_method_11_code 3 (some .int) [.int k, .int n, fv] (some k) := by
  refine mj_of (by decide +kernel) (by show 1 + (1 + (fv.category + 0)) ≤ 3; omega) ?_
  intro p e R s m below meth c H locs sl ws F hr hlk hlv I
  obtain ⟨hx, hb, hml, hown, hts, hfr, hlo, hWd, hn0, hSc⟩ := id F
  refine lv_iload_n hx hb mj_d4_0 rfl (lv_at hlv 0 rfl) ?_
  refine lv_if_lt hx hb (tgt := 9) mj_d4_1 (by decide) (fun h => absurd h h0) (fun _ => ?_)
  refine lv_iload_n hx hb mj_d4_4 rfl (lv_at hlv 0 rfl) ?_
  refine lv_iload_n hx hb mj_d4_5 rfl (lv_at hlv 1 rfl) ?_
  refine lv_icmp_lt hx hb (tgt := 16) mj_d4_6 (by decide) (fun _ => ?_) (fun h => absurd hn h)
  refine lv_iload_n hx hb mj_d4_16 rfl (lv_at hlv 0 rfl) ?_
  exact mj_ret F hr hlk rfl I mj_d4_17
theorem mj_chk {d : Nat} {k n : Int32} (h0 : ¬ k < 0) (hn : k < n) : mj_Met l rho n0 D tys sg h (d + 1) mj_y5 prog_17_method_155_code 2 none [.int k, .int n] none := by
  refine mj_of (by decide +kernel) (by simp [Value.category]) ?_
  intro p e R s m below meth c H locs sl ws F hr hlk hlv I
  obtain ⟨hx, hb, hml, hown, hts, hfr, hlo, hWd, hn0, hSc⟩ := id F
  obtain ⟨ws', hP, hD, hS, hM, pre⟩ := id I
  refine lv_iload_n hx hb mj_d5_0 rfl (lv_at hlv 0 rfl) ?_
  refine lv_iload_n hx hb mj_d5_1 rfl (lv_at hlv 1 rfl) ?_
  have rest : ∀ fv : Value, fv.category = 1 → W p l e R s m ([.int k, .int n] : List Value).toArray below meth c H locs 0 0 (MQ below (mx_Qc mz_P n0 D tys sg rho ws h ((none : Option Int32).map Value.int)) ([.int k, .int n] : List Value).toArray s 0 0 (fun q => n0 ≤ q)) (F0 m 5 sl [fv, .int n, .int k]) := by
    intro fv hf
    refine mj_callS (As := [.int k, .int n, fv]) (rr := []) (o := some k) F (mj_chkP hf h0 hn) (mj_ok 23 rfl) (mj_ok 22 rfl) (mj_ok 21 rfl) (mj_ok 20 rfl) mj_h4 (by decide) I hlv.1 (by simp) mj_d5_5 ⟨Nat.zero_le _, Nat.zero_le _⟩ (fun H1 locs1 I1 => ?_)
    refine lv_pop hx hb mj_d5_8 rfl ?_
    exact mj_vret F hr hlk I1 mj_d5_9
  rcases hSc.2.2.2.1 with q | ⟨t, q⟩
  · exact va_gets hx hb q hS hown (hts _ (mj_ok 3 rfl)) (fun _ h => h) mj_d5_2 (rest _ rfl)
  · exact va_gets hx hb q hS hown (hts _ (mj_ok 3 rfl)) (fun _ h => h) mj_d5_2 (rest _ rfl)
/-- the char -/
def mj_ch (i k : Nat) : Int32 := ((((mx_tb.getD i []).getD k 0) &&& 255).toUInt32 % 65536).toInt32
theorem mj_nar : ∀ i : Nat, i < 12 → ∀ k : Nat, k < 6 → narrow .char (.int (mj_ch i k)) = .int (mj_ch i k) := by decide +kernel
theorem mj_six : ∀ i : Nat, i < 12 → mx_tl.getD i 0 ≤ 6 := by decide
theorem mj_ix {k n : Nat} (hk : k < n) (hn : n ≤ 6) : ¬ Int32.ofNat k < 0 ∧ Int32.ofNat k < Int32.ofNat n ∧ vp_in (Int32.ofNat k) n ∧ (Int32.ofNat k).toNatClampNeg = k := by
  have e1 : (Int32.ofNat k).toInt = (k : Int) := Int32.toInt_ofNat_of_lt (by omega)
  have e2 : (Int32.ofNat n).toInt = (n : Int) := Int32.toInt_ofNat_of_lt (by omega)
  have e3 : (Int32.ofNat k).toNatClampNeg = k := by
    show (Int32.ofNat k).toInt.toNat = k
    rw [e1]; rfl
  have e0 : ¬ Int32.ofNat k < 0 := by
    rw [Int32.lt_iff_toInt_lt, e1]
    show ¬ (k : Int) < 0
    omega
  refine ⟨e0, ?_, ?_, e3⟩
  · rw [Int32.lt_iff_toInt_lt, e1, e2]
    omega
  · rintro (q | q)
    · exact e0 q
    · omega
theorem mj_chL {i k d : Nat} (hi : i < 12) (hk : k < mx_tl.getD i 0) : mj_Met l rho n0 D tys sg h (d + 2) mj_y6 prog_18_method_2_code 2 (some .char) [.ref (sg (i + 14)), .int (Int32.ofNat k)] (some (mj_ch i k)) := by
  obtain ⟨k0, k1, k2, k3⟩ := mj_ix hk (mj_six i hi)
  have k6 := mj_six i hi
  refine mj_of (by decide +kernel) (by simp [Value.category]) ?_
  intro p e R s m below meth c H locs sl ws F hr hlk hlv I
  obtain ⟨hx, hb, hml, hown, hts, hfr, hlo, hWd, hn0, hSc⟩ := id F
  obtain ⟨ws', hP, hD, hS, hM, pre⟩ := id I
  refine lv_iload_n hx hb mj_d6_0 rfl (lv_at hlv 1 rfl) ?_
  refine lv_aload_n hx hb mj_d6_1 rfl (lv_at hlv 0 rfl) ?_
  refine va_tlen hx hb (hSc.2.1 i hi).2.2.2 hS rfl mj_d6_2 ?_
  refine mj_callS (As := [.int (Int32.ofNat k), .int (Int32.ofNat (mx_tl.getD i 0))]) (rr := []) (o := none) F (mj_chk k0 k1) (mj_ok 19 rfl) (mj_ok 8 rfl) (mj_ok 18 rfl) (mj_ok 17 rfl) mj_h5 (by decide) I hlv.1 (by simp) mj_d6_3 ⟨Nat.zero_le _, Nat.zero_le _⟩ (fun H1 locs1 I1 => ?_)
  obtain ⟨ws1, hP1, hD1, hS1, hM1, pre1⟩ := id I1
  refine lv_aload_n hx hb mj_d6_6 rfl (lv_at hlv 0 rfl) ?_
  refine lv_iload_n hx hb mj_d6_7 rfl (lv_at hlv 1 rfl) ?_
  refine va_tb hx hb (hSc.2.1 i hi).2.2.2 hS1 k2 (v := .int ((mx_tb.getD i []).getD k 0)) (by show Value.int _ = Value.int _; rw [k3]) mj_d6_8 ?_
  refine lv_sipush hx hb mj_d6_9 (v := 255) (by decide) ?_
  refine lv_iand hx hb mj_d6_12 ?_
  refine lv_i2c hx hb mj_d6_13 (v := mj_ch i k) rfl ?_
  exact mj_ret F hr hlk (mj_nar i hi k (by omega)) I1 mj_d6_14
theorem mj_chS {i k d : Nat} (hi : i < 12) (hk : k < mx_tl.getD i 0) : mj_Met l rho n0 D tys sg h (d + 3) mj_y7 prog_17_method_56_code 2 (some .char) [.ref (sg (i + 1)), .int (Int32.ofNat k)] (some (mj_ch i k)) := by
  have k6 := mj_six i hi
  refine mj_of (by decide +kernel) (by simp [Value.category]) ?_
  intro p e R s m below meth c H locs sl ws F hr hlk hlv I
  obtain ⟨hx, hb, hml, hown, hts, hfr, hlo, hWd, hn0, hSc⟩ := id F
  obtain ⟨ws', hP, hD, hS, hM, pre⟩ := id I
  refine lv_aload_n hx hb mj_d7_0 rfl (lv_at hlv 0 rfl) ?_
  refine mj_callV (As := []) (rr := []) (o := some 1) F (mj_latin hi) (mj_ok 12 rfl) (mj_ok 8 rfl) (mj_ok 10 rfl) (mj_ok 11 rfl) (mj_ok 9 rfl) mj_h3 (by decide) (mj_rv hSc hi hS) I hlv.1 (by simp) mj_d7_1 ⟨Nat.zero_le _, Nat.zero_le _⟩ (fun H1 locs1 I1 => ?_)
  obtain ⟨ws1, hP1, hD1, hS1, hM1, pre1⟩ := id I1
  refine lv_if_eq hx hb (tgt := 16) mj_d7_4 (by decide) (fun h => absurd h (by decide)) (fun _ => ?_)
  refine lv_aload_n hx hb mj_d7_7 rfl (lv_at hlv 0 rfl) ?_
  refine vk_getf hx hb (hSc.2.1 i hi).2.2.1 hS1 hown (hts _ (mj_ok 0 rfl)) (fun _ h => h) mj_d7_8 ?_
  refine lv_iload_n hx hb mj_d7_11 rfl (lv_at hlv 1 rfl) ?_
  refine mj_callS (As := [.ref (sg (i + 14)), .int (Int32.ofNat k)]) (rr := []) (o := some (mj_ch i k)) F (mj_chL hi hk) (mj_ok 16 rfl) (mj_ok 15 rfl) (mj_ok 14 rfl) (mj_ok 13 rfl) mj_h6 (by decide) I1 hlv.1 (by simp) mj_d7_12 ⟨Nat.zero_le _, Nat.zero_le _⟩ (fun H2 locs2 I2 => ?_)
  exact mj_ret F hr hlk (mj_nar i hi k (by omega)) I2 mj_d7_15
end
end MJS
section MJT
variable {l : Launch} {rho : Nat → Int32} {d m pc : Nat} {ls : List my_V} {r : List my_V} {h : my_H} {Q : my_H → my_V → Prop} {a b w : Nat}
/-- a call on a text, in the machine's words -/
theorem mj_okV {y : MethodName} {cy : ByteArray} {ny idx k : Nat} {ry : Option FieldType} {As : List Value} {x : Int32} {L : mx_L} {H : mx_H} {st : List Value} {pc2 : Nat} {ls2 : mx_L} {st2 : List Value} {h2 : mx_H} (hk1 : k < 12) (hm : ∀ (n0 : Nat) (D : va_G) (tys : List (ClassId × FieldType)) (sg : Nat → Nat), mj_Met l rho n0 D tys sg H d y cy ny ry (.ref (sg (k + 1)) :: As) (some x)) (hcl : y.cls = "java/lang/String") (w1 : Cond.code y cy ny ry ∈ mz_tb) (w2 : Cond.initialized y.cls ∈ mz_tb) (w3 : Cond.instanceMethod y ∈ mz_tb) (w5 : Cond.selects y.cls y y ∈ mz_tb) (w4 : Cond.methodLink (mz_mt m).1.cls idx y ∈ mz_tb)
    (hd : y.cls ≠ "java/lang/invoke/MethodHandle" ∧ y.cls ≠ "java/lang/invoke/VarHandle" ∧ (parseMethodDescriptor y.desc).map (fun d => d.parameters.length) = some As.length) (h40 : ny ≤ 40) (hr8 : (st.map mx_cat).sum ≤ 8) (hdc : decode (mz_mt m).2.1 pc = .ok (.invokevirtual idx, 3)) (hAs : ∀ v ∈ As, ∃ z : Int32, v = .int z)
    (kk : mx_Ok l mz_P mz_G mz_tb rho (d + 1) m (pc + 3) L (.int x :: st) H pc2 ls2 st2 h2 0 0) : mx_Ok l mz_P mz_G mz_tb rho (d + 1) m pc L (As.reverse ++ .float (UInt32.ofNat (k + 1)) :: st) H pc2 ls2 st2 h2 0 0 := by
  intro p e R s mm args below meth c H' locs cells slots Q sl stk ws n0 D tys sg hFr hI hc hs hk
  obtain ⟨hx, hb, hr0, hml, hown, hts, hnm, hlk, hfr, hlo, hWd, hn0, hSc⟩ := id hFr
  obtain ⟨hP, hD, hS, hM, hl, hst⟩ := id hI
  have hspl : ∀ (A1 : List Value) (stk : List Value), (∀ v ∈ A1, ∃ z : Int32, v = .int z) → mx_F2 (mx_R (ws.map Prod.fst) sg rho) (A1 ++ .float (UInt32.ofNat (k + 1)) :: st) stk → ∃ rr, stk = A1 ++ .ref (sg (k + 1)) :: rr ∧ mx_F2 (mx_R (ws.map Prod.fst) sg rho) st rr := by
    intro A1
    induction A1 with
    | nil =>
      intro stk _ hst
      obtain ⟨v1, rr, rfl, hw0, hst0⟩ := mx_F2.c hst
      have e1 : v1 = .ref (sg (UInt32.ofNat (k + 1)).toNat) := hw0
      have e2 : (UInt32.ofNat (k + 1)).toNat = k + 1 := UInt32.toNat_ofNat_of_lt' (by show k + 1 < 4294967296; omega)
      rw [e2] at e1
      subst e1
      exact ⟨rr, rfl, hst0⟩
    | cons q A1 ih =>
      intro stk hA hst
      obtain ⟨v1, rr0, rfl, hw0, hst0⟩ := mx_F2.c hst
      obtain ⟨z, rfl⟩ := hA q (List.mem_cons_self ..)
      have e1 : v1 = .int z := hw0
      subst e1
      obtain ⟨rr, e2, e3⟩ := ih rr0 (fun v hv => hA v (List.mem_cons_of_mem _ hv)) hst0
      subst e2
      exact ⟨rr, rfl, e3⟩
  obtain ⟨rr, rfl, hst1⟩ := hspl As.reverse stk (fun v hv => hAs v (List.mem_reverse.mp hv)) hst
  obtain ⟨lv, hl1, hl2⟩ := id hl
  have F : mj_Fr n0 D tys sg rho p R s mm args c (mz_mt m).2.1 (mz_mt m).2.2.1 (mz_mt m).1.cls (d + 1) := ⟨hx, hb, hml, hown, hts, hfr, hlo, hWd, hn0, hSc⟩
  refine mj_callV (ws := ws) (As := As) (o := some x) F (hm n0 D tys sg) w1 w2 w3 w5 w4 hd h40 (by rw [hcl]; exact mj_rv hSc hk1 hS) ⟨ws, hP, hD, hS, hM, [], by simp⟩ hl1.1 (by rw [mx_F2_cats hst1]; exact hr8) hdc ⟨by omega, by omega⟩ (fun H1 locs1 I1 => ?_)
  obtain ⟨ws1, hP1, hD1, hS1, hM1, be, pre1⟩ := I1
  refine mx_go (nc := 0) (ns := 0) kk hFr (by omega) (by omega) hk ⟨be, pre1⟩ ⟨hP1, hD1, hS1, hM1, ?_, ?_⟩
  · rw [pre1]
    exact ⟨lv, hl1, hl2.imp (fun _ _ r => ⟨r.1, r.2.mono _⟩)⟩
  · refine ⟨rfl, ?_⟩
    rw [pre1]
    exact hst1.imp (fun _ _ r => r.mono _)
theorem mj_in {x : Int} (h1 : -2147483648 ≤ x) (h2 : x ≤ 2147483647) : my_in (0, x) := ⟨h1, h2⟩
theorem mj_oi {j : Nat} (h : j < 1000) : Int32.ofInt (j : Int) = Int32.ofNat j := by
  apply Int32.toInt_inj.mp
  rw [my_toInt (mj_in (by omega) (by omega)), Int32.toInt_ofNat_of_lt (by omega)]
/-- where the calls stand -/
def mj_D (q0 q m pc : Nat) : Prop := m = 41 ∧ q = q0 ∧ decode (mz_mt 41).2.1 pc = .ok (.invokevirtual q0, 3)
/-- how long the texts are -/
def my_sl (k : Int) : Int := if k = 3 then 6 else if k = 12 then 2 else if k = 10 then 2 else if k = 5 then 3 else if k = 6 then 3 else if k = 8 then 3 else 4
theorem my_sl_bd {k : Int} (h : 1 ≤ k ∧ k ≤ 12) : 2 ≤ my_sl k ∧ my_sl k ≤ 6 := by
  unfold my_sl
  repeat' split
  all_goals omega
theorem mj_sl : ∀ i : Nat, i < 12 → my_sl ((i : Int) + 1) = (mx_tl.getD i 0 : Nat) := by decide
theorem w_slen {q : Nat} {k : Int} (hd : mj_D 177 q m pc) (hk : 1 ≤ k ∧ k ≤ 12) (kk : wp l rho (d + 2) m (pc + 3) ls ((0, my_sl k) :: r) h Q) (hr8 : Nat.ble (r.map my_cat).sum 8 = true := by rfl) : wp l rho (d + 2) m pc ls ((3, k) :: r) h Q := by
  intro hls hst L H hL hH
  obtain ⟨rfl, rfl, hdc⟩ := hd
  have hb := my_sl_bd hk
  obtain ⟨i, rfl, hi⟩ : ∃ i : Nat, k = (i : Int) + 1 ∧ i < 12 := ⟨(k - 1).toNat, by omega, by omega⟩
  obtain ⟨pc', L', st', H', h', ii, v, hOk, rest⟩ := kk hls (my_all.p (mj_in (by omega) (by omega)) hst.c.2) L H hL hH
  refine ⟨pc', L', st', H', h', ii, v, ?_, rest⟩
  have e1 : my_val (3, (i : Int) + 1) = .float (UInt32.ofNat (i + 1)) := by
    show Value.float (UInt32.ofNat ((i : Int) + 1).toNat) = _
    rw [show ((i : Int) + 1).toNat = i + 1 by omega]
  have e2 : my_val (0, my_sl ((i : Int) + 1)) = .int (Int32.ofNat (mx_tl.getD i 0)) := by
    rw [mj_sl i hi]
    show Value.int (Int32.ofInt ((mx_tl.getD i 0 : Nat) : Int)) = _
    have := mj_six i hi
    rw [mj_oi (by omega)]
  rw [List.map_cons, e1]
  rw [List.map_cons, e2] at hOk
  refine mj_okV (As := []) (idx := 177) hi (fun n0 D tys sg => mj_len hi) rfl (mj_ok 27 rfl) (mj_ok 8 rfl) (mj_ok 25 rfl) (mj_ok 26 rfl) (mj_ok 24 rfl) mj_h2 (by decide) ?_ hdc (fun v hv => by cases hv) hOk
  rw [my_cats]
  exact Nat.le_of_ble_eq_true hr8
theorem w_schr {q : Nat} {k i : Int} (hd : mj_D 181 q m pc) (hk : 1 ≤ k ∧ k ≤ 12) (h0 : 0 ≤ i) (hn : i < my_sl k) (kk : ∀ z : Int, -2147483648 ≤ z → z ≤ 2147483647 → wp l rho (d + 4) m (pc + 3) ls ((0, z) :: r) h Q) (hr8 : Nat.ble (r.map my_cat).sum 8 = true := by rfl) : wp l rho (d + 4) m pc ls ((0, i) :: (3, k) :: r) h Q := by
  intro hls hst L H hL hH
  obtain ⟨rfl, rfl, hdc⟩ := hd
  have hb := my_sl_bd hk
  obtain ⟨t, rfl, ht⟩ : ∃ t : Nat, k = (t : Int) + 1 ∧ t < 12 := ⟨(k - 1).toNat, by omega, by omega⟩
  obtain ⟨j, rfl⟩ : ∃ j : Nat, i = (j : Int) := ⟨i.toNat, by omega⟩
  rw [mj_sl t ht] at hn
  have hz := my_fullI (mj_ch t j)
  obtain ⟨pc', L', st', H', h', ii, v, hOk, rest⟩ := kk (mj_ch t j).toInt hz.1 hz.2 hls (my_all.p hz hst.c.2.c.2) L H hL hH
  refine ⟨pc', L', st', H', h', ii, v, ?_, rest⟩
  have e1 : my_val (3, (t : Int) + 1) = .float (UInt32.ofNat (t + 1)) := by
    show Value.float (UInt32.ofNat ((t : Int) + 1).toNat) = _
    rw [show ((t : Int) + 1).toNat = t + 1 by omega]
  have e2 : my_val (0, (mj_ch t j).toInt) = .int (mj_ch t j) := by
    show Value.int (Int32.ofInt (mj_ch t j).toInt) = _
    rw [Int32.ofInt_toInt]
  have h6 := mj_six t ht
  have e3 : my_val (0, (j : Int)) = .int (Int32.ofNat j) := by
    show Value.int (Int32.ofInt (j : Int)) = _
    rw [mj_oi (by omega)]
  rw [List.map_cons, List.map_cons, e1, e3]
  rw [List.map_cons, e2] at hOk
  refine mj_okV (As := [.int (Int32.ofNat j)]) (idx := 181) ht (fun n0 D tys sg => mj_chS ht (by omega)) rfl (mj_ok 31 rfl) (mj_ok 8 rfl) (mj_ok 29 rfl) (mj_ok 30 rfl) (mj_ok 28 rfl) mj_h7 (by decide) ?_ hdc (fun v hv => ⟨_, List.mem_singleton.mp hv⟩) hOk
  rw [my_cats]
  exact Nat.le_of_ble_eq_true hr8
theorem sdec_18 : mj_D 177 177 41 18 := ⟨rfl, rfl, by decide +kernel⟩
theorem sdec_30 : mj_D 177 177 41 30 := ⟨rfl, rfl, by decide +kernel⟩
theorem sdec_49 : mj_D 181 181 41 49 := ⟨rfl, rfl, by decide +kernel⟩
/-- the table of orders -/
theorem mj_gs : decode (mz_mt 130).2.1 4 = .ok (.getstatic 47, 3) := by decide +kernel
theorem w_gsO (kk : wp l rho d 130 7 ls ((3, 13) :: r) h Q) : wp l rho d 130 4 ls r h Q := by
  intro hls hst L H hL hH
  obtain ⟨pc', L', st', H', h', ii, v, hOk, rest⟩ := kk hls (my_all.p (v := (3, 13)) (by show (0 : Int) ≤ 13; decide) hst) L H hL hH
  refine ⟨pc', L', st', H', h', ii, v, ?_, rest⟩
  intro p e R s mm args below meth c H' locs cells slots Q sl stk ws n0 D tys sg hFr hI hc hs hk
  obtain ⟨hx, hb, hr0, hml, hown, hts, hnm, hlk, hfr, hlo, hWd, hn0, hSc⟩ := id hFr
  obtain ⟨hP, hD, hS, hM, hl, hst⟩ := id hI
  exact va_gets hx hb hSc.2.2.2.2.1 hS hown (hts _ (mj_ok 32 rfl)) (fun _ h => h) mj_gs (hOk p e R s mm args below meth c H' locs cells slots Q sl _ ws n0 D tys sg hFr ⟨hP, hD, hS, hM, hl, rfl, hst⟩ hc hs hk)
theorem mj_od : ∀ j : Nat, j < 18 → 0 ≤ (mx_od.getD j 0).toInt ∧ (mx_od.getD j 0).toInt ≤ 2 := by decide
theorem w_iaO {i : Int} (hpg : mz_pg m pc = some (.iaload, a, b, w)) (h0 : 0 ≤ i) (hn : i < 18) (kk : ∀ z : Int, 0 ≤ z → z ≤ 2 → wp l rho d m (pc + 1) ls ((0, z) :: r) h Q) : wp l rho d m pc ls ((0, i) :: (3, 13) :: r) h Q := by
  intro hls hst L H hL hH
  obtain ⟨z0, z1⟩ := mj_od i.toNat (by omega)
  obtain ⟨j1, j2, j3⟩ := mx_idx_spec (my_idx (n := 18) hst.c.1 h0 (by omega))
  obtain ⟨pc', L', st', H', h', ii, v, hOk, rest⟩ := kk (mx_od.getD i.toNat 0).toInt z0 z1 hls (my_all.p (my_fullI _) hst.c.2.c.2) L H hL hH
  refine ⟨pc', L', st', H', h', ii, v, ?_, rest⟩
  obtain ⟨hdc, -, -⟩ := mz_hPg m pc _ hpg
  intro p e R s mm args below meth c H' locs cells slots Q sl stk ws n0 D tys sg hFr hI hc hs hk
  obtain ⟨hx, hb, hr0, hml, hown, hts, hnm, hlk, hfr, hlo, hWd, hn0, hSc⟩ := id hFr
  obtain ⟨hP, hD, hS, hM, hl, hst⟩ := id hI
  have hst2 : mx_F2 (mx_R (ws.map Prod.fst) sg rho) (my_val (0, i) :: my_val (3, 13) :: r.map my_val) stk := hst
  obtain ⟨v1, rr0, rfl, hw0, hst0⟩ := hst2.c
  obtain ⟨v2, rr, rfl, hw2, hst1⟩ := hst0.c
  have e1 : v1 = .int (Int32.ofInt i) := hw0
  have e2 : v2 = .ref (sg 13) := hw2
  subst e1; subst e2
  refine va_ti hx hb hSc.2.2.2.2.2 hS (i := Int32.ofInt i) j1 (v := .int (mx_od.getD i.toNat 0)) (by show Value.int _ = Value.int _; rw [j2]) (hdc.of rfl) (hOk p e R s mm args below meth c H' locs cells slots Q sl _ ws n0 D tys sg hFr ⟨hP, hD, hS, hM, hl, ?_, hst1⟩ hc hs hk)
  show Value.int _ = Value.int (Int32.ofInt (mx_od.getD i.toNat 0).toInt)
  rw [Int32.ofInt_toInt]
end MJT
