/-! the tables are what the claim's own tables say -/
section MZB
noncomputable def mz_w (k : Nat) (w : Cond) : Bool := match mz_tb[k]? with
  | some x => decide (x = w)
  | none => false
theorem mz_w_spec {k : Nat} {w : Cond} (h : mz_w k w = true) : w ∈ mz_tb := by
  unfold mz_w at h
  split at h
  next x hx => rw [← of_decide_eq_true h]; exact List.mem_of_getElem? hx
  next => cases h
theorem mz_good : ∀ w ∈ mz_tb, goodWord w = true := fun w hw => (List.mem_filter.mp hw).2
theorem mz_sub : ∀ w ∈ mz_tb, w ∈ lw_tbl := fun w hw => (List.mem_filter.mp hw).1
noncomputable def mz_okM (b : Nat) : Bool :=
  mz_w (mz_mw b).1 (.code (mz_mt b).1 (mz_mt b).2.1 (mz_mt b).2.2.1 (mz_mt b).2.2.2.1) && mz_w (mz_mw b).2.1 (.initialized (mz_mt b).1.cls) && plainName (mz_mt b).1.cls && !decide ((mz_mt b).1.cls = "java/lang/invoke/MethodHandle") && !decide ((mz_mt b).1.cls = "java/lang/invoke/VarHandle") && decide ((parseMethodDescriptor (mz_mt b).1.desc).map (fun d => d.parameters.length) = some (mz_mt b).2.2.2.2.1) && decide ((mz_mt b).2.2.1 ≤ 40) &&
  (match (mz_mw b).2.2.2.2 with
    | 0 => mz_w (mz_mw b).2.2.1 (.static (mz_mt b).1)
    | 1 => mz_w (mz_mw b).2.2.1 (.instanceMethod (mz_mt b).1) && mz_w (mz_mw b).2.2.2.1 (.selects (mz_mt b).1.cls (mz_mt b).1 (mz_mt b).1) && (match mz_cl[(mz_mt b).2.2.2.2.2]? with
      | some q => decide (q.1 = (mz_mt b).1.cls)
      | none => false)
    | _ => mz_w (mz_mw b).2.2.1 (.instanceMethod (mz_mt b).1) && decide ((mz_mt b).1.name = "<init>") && decide ((mz_mt b).2.2.2.1 = none) && (match mz_cl[(mz_mt b).2.2.2.2.2]? with
      | some q => decide (q.1 = (mz_mt b).1.cls)
      | none => false))
noncomputable def mz_lk (m : Nat) (ins : Instr) (a b w : Nat) : Bool := match ins with
  | .getfield idx => (match mz_cl[a]? with
    | some q => decide (b < q.2.2) && mz_w w (.fieldLink (mz_mt m).1.cls idx (q.2.1 b).1 (q.2.1 b).2.1 (q.2.1 b).2.2.1)
    | none => false)
  | .putfield idx => (match mz_cl[a]? with
    | some q => decide (b < q.2.2) && mz_w w (.fieldLink (mz_mt m).1.cls idx (q.2.1 b).1 (q.2.1 b).2.1 (q.2.1 b).2.2.1) && (!(q.2.1 b).2.2.2 || (decide ((mz_mt m).1.name = "<init>") && decide ((q.2.1 b).1 = (mz_mt m).1.cls)))
    | none => false)
  | .new idx => (match mz_cl[a]? with
    | some q => mz_w w (.classLink (mz_mt m).1.cls idx q.1) && mz_w (mz_cw a).1 (.instantiable q.1 q.2.2) && mz_w (mz_cw a).2 (.initialized q.1)
    | none => false)
  | .newarray ty => decide (mz_TY[a]? = some (newarray.typeOf ty)) && mz_w w (.arrayClass (newarray.typeOf ty)) && (decide (ty = .int) || decide (ty = .boolean) || decide (ty = .long) || decide (ty = .byte))
  | .anewarray idx => (match mz_TY[a]? with
    | some (.object C) => mz_w w (.classLink (mz_mt m).1.cls idx C) && decide (C ∈ mz_ao)
    | _ => false)
  | .ldc idx => if b = 0 then mz_w w (.constant (mz_mt m).1.cls idx (Int32.ofNat a)) else decide (a < 4294967296) && (match a with
    | 0 => false
    | k + 1 => (match mz_qs[k]? with
      | some q => decide (q.1 = (mz_mt m).1.cls) && decide (q.2.1 = idx)
      | none => false))
  | .ldc2_w idx => mz_w w (.constantLong (mz_mt m).1.cls idx (Int64.ofNat a))
  | .invokespecial idx => if a = 0 then mz_w w (.methodLink (mz_mt m).1.cls idx objectInit) else true
  | .invokestatic idx => if a = 0 then mz_w w (.methodLink (mz_mt m).1.cls idx arraycopyName) else true
  | _ => true
noncomputable def mz_ln (m idx a b w : Nat) : Bool := decide (0 < b) && decide (b < 251) && (if a = 1 then mz_w w (.methodLink (mz_mt m).1.cls idx (mz_mt b).1) else (match mz_nw[w]? with
  | some q => decide (q.1 = (mz_mt m).1.cls) && decide (q.2.1 = idx) && decide (q.2.2.1 = (mz_mt b).1)
  | none => false))
noncomputable def mz_lc (m : Nat) (ins : Instr) (a b w : Nat) : Bool := match ins with
  | .invokevirtual idx => decide ((mz_mw b).2.2.2.2 = 1) && mz_ln m idx a b w
  | .invokespecial idx => if a = 0 then true else decide ((mz_mw b).2.2.2.2 = 2) && mz_ln m idx a b w
  | .invokestatic idx => if a = 0 then true else decide ((mz_mw b).2.2.2.2 = 0) && mz_ln m idx a b w
  | _ => true
noncomputable def mz_dc (m pc : Nat) (ins : Instr) : Bool := match decode (mz_mt m).2.1 pc with
  | .ok (j, len) => decide (j = ins) && (mx_sw ins || decide (len = mx_len ins))
  | .error _ => false
noncomputable def mz_at (m pc : Nat) : Bool := match mz_pm m pc with
  | none => true
  | some i => mz_dc m pc i.1 && mz_lk m i.1 i.2.1 i.2.2.1 i.2.2.2 && mz_lc m i.1 i.2.1 i.2.2.1 i.2.2.2
noncomputable def mz_ok (m : Nat) : Bool := (List.range (mz_N m)).all (fun pc => mz_at m pc)
theorem mz_i0 : ∀ w ∈ u_ws "ThroughWindow$Clerks" mz_T0 10, w ∈ mz_tb := by
  have h : u_ws "ThroughWindow$Clerks" mz_T0 10 = ([507, 509, 511, 513, 515, 517, 519, 521, 523, 525] : List Nat).filterMap (fun i => mz_tb[i]?) := by decide +kernel
  intro w hw
  rw [h] at hw
  obtain ⟨i, -, hi⟩ := List.mem_filterMap.mp hw
  exact List.mem_of_getElem? hi
theorem mz_f0 : ∀ k, k < 10 → parseFieldDescriptor (mz_T0 k).2.2.1 = some (mz_ft 0 k) := by decide +kernel
theorem mz_n0 : ∀ a, a < 10 → ∀ b, b < 10 → a ≠ b → (mz_T0 a).2.1 ≠ (mz_T0 b).2.1 := by decide +kernel
theorem mz_d0 : ∀ j, j < 10 → defaultValue (mz_ft 0 j) = vp_V (mz_fd 0) j := by decide +kernel
theorem mz_s0 : ∀ v ∈ mz_fd 0, mx_simple v = true := by decide +kernel
theorem mz_i1 : ∀ w ∈ u_ws "ThroughWindow$Cutter" mz_T1 7, w ∈ mz_tb := by
  have h : u_ws "ThroughWindow$Cutter" mz_T1 7 = ([466, 468, 470, 472, 474, 476, 478] : List Nat).filterMap (fun i => mz_tb[i]?) := by decide +kernel
  intro w hw
  rw [h] at hw
  obtain ⟨i, -, hi⟩ := List.mem_filterMap.mp hw
  exact List.mem_of_getElem? hi
theorem mz_f1 : ∀ k, k < 7 → parseFieldDescriptor (mz_T1 k).2.2.1 = some (mz_ft 1 k) := by decide +kernel
theorem mz_n1 : ∀ a, a < 7 → ∀ b, b < 7 → a ≠ b → (mz_T1 a).2.1 ≠ (mz_T1 b).2.1 := by decide +kernel
theorem mz_d1 : ∀ j, j < 7 → defaultValue (mz_ft 1 j) = vp_V (mz_fd 1) j := by decide +kernel
theorem mz_s1 : ∀ v ∈ mz_fd 1, mx_simple v = true := by decide +kernel
theorem mz_i2 : ∀ w ∈ u_ws "ThroughWindow$Desk" mz_T2 17, w ∈ mz_tb := by
  have h : u_ws "ThroughWindow$Desk" mz_T2 17 = ([413, 415, 417, 419, 421, 423, 425, 427, 429, 431, 433, 435, 437, 439, 441, 443, 445] : List Nat).filterMap (fun i => mz_tb[i]?) := by decide +kernel
  intro w hw
  rw [h] at hw
  obtain ⟨i, -, hi⟩ := List.mem_filterMap.mp hw
  exact List.mem_of_getElem? hi
theorem mz_f2 : ∀ k, k < 17 → parseFieldDescriptor (mz_T2 k).2.2.1 = some (mz_ft 2 k) := by decide +kernel
theorem mz_n2 : ∀ a, a < 17 → ∀ b, b < 17 → a ≠ b → (mz_T2 a).2.1 ≠ (mz_T2 b).2.1 := by decide +kernel
theorem mz_d2 : ∀ j, j < 17 → defaultValue (mz_ft 2 j) = vp_V (mz_fd 2) j := by decide +kernel
theorem mz_s2 : ∀ v ∈ mz_fd 2, mx_simple v = true := by decide +kernel
theorem mz_i3 : ∀ w ∈ u_ws "ThroughWindow$Laws" mz_T3 5, w ∈ mz_tb := by
  have h : u_ws "ThroughWindow$Laws" mz_T3 5 = ([157, 159, 161, 163, 165] : List Nat).filterMap (fun i => mz_tb[i]?) := by decide +kernel
  intro w hw
  rw [h] at hw
  obtain ⟨i, -, hi⟩ := List.mem_filterMap.mp hw
  exact List.mem_of_getElem? hi
theorem mz_f3 : ∀ k, k < 5 → parseFieldDescriptor (mz_T3 k).2.2.1 = some (mz_ft 3 k) := by decide +kernel
theorem mz_n3 : ∀ a, a < 5 → ∀ b, b < 5 → a ≠ b → (mz_T3 a).2.1 ≠ (mz_T3 b).2.1 := by decide +kernel
theorem mz_d3 : ∀ j, j < 5 → defaultValue (mz_ft 3 j) = vp_V (mz_fd 3) j := by decide +kernel
theorem mz_s3 : ∀ v ∈ mz_fd 3, mx_simple v = true := by decide +kernel
theorem mz_i4 : ∀ w ∈ u_ws "ThroughWindow$Lens" mz_T4 18, w ∈ mz_tb := by
  have h : u_ws "ThroughWindow$Lens" mz_T4 18 = ([237, 239, 241, 243, 245, 247, 249, 251, 253, 255, 257, 259, 261, 263, 265, 267, 269, 271] : List Nat).filterMap (fun i => mz_tb[i]?) := by decide +kernel
  intro w hw
  rw [h] at hw
  obtain ⟨i, -, hi⟩ := List.mem_filterMap.mp hw
  exact List.mem_of_getElem? hi
theorem mz_f4 : ∀ k, k < 18 → parseFieldDescriptor (mz_T4 k).2.2.1 = some (mz_ft 4 k) := by decide +kernel
theorem mz_n4 : ∀ a, a < 18 → ∀ b, b < 18 → a ≠ b → (mz_T4 a).2.1 ≠ (mz_T4 b).2.1 := by decide +kernel
theorem mz_d4 : ∀ j, j < 18 → defaultValue (mz_ft 4 j) = vp_V (mz_fd 4) j := by decide +kernel
theorem mz_s4 : ∀ v ∈ mz_fd 4, mx_simple v = true := by decide +kernel
theorem mz_i5 : ∀ w ∈ u_ws "ThroughWindow$Reader" mz_T5 10, w ∈ mz_tb := by
  have h : u_ws "ThroughWindow$Reader" mz_T5 10 = ([292, 294, 296, 298, 300, 302, 304, 306, 308, 310] : List Nat).filterMap (fun i => mz_tb[i]?) := by decide +kernel
  intro w hw
  rw [h] at hw
  obtain ⟨i, -, hi⟩ := List.mem_filterMap.mp hw
  exact List.mem_of_getElem? hi
theorem mz_f5 : ∀ k, k < 10 → parseFieldDescriptor (mz_T5 k).2.2.1 = some (mz_ft 5 k) := by decide +kernel
theorem mz_n5 : ∀ a, a < 10 → ∀ b, b < 10 → a ≠ b → (mz_T5 a).2.1 ≠ (mz_T5 b).2.1 := by decide +kernel
theorem mz_d5 : ∀ j, j < 10 → defaultValue (mz_ft 5 j) = vp_V (mz_fd 5) j := by decide +kernel
theorem mz_s5 : ∀ v ∈ mz_fd 5, mx_simple v = true := by decide +kernel
theorem mz_i6 : ∀ w ∈ u_ws "ThroughWindow$Rows" mz_T6 2, w ∈ mz_tb := by
  have h : u_ws "ThroughWindow$Rows" mz_T6 2 = ([185, 187] : List Nat).filterMap (fun i => mz_tb[i]?) := by decide +kernel
  intro w hw
  rw [h] at hw
  obtain ⟨i, -, hi⟩ := List.mem_filterMap.mp hw
  exact List.mem_of_getElem? hi
theorem mz_f6 : ∀ k, k < 2 → parseFieldDescriptor (mz_T6 k).2.2.1 = some (mz_ft 6 k) := by decide +kernel
theorem mz_n6 : ∀ a, a < 2 → ∀ b, b < 2 → a ≠ b → (mz_T6 a).2.1 ≠ (mz_T6 b).2.1 := by decide +kernel
theorem mz_d6 : ∀ j, j < 2 → defaultValue (mz_ft 6 j) = vp_V (mz_fd 6) j := by decide +kernel
theorem mz_s6 : ∀ v ∈ mz_fd 6, mx_simple v = true := by decide +kernel
theorem mz_i7 : ∀ w ∈ u_ws "ThroughWindow$Step" mz_T7 6, w ∈ mz_tb := by
  have h : u_ws "ThroughWindow$Step" mz_T7 6 = ([377, 379, 381, 383, 385, 387] : List Nat).filterMap (fun i => mz_tb[i]?) := by decide +kernel
  intro w hw
  rw [h] at hw
  obtain ⟨i, -, hi⟩ := List.mem_filterMap.mp hw
  exact List.mem_of_getElem? hi
theorem mz_f7 : ∀ k, k < 6 → parseFieldDescriptor (mz_T7 k).2.2.1 = some (mz_ft 7 k) := by decide +kernel
theorem mz_n7 : ∀ a, a < 6 → ∀ b, b < 6 → a ≠ b → (mz_T7 a).2.1 ≠ (mz_T7 b).2.1 := by decide +kernel
theorem mz_d7 : ∀ j, j < 6 → defaultValue (mz_ft 7 j) = vp_V (mz_fd 7) j := by decide +kernel
theorem mz_s7 : ∀ v ∈ mz_fd 7, mx_simple v = true := by decide +kernel
theorem mz_i8 : ∀ w ∈ u_ws "ThroughWindow$View" mz_T8 5, w ∈ mz_tb := by
  have h : u_ws "ThroughWindow$View" mz_T8 5 = ([337, 339, 341, 343, 345] : List Nat).filterMap (fun i => mz_tb[i]?) := by decide +kernel
  intro w hw
  rw [h] at hw
  obtain ⟨i, -, hi⟩ := List.mem_filterMap.mp hw
  exact List.mem_of_getElem? hi
theorem mz_f8 : ∀ k, k < 5 → parseFieldDescriptor (mz_T8 k).2.2.1 = some (mz_ft 8 k) := by decide +kernel
theorem mz_n8 : ∀ a, a < 5 → ∀ b, b < 5 → a ≠ b → (mz_T8 a).2.1 ≠ (mz_T8 b).2.1 := by decide +kernel
theorem mz_d8 : ∀ j, j < 5 → defaultValue (mz_ft 8 j) = vp_V (mz_fd 8) j := by decide +kernel
theorem mz_s8 : ∀ v ∈ mz_fd 8, mx_simple v = true := by decide +kernel
theorem mz_i9 : ∀ w ∈ u_ws "ThroughWindow" mz_T9 15, w ∈ mz_tb := by
  have h : u_ws "ThroughWindow" mz_T9 15 = ([543, 545, 547, 549, 551, 553, 555, 557, 559, 561, 563, 565, 567, 569, 571] : List Nat).filterMap (fun i => mz_tb[i]?) := by decide +kernel
  intro w hw
  rw [h] at hw
  obtain ⟨i, -, hi⟩ := List.mem_filterMap.mp hw
  exact List.mem_of_getElem? hi
theorem mz_f9 : ∀ k, k < 15 → parseFieldDescriptor (mz_T9 k).2.2.1 = some (mz_ft 9 k) := by decide +kernel
theorem mz_n9 : ∀ a, a < 15 → ∀ b, b < 15 → a ≠ b → (mz_T9 a).2.1 ≠ (mz_T9 b).2.1 := by decide +kernel
theorem mz_d9 : ∀ j, j < 15 → defaultValue (mz_ft 9 j) = vp_V (mz_fd 9) j := by decide +kernel
theorem mz_s9 : ∀ v ∈ mz_fd 9, mx_simple v = true := by decide +kernel
theorem mz_i10 : ∀ w ∈ u_ws "ThroughWindowModel" mz_T10 67, w ∈ mz_tb := by
  have h : u_ws "ThroughWindowModel" mz_T10 67 = ([1284, 1286, 1288, 1290, 1292, 1294, 1296, 1298, 1300, 1302, 1304, 1306, 1308, 1310, 1312, 1314, 1316, 1318, 1320, 1322, 1324, 1326, 1328, 1330, 1332, 1334, 1336, 1338, 1340, 1342, 1344, 1346, 1348, 1350, 1352, 1354, 1356, 1358, 1360, 1362, 1364, 1366, 1368, 1370, 1372, 1374, 1376, 1378, 1380, 1382, 1384, 1386, 1388, 1390, 1392, 1394, 1396, 1398, 1400, 1402, 1404, 1406, 1408, 1410, 1412, 1414, 1416] : List Nat).filterMap (fun i => mz_tb[i]?) := by decide +kernel
  intro w hw
  rw [h] at hw
  obtain ⟨i, -, hi⟩ := List.mem_filterMap.mp hw
  exact List.mem_of_getElem? hi
theorem mz_f10 : ∀ k, k < 67 → parseFieldDescriptor (mz_T10 k).2.2.1 = some (mz_ft 10 k) := by decide +kernel
theorem mz_n10 : ∀ a, a < 67 → ∀ b, b < 67 → a ≠ b → (mz_T10 a).2.1 ≠ (mz_T10 b).2.1 := by decide +kernel
theorem mz_d10 : ∀ j, j < 67 → defaultValue (mz_ft 10 j) = vp_V (mz_fd 10) j := by decide +kernel
theorem mz_s10 : ∀ v ∈ mz_fd 10, mx_simple v = true := by decide +kernel
theorem mz_hCl : mx_Cl mz_P mz_tb := by
  intro ci q hq
  match ci, hq with
  | 0, hq => cases hq; exact ⟨mz_i0, mz_f0, mz_n0, mz_d0, mz_s0⟩
  | 1, hq => cases hq; exact ⟨mz_i1, mz_f1, mz_n1, mz_d1, mz_s1⟩
  | 2, hq => cases hq; exact ⟨mz_i2, mz_f2, mz_n2, mz_d2, mz_s2⟩
  | 3, hq => cases hq; exact ⟨mz_i3, mz_f3, mz_n3, mz_d3, mz_s3⟩
  | 4, hq => cases hq; exact ⟨mz_i4, mz_f4, mz_n4, mz_d4, mz_s4⟩
  | 5, hq => cases hq; exact ⟨mz_i5, mz_f5, mz_n5, mz_d5, mz_s5⟩
  | 6, hq => cases hq; exact ⟨mz_i6, mz_f6, mz_n6, mz_d6, mz_s6⟩
  | 7, hq => cases hq; exact ⟨mz_i7, mz_f7, mz_n7, mz_d7, mz_s7⟩
  | 8, hq => cases hq; exact ⟨mz_i8, mz_f8, mz_n8, mz_d8, mz_s8⟩
  | 9, hq => cases hq; exact ⟨mz_i9, mz_f9, mz_n9, mz_d9, mz_s9⟩
  | 10, hq => cases hq; exact ⟨mz_i10, mz_f10, mz_n10, mz_d10, mz_s10⟩
  | k + 11, hq => simp [mx_cl, mz_P, mz_cl] at hq
theorem mz_hCt : mx_Ct mz_P := by
  intro t C ht
  match t, ht with
  | 0, ht => cases ht
  | 1, ht => cases ht
  | 2, ht => cases ht
  | 3, ht => cases ht
  | 4, ht => cases ht; exact ⟨_, rfl, rfl⟩
  | 5, ht => cases ht; exact ⟨_, rfl, rfl⟩
  | k + 6, ht => simp [mx_TY, mz_P, mz_TY] at ht
theorem mz_oi : mz_w 136 (.instanceMethod objectInit) = true ∧ mz_w 137 (.code objectInit ⟨#[0xb1]⟩ 1 none) = true := by decide +kernel
theorem mz_ac : mz_w 598 (.native arraycopyName) = true ∧ mz_w 597 (.static arraycopyName) = true ∧ mz_w 119 (.initialized "java/lang/System") = true := by decide +kernel
end MZB
