/-! the classes are what the claim says -/
section MZC
theorem mz_i0 : ∀ w ∈ u_ws "ThroughWindow$Clerks" mz_T0 10, w ∈ mz_tb := by
  have h : u_ws "ThroughWindow$Clerks" mz_T0 10 = ([507, 509, 511, 513, 515, 517, 519, 521, 523, 525] : List Nat).filterMap (fun i => mz_tb[i]?) := by decide +kernel
  intro w hw
  rw [h] at hw
  obtain ⟨i, -, hi⟩ := List.mem_filterMap.mp hw
  exact List.mem_of_getElem? hi
theorem mz_f0 : ∀ k, k < 10 → parseFieldDescriptor (mz_T0 k).2.2.1 = some (mz_ft 0 k) := by decide +kernel
theorem mz_n0 : ∀ a, a < 10 → ∀ b, b < 10 → a ≠ b → (mz_T0 a).2.1 ≠ (mz_T0 b).2.1 := by decide +kernel
theorem mz_d0 : ∀ j, j < 10 → defaultValue (mz_ft 0 j) = vp_V (mz_fd 0) j := by decide +kernel
theorem mz_s0 : ∀ v ∈ mz_fd 0, mx_simple v = true := by decide +kernel
theorem mz_l0 : (mz_fd 0).length = 10 := by decide +kernel
theorem mz_v0 : mz_w (mz_cw 0).1 (.instantiable "ThroughWindow$Clerks" 10) = true := by decide +kernel
theorem mz_i1 : ∀ w ∈ u_ws "ThroughWindow$Cutter" mz_T1 7, w ∈ mz_tb := by
  have h : u_ws "ThroughWindow$Cutter" mz_T1 7 = ([466, 468, 470, 472, 474, 476, 478] : List Nat).filterMap (fun i => mz_tb[i]?) := by decide +kernel
  intro w hw
  rw [h] at hw
  obtain ⟨i, -, hi⟩ := List.mem_filterMap.mp hw
  exact List.mem_of_getElem? hi
theorem mz_f1 : ∀ k, k < 7 → parseFieldDescriptor (mz_T1 k).2.2.1 = some (mz_ft 1 k) := by decide +kernel
theorem mz_n1 : ∀ a, a < 7 → ∀ b, b < 7 → a ≠ b → (mz_T1 a).2.1 ≠ (mz_T1 b).2.1 := by decide +kernel
theorem mz_d1 : ∀ j, j < 7 → defaultValue (mz_ft 1 j) = vp_V (mz_fd 1) j := by decide +kernel
theorem mz_s1 : ∀ v ∈ mz_fd 1, mx_simple v = true := by decide +kernel
theorem mz_l1 : (mz_fd 1).length = 7 := by decide +kernel
theorem mz_v1 : mz_w (mz_cw 1).1 (.instantiable "ThroughWindow$Cutter" 7) = true := by decide +kernel
theorem mz_i2 : ∀ w ∈ u_ws "ThroughWindow$Desk" mz_T2 17, w ∈ mz_tb := by
  have h : u_ws "ThroughWindow$Desk" mz_T2 17 = ([413, 415, 417, 419, 421, 423, 425, 427, 429, 431, 433, 435, 437, 439, 441, 443, 445] : List Nat).filterMap (fun i => mz_tb[i]?) := by decide +kernel
  intro w hw
  rw [h] at hw
  obtain ⟨i, -, hi⟩ := List.mem_filterMap.mp hw
  exact List.mem_of_getElem? hi
theorem mz_f2 : ∀ k, k < 17 → parseFieldDescriptor (mz_T2 k).2.2.1 = some (mz_ft 2 k) := by decide +kernel
theorem mz_n2 : ∀ a, a < 17 → ∀ b, b < 17 → a ≠ b → (mz_T2 a).2.1 ≠ (mz_T2 b).2.1 := by decide +kernel
theorem mz_d2 : ∀ j, j < 17 → defaultValue (mz_ft 2 j) = vp_V (mz_fd 2) j := by decide +kernel
theorem mz_s2 : ∀ v ∈ mz_fd 2, mx_simple v = true := by decide +kernel
theorem mz_l2 : (mz_fd 2).length = 17 := by decide +kernel
theorem mz_v2 : mz_w (mz_cw 2).1 (.instantiable "ThroughWindow$Desk" 17) = true := by decide +kernel
theorem mz_i3 : ∀ w ∈ u_ws "ThroughWindow$Laws" mz_T3 5, w ∈ mz_tb := by
  have h : u_ws "ThroughWindow$Laws" mz_T3 5 = ([157, 159, 161, 163, 165] : List Nat).filterMap (fun i => mz_tb[i]?) := by decide +kernel
  intro w hw
  rw [h] at hw
  obtain ⟨i, -, hi⟩ := List.mem_filterMap.mp hw
  exact List.mem_of_getElem? hi
theorem mz_f3 : ∀ k, k < 5 → parseFieldDescriptor (mz_T3 k).2.2.1 = some (mz_ft 3 k) := by decide +kernel
theorem mz_n3 : ∀ a, a < 5 → ∀ b, b < 5 → a ≠ b → (mz_T3 a).2.1 ≠ (mz_T3 b).2.1 := by decide +kernel
theorem mz_d3 : ∀ j, j < 5 → defaultValue (mz_ft 3 j) = vp_V (mz_fd 3) j := by decide +kernel
theorem mz_s3 : ∀ v ∈ mz_fd 3, mx_simple v = true := by decide +kernel
theorem mz_l3 : (mz_fd 3).length = 5 := by decide +kernel
theorem mz_v3 : mz_w (mz_cw 3).1 (.instantiable "ThroughWindow$Laws" 5) = true := by decide +kernel
theorem mz_i4 : ∀ w ∈ u_ws "ThroughWindow$Lens" mz_T4 18, w ∈ mz_tb := by
  have h : u_ws "ThroughWindow$Lens" mz_T4 18 = ([237, 239, 241, 243, 245, 247, 249, 251, 253, 255, 257, 259, 261, 263, 265, 267, 269, 271] : List Nat).filterMap (fun i => mz_tb[i]?) := by decide +kernel
  intro w hw
  rw [h] at hw
  obtain ⟨i, -, hi⟩ := List.mem_filterMap.mp hw
  exact List.mem_of_getElem? hi
theorem mz_f4 : ∀ k, k < 18 → parseFieldDescriptor (mz_T4 k).2.2.1 = some (mz_ft 4 k) := by decide +kernel
theorem mz_n4 : ∀ a, a < 18 → ∀ b, b < 18 → a ≠ b → (mz_T4 a).2.1 ≠ (mz_T4 b).2.1 := by decide +kernel
theorem mz_d4 : ∀ j, j < 18 → defaultValue (mz_ft 4 j) = vp_V (mz_fd 4) j := by decide +kernel
theorem mz_s4 : ∀ v ∈ mz_fd 4, mx_simple v = true := by decide +kernel
theorem mz_l4 : (mz_fd 4).length = 18 := by decide +kernel
theorem mz_v4 : mz_w (mz_cw 4).1 (.instantiable "ThroughWindow$Lens" 18) = true := by decide +kernel
theorem mz_i5 : ∀ w ∈ u_ws "ThroughWindow$Reader" mz_T5 10, w ∈ mz_tb := by
  have h : u_ws "ThroughWindow$Reader" mz_T5 10 = ([292, 294, 296, 298, 300, 302, 304, 306, 308, 310] : List Nat).filterMap (fun i => mz_tb[i]?) := by decide +kernel
  intro w hw
  rw [h] at hw
  obtain ⟨i, -, hi⟩ := List.mem_filterMap.mp hw
  exact List.mem_of_getElem? hi
theorem mz_f5 : ∀ k, k < 10 → parseFieldDescriptor (mz_T5 k).2.2.1 = some (mz_ft 5 k) := by decide +kernel
theorem mz_n5 : ∀ a, a < 10 → ∀ b, b < 10 → a ≠ b → (mz_T5 a).2.1 ≠ (mz_T5 b).2.1 := by decide +kernel
theorem mz_d5 : ∀ j, j < 10 → defaultValue (mz_ft 5 j) = vp_V (mz_fd 5) j := by decide +kernel
theorem mz_s5 : ∀ v ∈ mz_fd 5, mx_simple v = true := by decide +kernel
theorem mz_l5 : (mz_fd 5).length = 10 := by decide +kernel
theorem mz_v5 : mz_w (mz_cw 5).1 (.instantiable "ThroughWindow$Reader" 10) = true := by decide +kernel
theorem mz_i6 : ∀ w ∈ u_ws "ThroughWindow$Rows" mz_T6 2, w ∈ mz_tb := by
  have h : u_ws "ThroughWindow$Rows" mz_T6 2 = ([185, 187] : List Nat).filterMap (fun i => mz_tb[i]?) := by decide +kernel
  intro w hw
  rw [h] at hw
  obtain ⟨i, -, hi⟩ := List.mem_filterMap.mp hw
  exact List.mem_of_getElem? hi
theorem mz_f6 : ∀ k, k < 2 → parseFieldDescriptor (mz_T6 k).2.2.1 = some (mz_ft 6 k) := by decide +kernel
theorem mz_n6 : ∀ a, a < 2 → ∀ b, b < 2 → a ≠ b → (mz_T6 a).2.1 ≠ (mz_T6 b).2.1 := by decide +kernel
theorem mz_d6 : ∀ j, j < 2 → defaultValue (mz_ft 6 j) = vp_V (mz_fd 6) j := by decide +kernel
theorem mz_s6 : ∀ v ∈ mz_fd 6, mx_simple v = true := by decide +kernel
theorem mz_l6 : (mz_fd 6).length = 2 := by decide +kernel
theorem mz_v6 : mz_w (mz_cw 6).1 (.instantiable "ThroughWindow$Rows" 2) = true := by decide +kernel
theorem mz_i7 : ∀ w ∈ u_ws "ThroughWindow$Step" mz_T7 6, w ∈ mz_tb := by
  have h : u_ws "ThroughWindow$Step" mz_T7 6 = ([377, 379, 381, 383, 385, 387] : List Nat).filterMap (fun i => mz_tb[i]?) := by decide +kernel
  intro w hw
  rw [h] at hw
  obtain ⟨i, -, hi⟩ := List.mem_filterMap.mp hw
  exact List.mem_of_getElem? hi
theorem mz_f7 : ∀ k, k < 6 → parseFieldDescriptor (mz_T7 k).2.2.1 = some (mz_ft 7 k) := by decide +kernel
theorem mz_n7 : ∀ a, a < 6 → ∀ b, b < 6 → a ≠ b → (mz_T7 a).2.1 ≠ (mz_T7 b).2.1 := by decide +kernel
theorem mz_d7 : ∀ j, j < 6 → defaultValue (mz_ft 7 j) = vp_V (mz_fd 7) j := by decide +kernel
theorem mz_s7 : ∀ v ∈ mz_fd 7, mx_simple v = true := by decide +kernel
theorem mz_l7 : (mz_fd 7).length = 6 := by decide +kernel
theorem mz_v7 : mz_w (mz_cw 7).1 (.instantiable "ThroughWindow$Step" 6) = true := by decide +kernel
theorem mz_i8 : ∀ w ∈ u_ws "ThroughWindow$View" mz_T8 5, w ∈ mz_tb := by
  have h : u_ws "ThroughWindow$View" mz_T8 5 = ([337, 339, 341, 343, 345] : List Nat).filterMap (fun i => mz_tb[i]?) := by decide +kernel
  intro w hw
  rw [h] at hw
  obtain ⟨i, -, hi⟩ := List.mem_filterMap.mp hw
  exact List.mem_of_getElem? hi
theorem mz_f8 : ∀ k, k < 5 → parseFieldDescriptor (mz_T8 k).2.2.1 = some (mz_ft 8 k) := by decide +kernel
theorem mz_n8 : ∀ a, a < 5 → ∀ b, b < 5 → a ≠ b → (mz_T8 a).2.1 ≠ (mz_T8 b).2.1 := by decide +kernel
theorem mz_d8 : ∀ j, j < 5 → defaultValue (mz_ft 8 j) = vp_V (mz_fd 8) j := by decide +kernel
theorem mz_s8 : ∀ v ∈ mz_fd 8, mx_simple v = true := by decide +kernel
theorem mz_l8 : (mz_fd 8).length = 5 := by decide +kernel
theorem mz_v8 : mz_w (mz_cw 8).1 (.instantiable "ThroughWindow$View" 5) = true := by decide +kernel
theorem mz_i9 : ∀ w ∈ u_ws "ThroughWindow" mz_T9 15, w ∈ mz_tb := by
  have h : u_ws "ThroughWindow" mz_T9 15 = ([543, 545, 547, 549, 551, 553, 555, 557, 559, 561, 563, 565, 567, 569, 571] : List Nat).filterMap (fun i => mz_tb[i]?) := by decide +kernel
  intro w hw
  rw [h] at hw
  obtain ⟨i, -, hi⟩ := List.mem_filterMap.mp hw
  exact List.mem_of_getElem? hi
theorem mz_f9 : ∀ k, k < 15 → parseFieldDescriptor (mz_T9 k).2.2.1 = some (mz_ft 9 k) := by decide +kernel
theorem mz_n9 : ∀ a, a < 15 → ∀ b, b < 15 → a ≠ b → (mz_T9 a).2.1 ≠ (mz_T9 b).2.1 := by decide +kernel
theorem mz_d9 : ∀ j, j < 15 → defaultValue (mz_ft 9 j) = vp_V (mz_fd 9) j := by decide +kernel
theorem mz_s9 : ∀ v ∈ mz_fd 9, mx_simple v = true := by decide +kernel
theorem mz_l9 : (mz_fd 9).length = 15 := by decide +kernel
theorem mz_v9 : mz_w (mz_cw 9).1 (.instantiable "ThroughWindow" 15) = true := by decide +kernel
theorem mz_i10 : ∀ w ∈ u_ws "ThroughWindowModel" mz_T10 67, w ∈ mz_tb := by
  have h : u_ws "ThroughWindowModel" mz_T10 67 = ([1280, 1282, 1284, 1286, 1288, 1290, 1292, 1294, 1296, 1298, 1300, 1302, 1304, 1306, 1308, 1310, 1312, 1314, 1316, 1318, 1320, 1322, 1324, 1326, 1328, 1330, 1332, 1334, 1336, 1338, 1340, 1342, 1344, 1346, 1348, 1350, 1352, 1354, 1356, 1358, 1360, 1362, 1364, 1366, 1368, 1370, 1372, 1374, 1376, 1378, 1380, 1382, 1384, 1386, 1388, 1390, 1392, 1394, 1396, 1398, 1400, 1402, 1404, 1406, 1408, 1410, 1412] : List Nat).filterMap (fun i => mz_tb[i]?) := by decide +kernel
  intro w hw
  rw [h] at hw
  obtain ⟨i, -, hi⟩ := List.mem_filterMap.mp hw
  exact List.mem_of_getElem? hi
theorem mz_f10 : ∀ k, k < 67 → parseFieldDescriptor (mz_T10 k).2.2.1 = some (mz_ft 10 k) := by decide +kernel
theorem mz_n10 : ∀ a, a < 67 → ∀ b, b < 67 → a ≠ b → (mz_T10 a).2.1 ≠ (mz_T10 b).2.1 := by decide +kernel
theorem mz_d10 : ∀ j, j < 67 → defaultValue (mz_ft 10 j) = vp_V (mz_fd 10) j := by decide +kernel
theorem mz_s10 : ∀ v ∈ mz_fd 10, mx_simple v = true := by decide +kernel
theorem mz_l10 : (mz_fd 10).length = 67 := by decide +kernel
theorem mz_v10 : mz_w (mz_cw 10).1 (.instantiable "ThroughWindowModel" 67) = true := by decide +kernel
theorem mz_hCl : mx_Cl mz_P mz_tb := by
  intro ci q hq
  match ci, hq with
  | 0, hq => cases hq; exact ⟨mz_i0, mz_f0, mz_n0, mz_d0, mz_s0, mz_l0⟩
  | 1, hq => cases hq; exact ⟨mz_i1, mz_f1, mz_n1, mz_d1, mz_s1, mz_l1⟩
  | 2, hq => cases hq; exact ⟨mz_i2, mz_f2, mz_n2, mz_d2, mz_s2, mz_l2⟩
  | 3, hq => cases hq; exact ⟨mz_i3, mz_f3, mz_n3, mz_d3, mz_s3, mz_l3⟩
  | 4, hq => cases hq; exact ⟨mz_i4, mz_f4, mz_n4, mz_d4, mz_s4, mz_l4⟩
  | 5, hq => cases hq; exact ⟨mz_i5, mz_f5, mz_n5, mz_d5, mz_s5, mz_l5⟩
  | 6, hq => cases hq; exact ⟨mz_i6, mz_f6, mz_n6, mz_d6, mz_s6, mz_l6⟩
  | 7, hq => cases hq; exact ⟨mz_i7, mz_f7, mz_n7, mz_d7, mz_s7, mz_l7⟩
  | 8, hq => cases hq; exact ⟨mz_i8, mz_f8, mz_n8, mz_d8, mz_s8, mz_l8⟩
  | 9, hq => cases hq; exact ⟨mz_i9, mz_f9, mz_n9, mz_d9, mz_s9, mz_l9⟩
  | 10, hq => cases hq; exact ⟨mz_i10, mz_f10, mz_n10, mz_d10, mz_s10, mz_l10⟩
  | k + 11, hq => simp [mx_cl, mz_P, mz_cl] at hq
theorem mz_hIn : ∀ (ci : Nat) (q : vw_C), mz_cl[ci]? = some q → Cond.instantiable q.1 q.2.2 ∈ mz_tb := by
  intro ci q hq
  match ci, hq with
  | 0, hq => cases hq; exact mz_w_spec mz_v0
  | 1, hq => cases hq; exact mz_w_spec mz_v1
  | 2, hq => cases hq; exact mz_w_spec mz_v2
  | 3, hq => cases hq; exact mz_w_spec mz_v3
  | 4, hq => cases hq; exact mz_w_spec mz_v4
  | 5, hq => cases hq; exact mz_w_spec mz_v5
  | 6, hq => cases hq; exact mz_w_spec mz_v6
  | 7, hq => cases hq; exact mz_w_spec mz_v7
  | 8, hq => cases hq; exact mz_w_spec mz_v8
  | 9, hq => cases hq; exact mz_w_spec mz_v9
  | 10, hq => cases hq; exact mz_w_spec mz_v10
  | k + 11, hq => simp [mz_cl] at hq
theorem mz_hCt : mx_Ct mz_P := by
  intro t C ht
  match t, ht with
  | 0, ht => cases ht
  | 1, ht => cases ht
  | 2, ht => cases ht
  | 3, ht => cases ht
  | 4, ht => cases ht; exact ⟨_, rfl, rfl⟩
  | 5, ht => cases ht; exact ⟨_, rfl, rfl⟩
  | k + 6, ht => simp [mx_TY, mz_P, mz_TY] at ht
theorem mz_oi : mz_w 136 (.instanceMethod objectInit) = true ∧ mz_w 137 (.code objectInit ⟨#[0xb1]⟩ 1 none) = true := by decide +kernel
theorem mz_ac : mz_w 598 (.native arraycopyName) = true ∧ mz_w 597 (.static arraycopyName) = true ∧ mz_w 119 (.initialized "java/lang/System") = true := by decide +kernel
end MZC
