/-! feed: the methods, and the law's case -/
section MZG
theorem ok_call0 {l : Launch} {rho : Nat → Int32} {d mi pc : Nat} {ls : mx_L} {st : List Value} {h : mx_H} {pc2 : Nat} {ls2 : mx_L} {st2 : List Value} {h2 : mx_H} {mc ms : Nat} {ins : Instr} {a b w : Nat} {as r : List Value} {pc1 : Nat} {ls1 : mx_L} {st1 : List Value} {h1 : mx_H} {ins1 : Instr} {a1 b1 w1 : Nat} {v1 : Option Value} (hpg : mz_pg mi pc = some (ins, a, b, w)) (h4 : mx_s4 mz_P ins a b h st = some (as, r))
    (hOk : mx_Ok l mz_P mz_G mz_tb rho d b 0 (mx_args 0 as) [] h pc1 ls1 st1 h1 0 0) (hpg1 : mz_pg b pc1 = some (ins1, a1, b1, w1)) (hrv : mx_rv ins1 (mz_mt b).2.2.2.1 st1 = some v1)
    (k : mx_Ok l mz_P mz_G mz_tb rho (d + 1) mi (pc + 3) ls (v1.toList ++ r) h1 pc2 ls2 st2 h2 mc ms) : mx_Ok l mz_P mz_G mz_tb rho (d + 1) mi pc ls st h pc2 ls2 st2 h2 mc ms := by
  have h9 := ok_call hpg h4 hOk hpg1 hrv k
  rwa [Nat.zero_add, Nat.zero_add] at h9
theorem s4_v {x a b k ci n : Nat} {fs : List Value} {h : mx_H} (as : List Value) {r : List Value} (ha : 0 < a) (hn : (mz_mt b).2.2.2.2.1 = n) (hl : as.length = n) (hc : (mz_mt b).2.2.2.2.2 = ci) (hk : h[k]? = some (.inr (ci, fs))) (hr : (r.map mx_cat).sum ≤ 8) (hs : 1 + (as.map mx_cat).sum ≤ (mz_mt b).2.2.1) : mx_s4 mz_P (.invokevirtual x) a b h (as ++ .ref k :: r) = some (.ref k :: as.reverse, r) := by
  have hn' : (mx_mt mz_P b).2.2.2.2.1 = as.length := hn.trans hl.symm
  have hc' : (mx_mt mz_P b).2.2.2.2.2 = ci := hc
  have hs' : 1 + (as.map mx_cat).sum ≤ (mx_mt mz_P b).2.2.1 := hs
  simp only [mx_s4, hn', List.drop_left, List.take_left, hk]
  rw [if_pos ⟨ha, hc'.symm, hr, hs'⟩]
section
variable {l : Launch} {rho : Nat → Int32} {d : Nat}
theorem fd_T.keep {h h' : mx_H} {k1 k2 kr kt n : Nat} (hT : fd_T h kr kt n) (hF : fd_F h h' k1 k2) (a1 : kr ≠ k1) (a2 : kr ≠ k2) (a3 : kt ≠ k1) (a4 : kt ≠ k2) : fd_T h' kr kt n := by
  obtain ⟨fs, d0, us, t1, t2, t3, t4, t5⟩ := hT
  exact ⟨fs, d0, us, (hF.2.2 _ a1 a2).trans t1, t2, t3, t4, (hF.2.2 _ a3 a4).trans t5⟩
theorem fd_U.keep {h h' : mx_H} {k1 k2 kr kt n : Nat} (hT : fd_U h kr kt n) (hF : fd_F h h' k1 k2) (a1 : kr ≠ k1) (a2 : kr ≠ k2) (a3 : kt ≠ k1) (a4 : kt ≠ k2) : fd_U h' kr kt n := by
  obtain ⟨fs, d0, us, t1, t2, t3, t4, t5⟩ := hT
  exact ⟨fs, d0, us, (hF.2.2 _ a1 a2).trans t1, t2, t3, t4, (hF.2.2 _ a3 a4).trans t5⟩
theorem fd_TU {h : mx_H} {kr kt km ku n i : Nat} (hT : fd_T h kr kt n) (hU : fd_U h km ku i) : km ≠ kr ∧ km ≠ kt ∧ ku ≠ kr ∧ ku ≠ kt := by
  obtain ⟨fs, d0, us, t1, t2, t3, t4, t5⟩ := hT
  obtain ⟨gs, e0, vs, u1, u2, u3, u4, u5⟩ := hU
  refine ⟨fun e => ?_, fun e => ?_, fun e => ?_, fun e => ?_⟩
  · rw [e, t1] at u1; cases u1
  · rw [e, t5] at u1; cases u1
  · rw [e, t1] at u5; cases u5
  · rw [e, t5] at u5; cases u5
/-- a call of the method 33 -/
theorem fd_a_c {pc x w : Nat} {V : Int64} {h : mx_H} {mi kr kt n : Nat} (hpg : mz_pg mi pc = some (.invokevirtual x, 1, 33, w)) (hT : fd_T h kr kt n) (hn : n + 8 ≤ 1000) : ∃ h', fd_T h' kr kt (n + fd_n V 8) ∧ fd_F h h' kr kt ∧ ∀ {ls ls2 : mx_L} {st st2 : List Value} {h2 : mx_H} {pc2 mc ms : Nat}, (st.map mx_cat).sum ≤ 8 → mx_Ok l mz_P mz_G mz_tb rho (d + 1) mi (pc + 3) ls st h' pc2 ls2 st2 h2 mc ms → mx_Ok l mz_P mz_G mz_tb rho (d + 1) mi pc ls (.long V :: .ref kr :: st) h pc2 ls2 st2 h2 mc ms := by
  obtain ⟨h', ls', g1, g2, g3⟩ := fd_a_m (l := l) (rho := rho) (d := d) (V := V) hT hn
  refine ⟨h', g1, g2, fun {ls ls2 st st2 h2 pc2 mc ms} hr k => ?_⟩
  obtain ⟨fs, d0, us, t1, t2, t3, t4, t5⟩ := hT
  exact ok_call0 (as := [.ref kr, .long V]) (r := st) (v1 := none) hpg (s4_v [.long V] (n := 1) (by decide) (by decide +kernel) rfl (by decide +kernel) t1 hr (Nat.le_of_ble_eq_true rfl)) g3 gz_33_73 rfl k
/-- a call of the method 145 -/
theorem fd_b_c {pc x w : Nat} {V : Int64} {h : mx_H} {mi kr kt n : Nat} (hpg : mz_pg mi pc = some (.invokevirtual x, 1, 145, w)) (hT : fd_U h kr kt n) (hn : n + 8 ≤ 1000) : ∃ h', fd_U h' kr kt (n + fd_n V 8) ∧ fd_F h h' kr kt ∧ ∀ {ls ls2 : mx_L} {st st2 : List Value} {h2 : mx_H} {pc2 mc ms : Nat}, (st.map mx_cat).sum ≤ 8 → mx_Ok l mz_P mz_G mz_tb rho (d + 1) mi (pc + 3) ls st h' pc2 ls2 st2 h2 mc ms → mx_Ok l mz_P mz_G mz_tb rho (d + 1) mi pc ls (.long V :: .ref kr :: st) h pc2 ls2 st2 h2 mc ms := by
  obtain ⟨h', ls', g1, g2, g3⟩ := fd_b_m (l := l) (rho := rho) (d := d) (V := V) hT hn
  refine ⟨h', g1, g2, fun {ls ls2 st st2 h2 pc2 mc ms} hr k => ?_⟩
  obtain ⟨fs, d0, us, t1, t2, t3, t4, t5⟩ := hT
  exact ok_call0 (as := [.ref kr, .long V]) (r := st) (v1 := none) hpg (s4_v [.long V] (n := 1) (by decide) (by decide +kernel) rfl (by decide +kernel) t1 hr (Nat.le_of_ble_eq_true rfl)) g3 gz_145_75 rfl k
def fd_N (n : Nat) (V1 V2 V3 : Int64) : Nat := n + fd_n V1 8 + fd_n V2 8 + fd_n V3 8
set_option maxHeartbeats 1000000 in
/-- the class's feed -/
theorem fd_x {V1 V2 V3 : Int64} {h : mx_H} {kx kr kt n : Nat} {fx : List Value} (hx : h[kx]? = some (.inr (9, fx))) (hf : fx[7]? = some (.ref kr)) (hT : fd_T h kr kt n) (hn : n + 24 ≤ 1000) : ∃ h' : mx_H, fd_T h' kr kt (fd_N n V1 V2 V3) ∧ fd_F h h' kr kt ∧ mx_Ok l mz_P mz_G mz_tb rho (d + 1) 32 0 (mx_args 0 [.ref kx, .long V1, .long V2, .long V3]) [] h 32 (mx_args 0 [.ref kx, .long V1, .long V2, .long V3]) [.int (nI (fd_N n V1 V2 V3))] h' 0 0 := by
  have q1 := fd_n_le V1 8
  have q2 := fd_n_le V2 8
  have aa : kx ≠ kr ∧ kx ≠ kt := by
    obtain ⟨fs, d0, us, t1, t2, t3, t4, t5⟩ := id hT
    exact ⟨fun e => (by rw [e, t1] at hx; cases hx), fun e => (by rw [e, t5] at hx; cases hx)⟩
  obtain ⟨h1, b1, c1, d1⟩ := fd_a_c (l := l) (rho := rho) (d := d) (V := V1) gz_32_5 hT (by omega)
  obtain ⟨h2, b2, c2, d2⟩ := fd_a_c (l := l) (rho := rho) (d := d) (V := V2) gz_32_13 b1 (by omega)
  obtain ⟨h3, b3, c3, d3⟩ := fd_a_c (l := l) (rho := rho) (d := d) (V := V3) gz_32_22 b2 (by omega)
  have hx1 := (c1.2.2 _ aa.1 aa.2).trans hx
  have hx2 := (c2.2.2 _ aa.1 aa.2).trans hx1
  have hx3 := (c3.2.2 _ aa.1 aa.2).trans hx2
  have b3' : fd_T h3 kr kt (fd_N n V1 V2 V3) := b3
  refine ⟨h3, b3', (c1.tr c2).tr c3, ?_⟩
  refine ok_aload_n gz_32_0 (v := .ref kx) rfl rfl ?_
  refine ok_get gz_32_1 hx hf ?_
  refine ok_lload_n gz_32_4 (v := .long V1) rfl rfl ?_
  refine d1 (by decide) ?_
  refine ok_aload_n gz_32_8 (v := .ref kx) rfl rfl ?_
  refine ok_get gz_32_9 hx1 hf ?_
  refine ok_lload_n gz_32_12 (v := .long V2) rfl rfl ?_
  refine d2 (by decide) ?_
  refine ok_aload_n gz_32_16 (v := .ref kx) rfl rfl ?_
  refine ok_get gz_32_17 hx2 hf ?_
  refine ok_lload gz_32_20 (v := .long V3) rfl rfl ?_
  refine d3 (by decide) ?_
  refine ok_aload_n gz_32_25 (v := .ref kx) rfl rfl ?_
  refine ok_get gz_32_26 hx3 hf ?_
  obtain ⟨fs, d0, us, t1, t2, t3, t4, t5⟩ := b3'
  exact ok_get gz_32_29 t1 t4 mx_Ok.rf
set_option maxHeartbeats 1000000 in
/-- the reference's feed -/
theorem fd_m {V1 V2 V3 : Int64} {h : mx_H} {km ku n : Nat} (hU : fd_U h km ku n) (hn : n + 24 ≤ 1000) : ∃ h' : mx_H, fd_U h' km ku (fd_N n V1 V2 V3) ∧ fd_F h h' km ku ∧ mx_Ok l mz_P mz_G mz_tb rho (d + 1) 144 0 (mx_args 0 [.ref km, .long V1, .long V2, .long V3]) [] h 25 (mx_args 0 [.ref km, .long V1, .long V2, .long V3]) [.int (nI (fd_N n V1 V2 V3))] h' 0 0 := by
  have q1 := fd_n_le V1 8
  have q2 := fd_n_le V2 8
  have hap := hU.apart
  obtain ⟨gs, e0, vs, u1, u2, u3, u4, u5⟩ := hU
  have hl := fd_len u1
  have hU0 : fd_U (h.set km (.inr (10, gs.set 0 (.int (Int32.ofInt 0))))) km ku n := ⟨gs.set 0 (.int (Int32.ofInt 0)), e0, vs, List.getElem?_set_self hl, by simp [u2], by rw [List.getElem?_set_ne (by decide)]; exact u3, by rw [List.getElem?_set_ne (by decide)]; exact u4, by rw [List.getElem?_set_ne hap]; exact u5⟩
  have hF0 : fd_F h (h.set km (.inr (10, gs.set 0 (.int (Int32.ofInt 0))))) km ku := ⟨by simp, mx_sz_set u1 (by simp [mx_cz]), fun k q1 q2 => List.getElem?_set_ne (Ne.symm q1)⟩
  obtain ⟨h1, b1, c1, d1⟩ := fd_b_c (l := l) (rho := rho) (d := d) (V := V1) gz_144_7 hU0 (by omega)
  obtain ⟨h2, b2, c2, d2⟩ := fd_b_c (l := l) (rho := rho) (d := d) (V := V2) gz_144_12 b1 (by omega)
  obtain ⟨h3, b3, c3, d3⟩ := fd_b_c (l := l) (rho := rho) (d := d) (V := V3) gz_144_18 b2 (by omega)
  have b3' : fd_U h3 km ku (fd_N n V1 V2 V3) := b3
  refine ⟨h3, b3', ((hF0.tr c1).tr c2).tr c3, ?_⟩
  refine ok_aload_n gz_144_0 (v := .ref km) rfl rfl ?_
  refine ok_s1 (ls' := (mx_args 0 [.ref km, .long V1, .long V2, .long V3])) (st' := [.int (Int32.ofInt 0), .ref km]) gz_144_1 rfl ?_
  refine ok_put gz_144_2 u1 (by omega) (by decide +kernel) ?_
  refine ok_aload_n gz_144_5 (v := .ref km) rfl rfl ?_
  refine ok_lload_n gz_144_6 (v := .long V1) rfl rfl ?_
  refine d1 (by decide) ?_
  refine ok_aload_n gz_144_10 (v := .ref km) rfl rfl ?_
  refine ok_lload_n gz_144_11 (v := .long V2) rfl rfl ?_
  refine d2 (by decide) ?_
  refine ok_aload_n gz_144_15 (v := .ref km) rfl rfl ?_
  refine ok_lload gz_144_16 (v := .long V3) rfl rfl ?_
  refine d3 (by decide) ?_
  refine ok_aload_n gz_144_21 (v := .ref km) rfl rfl ?_
  obtain ⟨fs, d0, us, t1, t2, t3, t4, t5⟩ := b3'
  exact ok_get gz_144_22 t1 t4 mx_Ok.rf
def fd_V (a b : Int32) : Int64 := (a.toInt64 <<< ((Int8.ofInt 32).toInt32.toInt64 &&& 63)) ||| (b.toInt64 &&& Int64.ofNat 4294967295)
theorem fd_ix8 : mx_idx 8 (0 + Int32.ofInt 1) = some 1 ∧ mx_idx 8 (0 + Int32.ofInt 2) = some 2 ∧ mx_idx 8 (0 + Int32.ofInt 3) = some 3 ∧ mx_idx 8 (0 + Int32.ofInt 4) = some 4 ∧ mx_idx 8 (0 + Int32.ofInt 5) = some 5 ∧ mx_idx 8 (0 + (Int8.ofInt 6).toInt32) = some 6 := by decide +kernel
theorem ok_l2 {mi pc x : Nat} {ls : mx_L} {st : List Value} {h : mx_H} {pc2 : Nat} {ls2 : mx_L} {st2 : List Value} {h2 : mx_H} {mc ms a b w : Nat} (hpg : mz_pg mi pc = some (.ldc2_w x, a, b, w)) (k : mx_Ok l mz_P mz_G mz_tb rho d mi (pc + 3) ls (.long (Int64.ofNat a) :: st) h pc2 ls2 st2 h2 mc ms) : mx_Ok l mz_P mz_G mz_tb rho d mi pc ls st h pc2 ls2 st2 h2 mc ms :=
  ok_s3 (h' := h) (st' := .long (Int64.ofNat a) :: st) hpg rfl rfl rfl k
set_option maxHeartbeats 4000000 in
/-- the law's case, to its end -/
theorem fd_law {h : mx_H} {ls : mx_L} {kx kr kt km ku : Nat} {fx : List Value} (h8 : (rho 8).toInt = 8) (l0 : mx_look ls 0 = some (.float 0)) (l1 : mx_look ls 1 = some (.ref kx)) (l2 : mx_look ls 2 = some (.ref km)) (l4 : mx_look ls 4 = some (.int 0)) (hx : h[kx]? = some (.inr (9, fx))) (hf : fx[7]? = some (.ref kr)) (hT : fd_T h kr kt 0) (hU : fd_U h km ku 0) : ∃ (h' : mx_H) (ls' : mx_L), mx_Ok l mz_P mz_G mz_tb rho (d + 2) 0 494 ls [] h 1913 ls' [.int 1] h' 0 0 := by
  have e8 : rho 8 = 8 := Int32.toInt_inj.mp (h8.trans (by decide))
  obtain ⟨x1, x2, x3, x4⟩ := fd_TU hT hU
  obtain ⟨hA, bA, cA, dA⟩ := fd_x (l := l) (rho := rho) (d := d) (V1 := fd_V (rho 1) (rho 2)) (V2 := fd_V (rho 3) (rho 4)) (V3 := fd_V (rho 5) (rho 6)) hx hf hT (by decide)
  have hU2 := hU.keep cA x1 x2 x3 x4
  obtain ⟨hB, bB, cB, dB⟩ := fd_m (l := l) (rho := rho) (d := d) (V1 := fd_V (rho 1) (rho 2)) (V2 := fd_V (rho 3) (rho 4)) (V3 := fd_V (rho 5) (rho 6)) hU2 (by decide)
  obtain ⟨N, hN⟩ : ∃ N, N = fd_N 0 (fd_V (rho 1) (rho 2)) (fd_V (rho 3) (rho 4)) (fd_V (rho 5) (rho 6)) := ⟨_, rfl⟩
  rw [← hN] at dA dB
  have m0 : mx_look (mx_put1 ls 4 (.int (0 + Int32.ofInt 8))) 0 = some (.float 0) := mx_look_put (by decide) (fun q => by cases q) l0
  have m4 : mx_look (mx_put1 ls 4 (.int (0 + Int32.ofInt 8))) 4 = some (.int (0 + Int32.ofInt 8)) := mx_look_self
  refine ⟨hB, mx_put1 ls 4 (.int (0 + Int32.ofInt 8)), ?_⟩
  refine ok_aload_n gz_0_494 l1 rfl ?_
  refine ok_aload_n gz_0_495 l0 rfl ?_
  refine ok_iload gz_0_496 l4 rfl ?_
  refine ok_s1 (ls' := ls) (st' := [.int (Int32.ofInt 1), .int 0, .float 0, .ref kx]) gz_0_498 rfl ?_
  refine ok_s1 (ls' := ls) (st' := [.int (0 + Int32.ofInt 1), .float 0, .ref kx]) gz_0_499 rfl ?_
  refine ok_sl gz_0_500 h8 fd_ix8.1 ?_
  refine ok_s1 (ls' := ls) (st' := [.long (rho 1).toInt64, .ref kx]) gz_0_501 rfl ?_
  refine ok_s1 (ls' := ls) (st' := [.int (Int8.ofInt 32).toInt32, .long (rho 1).toInt64, .ref kx]) gz_0_502 rfl ?_
  refine ok_s1 (ls' := ls) (st' := [.long ((rho 1).toInt64 <<< ((Int8.ofInt 32).toInt32.toInt64 &&& 63)), .ref kx]) gz_0_504 rfl ?_
  refine ok_aload_n gz_0_505 l0 rfl ?_
  refine ok_iload gz_0_506 l4 rfl ?_
  refine ok_s1 (ls' := ls) (st' := [.int (Int32.ofInt 2), .int 0, .float 0, .long ((rho 1).toInt64 <<< ((Int8.ofInt 32).toInt32.toInt64 &&& 63)), .ref kx]) gz_0_508 rfl ?_
  refine ok_s1 (ls' := ls) (st' := [.int (0 + Int32.ofInt 2), .float 0, .long ((rho 1).toInt64 <<< ((Int8.ofInt 32).toInt32.toInt64 &&& 63)), .ref kx]) gz_0_509 rfl ?_
  refine ok_sl gz_0_510 h8 fd_ix8.2.1 ?_
  refine ok_s1 (ls' := ls) (st' := [.long (rho 2).toInt64, .long ((rho 1).toInt64 <<< ((Int8.ofInt 32).toInt32.toInt64 &&& 63)), .ref kx]) gz_0_511 rfl ?_
  refine ok_l2 gz_0_512 ?_
  refine ok_s1 (ls' := ls) (st' := [.long ((rho 2).toInt64 &&& Int64.ofNat 4294967295), .long ((rho 1).toInt64 <<< ((Int8.ofInt 32).toInt32.toInt64 &&& 63)), .ref kx]) gz_0_515 rfl ?_
  refine ok_s1 (ls' := ls) (st' := [.long (fd_V (rho 1) (rho 2)), .ref kx]) gz_0_516 rfl ?_
  refine ok_aload_n gz_0_517 l0 rfl ?_
  refine ok_iload gz_0_518 l4 rfl ?_
  refine ok_s1 (ls' := ls) (st' := [.int (Int32.ofInt 3), .int 0, .float 0, .long (fd_V (rho 1) (rho 2)), .ref kx]) gz_0_520 rfl ?_
  refine ok_s1 (ls' := ls) (st' := [.int (0 + Int32.ofInt 3), .float 0, .long (fd_V (rho 1) (rho 2)), .ref kx]) gz_0_521 rfl ?_
  refine ok_sl gz_0_522 h8 fd_ix8.2.2.1 ?_
  refine ok_s1 (ls' := ls) (st' := [.long (rho 3).toInt64, .long (fd_V (rho 1) (rho 2)), .ref kx]) gz_0_523 rfl ?_
  refine ok_s1 (ls' := ls) (st' := [.int (Int8.ofInt 32).toInt32, .long (rho 3).toInt64, .long (fd_V (rho 1) (rho 2)), .ref kx]) gz_0_524 rfl ?_
  refine ok_s1 (ls' := ls) (st' := [.long ((rho 3).toInt64 <<< ((Int8.ofInt 32).toInt32.toInt64 &&& 63)), .long (fd_V (rho 1) (rho 2)), .ref kx]) gz_0_526 rfl ?_
  refine ok_aload_n gz_0_527 l0 rfl ?_
  refine ok_iload gz_0_528 l4 rfl ?_
  refine ok_s1 (ls' := ls) (st' := [.int (Int32.ofInt 4), .int 0, .float 0, .long ((rho 3).toInt64 <<< ((Int8.ofInt 32).toInt32.toInt64 &&& 63)), .long (fd_V (rho 1) (rho 2)), .ref kx]) gz_0_530 rfl ?_
  refine ok_s1 (ls' := ls) (st' := [.int (0 + Int32.ofInt 4), .float 0, .long ((rho 3).toInt64 <<< ((Int8.ofInt 32).toInt32.toInt64 &&& 63)), .long (fd_V (rho 1) (rho 2)), .ref kx]) gz_0_531 rfl ?_
  refine ok_sl gz_0_532 h8 fd_ix8.2.2.2.1 ?_
  refine ok_s1 (ls' := ls) (st' := [.long (rho 4).toInt64, .long ((rho 3).toInt64 <<< ((Int8.ofInt 32).toInt32.toInt64 &&& 63)), .long (fd_V (rho 1) (rho 2)), .ref kx]) gz_0_533 rfl ?_
  refine ok_l2 gz_0_534 ?_
  refine ok_s1 (ls' := ls) (st' := [.long ((rho 4).toInt64 &&& Int64.ofNat 4294967295), .long ((rho 3).toInt64 <<< ((Int8.ofInt 32).toInt32.toInt64 &&& 63)), .long (fd_V (rho 1) (rho 2)), .ref kx]) gz_0_537 rfl ?_
  refine ok_s1 (ls' := ls) (st' := [.long (fd_V (rho 3) (rho 4)), .long (fd_V (rho 1) (rho 2)), .ref kx]) gz_0_538 rfl ?_
  refine ok_aload_n gz_0_539 l0 rfl ?_
  refine ok_iload gz_0_540 l4 rfl ?_
  refine ok_s1 (ls' := ls) (st' := [.int (Int32.ofInt 5), .int 0, .float 0, .long (fd_V (rho 3) (rho 4)), .long (fd_V (rho 1) (rho 2)), .ref kx]) gz_0_542 rfl ?_
  refine ok_s1 (ls' := ls) (st' := [.int (0 + Int32.ofInt 5), .float 0, .long (fd_V (rho 3) (rho 4)), .long (fd_V (rho 1) (rho 2)), .ref kx]) gz_0_543 rfl ?_
  refine ok_sl gz_0_544 h8 fd_ix8.2.2.2.2.1 ?_
  refine ok_s1 (ls' := ls) (st' := [.long (rho 5).toInt64, .long (fd_V (rho 3) (rho 4)), .long (fd_V (rho 1) (rho 2)), .ref kx]) gz_0_545 rfl ?_
  refine ok_s1 (ls' := ls) (st' := [.int (Int8.ofInt 32).toInt32, .long (rho 5).toInt64, .long (fd_V (rho 3) (rho 4)), .long (fd_V (rho 1) (rho 2)), .ref kx]) gz_0_546 rfl ?_
  refine ok_s1 (ls' := ls) (st' := [.long ((rho 5).toInt64 <<< ((Int8.ofInt 32).toInt32.toInt64 &&& 63)), .long (fd_V (rho 3) (rho 4)), .long (fd_V (rho 1) (rho 2)), .ref kx]) gz_0_548 rfl ?_
  refine ok_aload_n gz_0_549 l0 rfl ?_
  refine ok_iload gz_0_550 l4 rfl ?_
  refine ok_s1 (ls' := ls) (st' := [.int ((Int8.ofInt 6).toInt32), .int 0, .float 0, .long ((rho 5).toInt64 <<< ((Int8.ofInt 32).toInt32.toInt64 &&& 63)), .long (fd_V (rho 3) (rho 4)), .long (fd_V (rho 1) (rho 2)), .ref kx]) gz_0_552 rfl ?_
  refine ok_s1 (ls' := ls) (st' := [.int (0 + (Int8.ofInt 6).toInt32), .float 0, .long ((rho 5).toInt64 <<< ((Int8.ofInt 32).toInt32.toInt64 &&& 63)), .long (fd_V (rho 3) (rho 4)), .long (fd_V (rho 1) (rho 2)), .ref kx]) gz_0_554 rfl ?_
  refine ok_sl gz_0_555 h8 fd_ix8.2.2.2.2.2 ?_
  refine ok_s1 (ls' := ls) (st' := [.long (rho 6).toInt64, .long ((rho 5).toInt64 <<< ((Int8.ofInt 32).toInt32.toInt64 &&& 63)), .long (fd_V (rho 3) (rho 4)), .long (fd_V (rho 1) (rho 2)), .ref kx]) gz_0_556 rfl ?_
  refine ok_l2 gz_0_557 ?_
  refine ok_s1 (ls' := ls) (st' := [.long ((rho 6).toInt64 &&& Int64.ofNat 4294967295), .long ((rho 5).toInt64 <<< ((Int8.ofInt 32).toInt32.toInt64 &&& 63)), .long (fd_V (rho 3) (rho 4)), .long (fd_V (rho 1) (rho 2)), .ref kx]) gz_0_560 rfl ?_
  refine ok_s1 (ls' := ls) (st' := [.long (fd_V (rho 5) (rho 6)), .long (fd_V (rho 3) (rho 4)), .long (fd_V (rho 1) (rho 2)), .ref kx]) gz_0_561 rfl ?_
  refine ok_call0 (as := [.ref kx, .long (fd_V (rho 1) (rho 2)), .long (fd_V (rho 3) (rho 4)), .long (fd_V (rho 5) (rho 6))]) (r := []) (v1 := some (.int (nI N))) gz_0_562 (s4_v [.long (fd_V (rho 5) (rho 6)), .long (fd_V (rho 3) (rho 4)), .long (fd_V (rho 1) (rho 2))] (n := 3) (by decide) (by decide +kernel) rfl (by decide +kernel) hx (by decide) (Nat.le_of_ble_eq_true rfl)) dA gz_32_32 rfl ?_
  refine ok_aload_n gz_0_565 l2 rfl ?_
  refine ok_aload_n gz_0_566 l0 rfl ?_
  refine ok_iload gz_0_567 l4 rfl ?_
  refine ok_s1 (ls' := ls) (st' := [.int (Int32.ofInt 1), .int 0, .float 0, .ref km, .int (nI N)]) gz_0_569 rfl ?_
  refine ok_s1 (ls' := ls) (st' := [.int (0 + Int32.ofInt 1), .float 0, .ref km, .int (nI N)]) gz_0_570 rfl ?_
  refine ok_sl gz_0_571 h8 fd_ix8.1 ?_
  refine ok_s1 (ls' := ls) (st' := [.long (rho 1).toInt64, .ref km, .int (nI N)]) gz_0_572 rfl ?_
  refine ok_s1 (ls' := ls) (st' := [.int (Int8.ofInt 32).toInt32, .long (rho 1).toInt64, .ref km, .int (nI N)]) gz_0_573 rfl ?_
  refine ok_s1 (ls' := ls) (st' := [.long ((rho 1).toInt64 <<< ((Int8.ofInt 32).toInt32.toInt64 &&& 63)), .ref km, .int (nI N)]) gz_0_575 rfl ?_
  refine ok_aload_n gz_0_576 l0 rfl ?_
  refine ok_iload gz_0_577 l4 rfl ?_
  refine ok_s1 (ls' := ls) (st' := [.int (Int32.ofInt 2), .int 0, .float 0, .long ((rho 1).toInt64 <<< ((Int8.ofInt 32).toInt32.toInt64 &&& 63)), .ref km, .int (nI N)]) gz_0_579 rfl ?_
  refine ok_s1 (ls' := ls) (st' := [.int (0 + Int32.ofInt 2), .float 0, .long ((rho 1).toInt64 <<< ((Int8.ofInt 32).toInt32.toInt64 &&& 63)), .ref km, .int (nI N)]) gz_0_580 rfl ?_
  refine ok_sl gz_0_581 h8 fd_ix8.2.1 ?_
  refine ok_s1 (ls' := ls) (st' := [.long (rho 2).toInt64, .long ((rho 1).toInt64 <<< ((Int8.ofInt 32).toInt32.toInt64 &&& 63)), .ref km, .int (nI N)]) gz_0_582 rfl ?_
  refine ok_l2 gz_0_583 ?_
  refine ok_s1 (ls' := ls) (st' := [.long ((rho 2).toInt64 &&& Int64.ofNat 4294967295), .long ((rho 1).toInt64 <<< ((Int8.ofInt 32).toInt32.toInt64 &&& 63)), .ref km, .int (nI N)]) gz_0_586 rfl ?_
  refine ok_s1 (ls' := ls) (st' := [.long (fd_V (rho 1) (rho 2)), .ref km, .int (nI N)]) gz_0_587 rfl ?_
  refine ok_aload_n gz_0_588 l0 rfl ?_
  refine ok_iload gz_0_589 l4 rfl ?_
  refine ok_s1 (ls' := ls) (st' := [.int (Int32.ofInt 3), .int 0, .float 0, .long (fd_V (rho 1) (rho 2)), .ref km, .int (nI N)]) gz_0_591 rfl ?_
  refine ok_s1 (ls' := ls) (st' := [.int (0 + Int32.ofInt 3), .float 0, .long (fd_V (rho 1) (rho 2)), .ref km, .int (nI N)]) gz_0_592 rfl ?_
  refine ok_sl gz_0_593 h8 fd_ix8.2.2.1 ?_
  refine ok_s1 (ls' := ls) (st' := [.long (rho 3).toInt64, .long (fd_V (rho 1) (rho 2)), .ref km, .int (nI N)]) gz_0_594 rfl ?_
  refine ok_s1 (ls' := ls) (st' := [.int (Int8.ofInt 32).toInt32, .long (rho 3).toInt64, .long (fd_V (rho 1) (rho 2)), .ref km, .int (nI N)]) gz_0_595 rfl ?_
  refine ok_s1 (ls' := ls) (st' := [.long ((rho 3).toInt64 <<< ((Int8.ofInt 32).toInt32.toInt64 &&& 63)), .long (fd_V (rho 1) (rho 2)), .ref km, .int (nI N)]) gz_0_597 rfl ?_
  refine ok_aload_n gz_0_598 l0 rfl ?_
  refine ok_iload gz_0_599 l4 rfl ?_
  refine ok_s1 (ls' := ls) (st' := [.int (Int32.ofInt 4), .int 0, .float 0, .long ((rho 3).toInt64 <<< ((Int8.ofInt 32).toInt32.toInt64 &&& 63)), .long (fd_V (rho 1) (rho 2)), .ref km, .int (nI N)]) gz_0_601 rfl ?_
  refine ok_s1 (ls' := ls) (st' := [.int (0 + Int32.ofInt 4), .float 0, .long ((rho 3).toInt64 <<< ((Int8.ofInt 32).toInt32.toInt64 &&& 63)), .long (fd_V (rho 1) (rho 2)), .ref km, .int (nI N)]) gz_0_602 rfl ?_
  refine ok_sl gz_0_603 h8 fd_ix8.2.2.2.1 ?_
  refine ok_s1 (ls' := ls) (st' := [.long (rho 4).toInt64, .long ((rho 3).toInt64 <<< ((Int8.ofInt 32).toInt32.toInt64 &&& 63)), .long (fd_V (rho 1) (rho 2)), .ref km, .int (nI N)]) gz_0_604 rfl ?_
  refine ok_l2 gz_0_605 ?_
  refine ok_s1 (ls' := ls) (st' := [.long ((rho 4).toInt64 &&& Int64.ofNat 4294967295), .long ((rho 3).toInt64 <<< ((Int8.ofInt 32).toInt32.toInt64 &&& 63)), .long (fd_V (rho 1) (rho 2)), .ref km, .int (nI N)]) gz_0_608 rfl ?_
  refine ok_s1 (ls' := ls) (st' := [.long (fd_V (rho 3) (rho 4)), .long (fd_V (rho 1) (rho 2)), .ref km, .int (nI N)]) gz_0_609 rfl ?_
  refine ok_aload_n gz_0_610 l0 rfl ?_
  refine ok_iload gz_0_611 l4 rfl ?_
  refine ok_s1 (ls' := ls) (st' := [.int (Int32.ofInt 5), .int 0, .float 0, .long (fd_V (rho 3) (rho 4)), .long (fd_V (rho 1) (rho 2)), .ref km, .int (nI N)]) gz_0_613 rfl ?_
  refine ok_s1 (ls' := ls) (st' := [.int (0 + Int32.ofInt 5), .float 0, .long (fd_V (rho 3) (rho 4)), .long (fd_V (rho 1) (rho 2)), .ref km, .int (nI N)]) gz_0_614 rfl ?_
  refine ok_sl gz_0_615 h8 fd_ix8.2.2.2.2.1 ?_
  refine ok_s1 (ls' := ls) (st' := [.long (rho 5).toInt64, .long (fd_V (rho 3) (rho 4)), .long (fd_V (rho 1) (rho 2)), .ref km, .int (nI N)]) gz_0_616 rfl ?_
  refine ok_s1 (ls' := ls) (st' := [.int (Int8.ofInt 32).toInt32, .long (rho 5).toInt64, .long (fd_V (rho 3) (rho 4)), .long (fd_V (rho 1) (rho 2)), .ref km, .int (nI N)]) gz_0_617 rfl ?_
  refine ok_s1 (ls' := ls) (st' := [.long ((rho 5).toInt64 <<< ((Int8.ofInt 32).toInt32.toInt64 &&& 63)), .long (fd_V (rho 3) (rho 4)), .long (fd_V (rho 1) (rho 2)), .ref km, .int (nI N)]) gz_0_619 rfl ?_
  refine ok_aload_n gz_0_620 l0 rfl ?_
  refine ok_iload gz_0_621 l4 rfl ?_
  refine ok_s1 (ls' := ls) (st' := [.int ((Int8.ofInt 6).toInt32), .int 0, .float 0, .long ((rho 5).toInt64 <<< ((Int8.ofInt 32).toInt32.toInt64 &&& 63)), .long (fd_V (rho 3) (rho 4)), .long (fd_V (rho 1) (rho 2)), .ref km, .int (nI N)]) gz_0_623 rfl ?_
  refine ok_s1 (ls' := ls) (st' := [.int (0 + (Int8.ofInt 6).toInt32), .float 0, .long ((rho 5).toInt64 <<< ((Int8.ofInt 32).toInt32.toInt64 &&& 63)), .long (fd_V (rho 3) (rho 4)), .long (fd_V (rho 1) (rho 2)), .ref km, .int (nI N)]) gz_0_625 rfl ?_
  refine ok_sl gz_0_626 h8 fd_ix8.2.2.2.2.2 ?_
  refine ok_s1 (ls' := ls) (st' := [.long (rho 6).toInt64, .long ((rho 5).toInt64 <<< ((Int8.ofInt 32).toInt32.toInt64 &&& 63)), .long (fd_V (rho 3) (rho 4)), .long (fd_V (rho 1) (rho 2)), .ref km, .int (nI N)]) gz_0_627 rfl ?_
  refine ok_l2 gz_0_628 ?_
  refine ok_s1 (ls' := ls) (st' := [.long ((rho 6).toInt64 &&& Int64.ofNat 4294967295), .long ((rho 5).toInt64 <<< ((Int8.ofInt 32).toInt32.toInt64 &&& 63)), .long (fd_V (rho 3) (rho 4)), .long (fd_V (rho 1) (rho 2)), .ref km, .int (nI N)]) gz_0_631 rfl ?_
  refine ok_s1 (ls' := ls) (st' := [.long (fd_V (rho 5) (rho 6)), .long (fd_V (rho 3) (rho 4)), .long (fd_V (rho 1) (rho 2)), .ref km, .int (nI N)]) gz_0_632 rfl ?_
  have hkm : ∃ gs, hA[km]? = some (.inr (10, gs)) := by
    obtain ⟨gs, e0, vs, u1, u2, u3, u4, u5⟩ := hU2
    exact ⟨gs, u1⟩
  obtain ⟨gs, hkm⟩ := hkm
  refine ok_call0 (as := [.ref km, .long (fd_V (rho 1) (rho 2)), .long (fd_V (rho 3) (rho 4)), .long (fd_V (rho 5) (rho 6))]) (r := [.int (nI N)]) (v1 := some (.int (nI N))) gz_0_633 (s4_v [.long (fd_V (rho 5) (rho 6)), .long (fd_V (rho 3) (rho 4)), .long (fd_V (rho 1) (rho 2))] (n := 3) (by decide) (by decide +kernel) rfl (by decide +kernel) hkm (Nat.le_of_ble_eq_true rfl) (Nat.le_of_ble_eq_true rfl)) dB gz_144_25 rfl ?_
  refine ok_icT gz_0_636 (t := 1906) (by decide +kernel) (by simp [mx_cmp]) ?_
  refine ok_iinc gz_0_1906 l4 (by decide +kernel) ?_
  refine ok_goto gz_0_1909 (t := 23) (by decide +kernel) ?_
  refine ok_iload gz_0_23 m4 rfl ?_
  refine ok_aload_n gz_0_25 m0 rfl ?_
  refine ok_slen gz_0_26 e8 ?_
  refine ok_s1 (ls' := mx_put1 ls 4 (.int (0 + Int32.ofInt 8))) (st' := [.int (Int8.ofInt 8).toInt32, .int 8, .int (0 + Int32.ofInt 8)]) gz_0_27 rfl ?_
  refine ok_s1 (ls' := mx_put1 ls 4 (.int (0 + Int32.ofInt 8))) (st' := [.int (8 - (Int8.ofInt 8).toInt32), .int (0 + Int32.ofInt 8)]) gz_0_29 rfl ?_
  refine ok_icT gz_0_30 (t := 1912) (by decide +kernel) (by decide +kernel) ?_
  exact ok_s1 (ls' := mx_put1 ls 4 (.int (0 + Int32.ofInt 8))) (st' := [.int 1]) gz_0_1912 rfl mx_Ok.rf
end
noncomputable def fd_cls (h : mf_H) (k c : Nat) : Option (List Value) := match fh_nth h k with
  | some (.inr q) => bif Nat.beq q.1 c then some q.2 else none
  | _ => none
noncomputable def fd_arr (h : mf_H) (k t n : Nat) : Bool := match fh_nth h k with
  | some (.inl q) => Nat.beq q.1 t && Nat.beq q.2.1 n
  | _ => false
def fd_is0 : Option Value → Bool
  | some (.int x) => decide (x = nI 0)
  | _ => false
def fd_rf : Option Value → Option Nat
  | some (.ref k) => some k
  | _ => none
theorem fd_cls_s {h : mf_H} (hk : fh_ok h) {k c : Nat} {fs : List Value} (e : fd_cls h k c = some fs) : h.flatten[k]? = some (.inr (c, fs)) := by
  unfold fd_cls at e
  rw [fh_nth_eq h hk] at e
  split at e
  next q hq =>
    cases hb : Nat.beq q.1 c with
    | true =>
      rw [hb] at e
      simp only [cond_true, Option.some.injEq] at e
      rw [hq, ← Nat.eq_of_beq_eq_true hb, ← e]
    | false => rw [hb] at e; cases e
  next => cases e
theorem fd_arr_s {h : mf_H} (hk : fh_ok h) {k t n : Nat} (e : fd_arr h k t n = true) : ∃ (d0 : Value) (us : List (Nat × Value)), h.flatten[k]? = some (.inl (t, n, d0, us)) := by
  unfold fd_arr at e
  rw [fh_nth_eq h hk] at e
  split at e
  next q hq =>
    simp only [Bool.and_eq_true] at e
    exact ⟨q.2.2.1, q.2.2.2, by rw [hq, ← Nat.eq_of_beq_eq_true e.1, ← Nat.eq_of_beq_eq_true e.2]⟩
  next => cases e
theorem fd_is0_s {v : Option Value} (e : fd_is0 v = true) : v = some (.int (nI 0)) := by
  unfold fd_is0 at e
  split at e
  next x => rw [of_decide_eq_true e]
  next => cases e
theorem fd_rf_s {v : Option Value} {k : Nat} (e : fd_rf v = some k) : v = some (.ref k) := by
  unfold fd_rf at e
  split at e
  next x => cases e; rfl
  next => cases e
noncomputable def fd_chk (h : mf_H) (ls : mx_L) : Bool := match fd_rf (mx_look ls 1), fd_rf (mx_look ls 2) with
  | some kx, some km => (match fd_cls h kx 9, fd_cls h km 10 with
    | some fx, some fm => (match fd_rf fx[7]?, fd_rf fm[1]? with
      | some kr, some ku => Nat.beq fm.length 67 && fd_is0 fm[2]? && fd_arr h ku 0 1000 && (match fd_cls h kr 5 with
        | some fr => Nat.beq fr.length 10 && fd_is0 fr[4]? && (match fd_rf fr[3]? with
          | some kt => fd_arr h kt 3 1000
          | none => false)
        | none => false)
      | _, _ => false)
    | _, _ => false)
  | _, _ => false
theorem fd_chk_s {h : mf_H} {ls : mx_L} (hk : fh_ok h) (e : fd_chk h ls = true) : ∃ (kx kr kt km ku : Nat) (fx : List Value), mx_look ls 1 = some (.ref kx) ∧ mx_look ls 2 = some (.ref km) ∧ h.flatten[kx]? = some (.inr (9, fx)) ∧ fx[7]? = some (.ref kr) ∧ fd_T h.flatten kr kt 0 ∧ fd_U h.flatten km ku 0 := by
  unfold fd_chk at e
  split at e
  next kx km h1 h2 =>
    split at e
    next fx fm h3 h4 =>
      split at e
      next kr ku h5 h6 =>
        simp only [Bool.and_eq_true] at e
        obtain ⟨⟨⟨e1, e2⟩, e3⟩, e⟩ := e
        split at e
        next fr h7 =>
          simp only [Bool.and_eq_true] at e
          obtain ⟨⟨e4, e5⟩, e⟩ := e
          split at e
          next kt h8 =>
            obtain ⟨d0, us, e9⟩ := fd_arr_s hk e
            obtain ⟨d1, vs, e10⟩ := fd_arr_s hk e3
            exact ⟨kx, kr, kt, km, ku, fx, fd_rf_s h1, fd_rf_s h2, fd_cls_s hk h3, fd_rf_s h5, ⟨fr, d0, us, fd_cls_s hk h7, Nat.eq_of_beq_eq_true e4, fd_rf_s h8, fd_is0_s e5, e9⟩, ⟨fm, d1, vs, fd_cls_s hk h4, Nat.eq_of_beq_eq_true e1, fd_rf_s h6, fd_is0_s e2, e10⟩⟩
          next => cases e
        next => cases e
      next => cases e
    next => cases e
  next => cases e
noncomputable def mz_K6 : mf_K := fun env h pc ls st => bif Nat.beq pc 33 then mz_at33 env ls st && (fd_chk h ls && (Nat.ble h.flatten.length 600000 && Nat.ble (mx_sz h.flatten) 7000000)) else mz_Kend env h pc ls st
theorem mz_fin1 {p : Program} {l : Launch} {e : Env} {s : State} {m : MethodId} {below : List Frame} {meth : Method} {c : Code} {b : Nat} {D : va_G} {tys : List (ClassId × FieldType)} {sg : Nat → Nat} {rho : Nat → Int32} {h : mx_H} {pc a1 b1 w1 : Nat} {ls : mx_L} {H : Heap} {locs : List Loc} {ws : va_W} {sl : Array Slot} {stk : List Value} {cells slots : Nat}
    (hFr : mx_Fr mz_P mz_G mz_tb s.heap.size D tys sg rho p room_1 s m #[Value.ref b] meth c 30 0) (hI : mx_In mz_P s.heap.size D tys sg rho s H locs 0 ws h ls [.int 1] sl stk) (hi : mz_pg 0 pc = some (.ireturn, a1, b1, w1)) (hc : cells ≤ 600002) (hs : slots ≤ 7302232) :
    W p l e room_1 s m #[Value.ref b] below meth c H locs cells slots (lw_Z below #[Value.ref b] s) (F0 m pc sl stk) := by
  obtain ⟨hdc, -⟩ := mz_hPg 0 pc _ hi
  obtain ⟨hP, hD, hS, hM, hl, hst⟩ := hI
  obtain ⟨w, rr, e1, hw, hr⟩ := hst.c
  have e2 := hr.n
  subst e2; subst e1
  simp only [mx_R] at hw
  subst hw
  refine va_forget hS.2.2 ?_
  refine W.widen (k := 600002) (n := 7302232) (by omega) (by omega) ?_
  exact lw_ret hFr.1 hFr.2.1 hFr.2.2.1 hFr.2.2.2.2.2.2.2.1 (hdc.of rfl)
set_option maxHeartbeats 1000000 in
theorem mz_feed {p : Program} {l : Launch} {e : Env} {s : State} {m : MethodId} {below : List Frame} {meth : Method} {c : Code} {b L : Nat} {xs : Nat → Int32} (hL : L ≤ 8) (C0 : lw_At p s m meth c b L xs)
    (hrun : mf (mz_x [33]) 3000 30 (mz_env (-2147483648) 2147483647) [] 0 0 [(0, .float 0)] [] mz_K6 = true) (htg : mz_tgt (xs 0 &&& 31) 494) :
    W p l e room_1 s m #[Value.ref b] below meth c s.heap [] 0 0 (lw_Z below #[Value.ref b] s) (entryFrame m ([Value.ref b] : List Value).toArray 7) := by
  obtain ⟨D, tys, sg, hsg, hFr, sl, hef, hI⟩ := mz_entry hL C0
  rw [hef]
  obtain ⟨env1, f1, pc1, ls1, st1, mc1, ms1, hf1, hK1, he1, hg1, hOk1⟩ := mz_runs (l := l) (mz_x [33]) (mz_hPgx _) mz_fh0 hrun (mz_henv hL (mz_full _))
  simp only [List.flatten_nil, List.length_nil, mx_sz, Nat.zero_add] at hg1
  unfold mz_K6 at hK1
  cases hp : Nat.beq pc1 33 with
  | true =>
    rw [hp] at hK1
    simp only [cond_true, Bool.and_eq_true] at hK1
    have hp33 := Nat.eq_of_beq_eq_true hp
    subst hp33
    obtain ⟨rfl, g0, g4, g8⟩ := mz_at33_spec hK1.1
    have u1 := Nat.le_of_ble_eq_true hK1.2.2.1
    have u2 := Nat.le_of_ble_eq_true hK1.2.2.2
    obtain ⟨kx, kr, kt, km, ku, fx, y1, y2, y3, y4, y5, y6⟩ := fd_chk_s hf1 hK1.2.1
    have hr := he1 8 _ g8
    dsimp only at hr
    obtain ⟨h2, ls2, hOk2⟩ := fd_law (l := l) (rho := mz_rho L xs) (d := 28) (Int.le_antisymm hr.2 hr.1) g0 y1 y2 g4 y3 y4 y5 y6
    refine hOk1 p e room_1 s m _ below meth c s.heap [] 0 0 _ sl [] [] s.heap.size D tys sg hFr hI (by show 0 + mc1 ≤ 600002; omega) (by show 0 + ms1 ≤ 7302232; omega) (fun H' locs' sl' stk' ws' pre hI' => ?_)
    refine mz_sw hsg hFr hI' he1 g0 g4 g8 htg (fun hI3 => ?_)
    refine hOk2 p e room_1 s m _ below meth c H' locs' (0 + mc1) (0 + ms1) _ sl' [] ws' s.heap.size D tys sg hFr hI3 (by show 0 + mc1 + 0 ≤ 600002; omega) (by show 0 + ms1 + 0 ≤ 7302232; omega) (fun H2 locs2 sl2 stk2 ws2 pre2 hI2 => ?_)
    exact mz_fin1 hFr hI2 gz_0_1913 (by omega) (by omega)
  | false =>
    rw [hp] at hK1
    simp only [cond_false] at hK1
    obtain ⟨u1, u2⟩ := mz_bounds hK1
    refine hOk1 p e room_1 s m _ below meth c s.heap [] 0 0 _ sl [] [] s.heap.size D tys sg hFr hI (by show 0 + mc1 ≤ 600002; omega) (by show 0 + ms1 ≤ 7302232; omega) (fun H' locs' sl' stk' ws' pre hI' => ?_)
    exact mz_fin hFr hI' hK1 (by omega) (by omega)
end MZG
