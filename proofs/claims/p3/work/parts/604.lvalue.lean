/-! the law's own value: where the class answers, and both together -/
section MRV
theorem dw_10 : decode method_3_code 10 = .ok (.i2l, 1) := by decide +kernel
theorem dw_11 : decode method_3_code 11 = .ok (.lastore, 1) := by decide +kernel
theorem dw_12 : decode method_3_code 12 = .ok (.goto 7, 3) := by decide +kernel
theorem dw_19 : decode method_3_code 19 = .ok (.iconst 0, 1) := by decide +kernel
theorem dw_20 : decode method_3_code 20 = .ok (.ireturn, 1) := by decide +kernel
theorem dz_686 : decode code 686 = .ok (.invokestatic 60, 3) := by decide +kernel
set_option maxHeartbeats 2000000 in
/-- the law's own value: it writes what the class answers, and answers 0 -/
theorem vv_law2 {l : Launch} {n0 : Nat} {D : va_G} {tys : List (ClassId × FieldType)} {sg : Nat → Nat} {rho : Nat → Int32} {ws : va_W} {h h1 : mx_H} {kx ko qx qo : Nat} {c1 c2 c3 : Value} {w1 w2 w3 r : Int32} {fx : List Value} {ls1 : mx_L} {st1 : List Value} {pc1 : Nat} {i1 : mx_I} {dd : Value} {us : List (Nat × Value)}
    (hOk : mx_Ok l mz_P mz_G mz_tb rho 20 142 0 (mx_args 0 [.ref kx, c1, c2, c3]) [] h pc1 ls1 st1 h1 0 0) (hpg1 : mz_pg 142 pc1 = some i1) (hrv : mx_rv i1.1 (mz_mt 142).2.2.2.1 st1 = some (some (.int r))) (hD : va_D (fun q => n0 ≤ q) ws) (hM : mx_S sg rho tys ws h) (hkx : h[kx]? = some (.inr (9, fx)))
    (has : mx_F2 (mx_R (ws.map Prod.fst) sg rho) [.ref kx, c1, c2, c3] [.ref qx, .int w1, .int w2, .int w3]) (hi1 : mx_isI c1 = true) (hi2 : mx_isI c2 = true) (hi3 : mx_isI c3 = true) (hqo : (ws.map Prod.fst)[ko]? = some qo) (hko : h1[ko]? = some (.inl (2, 1, dd, us))) :
    Met l vv_y (Cond.codeWith vv_y method_3_code 6 (some .int) vv_hh :: mz_tb) ({ frames := 21, cells := 0, slots := 0, locals := 1260 }) (mx_Pc mz_P mz_G n0 D tys sg rho ws [.ref qx, .int w1, .int w2, .int w3, .ref qo]) (mx_Qc mz_P n0 D tys sg rho ws (h1.set ko (.inl (2, 1, dd, mx_up dd us (0 : Int32).toNatClampNeg (.long r.toInt64)))) (some (.int 0))) 0 0 (fun q => n0 ≤ q) := by
  refine va_MetW (cc := method_3_code) (maxL := 6) (ret := some .int) (hh := vv_hh) (by decide) rfl ?_
  intro p e s m args below meth c s₁ B hml hv
  obtain ⟨rfl, hn0, hP, hWd, hSc⟩ := hv
  have hx := B.exec
  have hb := B.bytes
  have hr := B.returns
  have hts0 := atoms_spec B.pre
  have hts : ∀ w ∈ mz_tb, w.before [Value.ref qx, .int w1, .int w2, .int w3, .ref qo].toArray s = true := fun w hw => hts0 w (List.mem_cons_of_mem _ hw)
  have hown : s.vm.findClass "ThroughWindowLaw" = some m.cls := findClass_of_methodNamed B.named
  rw [lg_entry_eq]
  have hl0 := lv_entry ([.ref qx, .int w1, .int w2, .int w3, .ref qo] : List Value) (n := 6) (Nat.le_of_ble_eq_true rfl)
  generalize (lg_sl ([.ref qx, .int w1, .int w2, .int w3, .ref qo]) ++ List.replicate (6 - (lg_sl ([.ref qx, .int w1, .int w2, .int w3, .ref qo])).length) Slot.unset).toArray = ls at hl0 ⊢
  have hl0 : lv_has ls 6 [(0, .ref qx), (1, .int w1), (2, .int w2), (3, .int w3), (4, .ref qo)] := hl0
  have hS : va_S (fun q => n0 ≤ q) s.heap s.heap [] := va_S.rf
  refine lv_aload hx hb dw_0 (lv_at hl0 4 rfl) ?_
  refine lv_iconst (v := 0) hx hb dw_2 (by decide) ?_
  refine lv_aload_n hx hb dw_3 rfl (lv_at hl0 0 rfl) ?_
  refine lv_iload_n hx hb dw_4 rfl (lv_at hl0 1 rfl) ?_
  refine lv_iload_n hx hb dw_5 rfl (lv_at hl0 2 rfl) ?_
  refine lv_iload_n hx hb dw_6 rfl (lv_at hl0 3 rfl) ?_
  obtain ⟨k1, k2, k3⟩ := mz_k1 (b := 142) (by decide) (by decide) (by decide +kernel)
  have hMe := mz_me (b := 142) (by decide) (by decide)
  have hcat : ([Value.ref kx, c1, c2, c3].map mx_cat).sum ≤ 4 := by
    have e1 : mx_cat c1 = 1 := by cases c1 <;> simp [mx_isI] at hi1 <;> rfl
    have e2 : mx_cat c2 = 1 := by cases c2 <;> simp [mx_isI] at hi2 <;> rfl
    have e3 : mx_cat c3 = 1 := by cases c3 <;> simp [mx_isI] at hi3 <;> rfl
    simp only [List.map_cons, List.map_nil, List.sum_cons, List.sum_nil, e1, e2, e3]
    exact Nat.le_of_ble_eq_true rfl
  have hrecv : ∃ cell : Cell, s.heap[qx]? = some cell ∧ cell.vm.isStatics = false ∧ s.vm.findClass "ThroughWindow" = some cell.cls := by
    obtain ⟨q', e0, u1, u2, vs, rfl, u3⟩ := hM.at hkx
    obtain ⟨q, hq, hw⟩ := has.1
    cases hw
    cases hq.symm.trans u2
    exact va_recv (q := ("ThroughWindow", mz_T9, 15)) hWd.1 hP rfl u1
  have hMet := mx_met (P := mz_P) (G := mz_G) (tb := mz_tb) (b := 142) (n0 := n0) (D := D) (vals := [.ref qx, .int w1, .int w2, .int w3]) hMe hOk (mz_hPg 142 pc1 _ hpg1).1 hrv hD hM has hcat
  refine mx_callW (P := mz_P) (pc := 7) (va_runV (g := F0 m 7 ls [.int w3, .int w2, .int w1, .ref qx, .int 0, .ref qo]) (b := qx) (C := "ThroughWindow") (As := [.int w1, .int w2, .int w3]) (rest := [.int 0, .ref qo]) ⟨hx, hb, hml, hown, hts⟩ hMet
    ⟨callB_of (ws' := mz_tb) 3 hts (mx_goodIn mz_good (fun w hw => (List.mem_cons.mp hw).elim (fun e => e ▸ hMe.1) (fun h => h))) rfl rfl rfl (hts _ hMe.2.1) (hts (Cond.methodLink "ThroughWindowLaw" 7 (mz_mt 142).1) (vv_lk _ (by simp))) hMe.2.2.2.1 ⟨Nat.le_of_ble_eq_true rfl, Nat.le_of_ble_eq_true rfl⟩, hts _ k2, hts _ k3⟩
    ⟨mx_Pc.blind, hrecv, fun U hU hW => ⟨rfl, by rw [hU]; exact hn0, by rw [hU]; exact hP, hWd.moved hW, hSc.moved hW (fun a ha => by rw [hU])⟩⟩ rfl rfl hl0.1 rfl (lv_room (Nat.le_of_ble_eq_true rfl)) dw_7 ⟨Nat.le_of_ble_eq_true rfl, Nat.le_of_ble_eq_true rfl⟩) hS (fun v ws' H1 locs1 hv hP1 hD1 hS1 pre1 hM1 => ?_)
  have hv' : v = some (.int r) := by
    cases v with
    | none => exact hv.elim
    | some z => have := hv.1; simp only [mx_R] at this; rw [this]
  subst hv'
  refine lv_i2l hx hb dw_10 rfl ?_
  obtain ⟨be, pre⟩ := pre1
  have hqo1 : (ws'.map Prod.fst)[ko]? = some qo := by
    rw [pre, List.getElem?_append_left (List.getElem?_eq_some_iff.mp hqo).1]
    exact hqo
  obtain ⟨q', e0, u1, u2, u3⟩ := hM1.at hko
  cases hqo1.symm.trans u2
  obtain ⟨cA, ty, x1, hT, rfl, hRA⟩ := u3
  have hty2 := mx_isTy_spec (P := mz_P) (ty := .long) hWd.2.1 rfl hT
  subst hty2
  obtain ⟨f, rfl, hf⟩ := hRA
  refine va_last hx hb hWd.1 hP1 hD1 hS1 ko 2 u1 hT (i := 0) (mx_idx_spec (show mx_idx 1 (0 : Int32) = some 0 from rfl)).1 dw_11 (fun H2 locs2 hP2 hD2 hS2 => ?_)
  refine lv_goto hx hb dw_12 (tgt := 19) (by decide) ?_
  refine lv_iconst (v := 0) hx hb dw_19 (by decide) ?_
  refine W.iret hx hb hr (fun t2 ht2 hW2 => ⟨some (.int 0), _, rfl, ⟨rfl, trivial⟩, by rw [ht2]; exact hP2, hD2, ⟨be, by rw [mx_map_set u1]; exact pre⟩, hM1.set u1 ⟨cA, _, _, hT, rfl, _, rfl, fun i hi => ?_⟩, hS2.F ht2⟩) hS2.2.2 dw_20
  rw [mx_at_up]
  unfold vp_updL
  split
  · rfl
  · exact hf i hi
variable {p : Program} {l : Launch} {e : Env} {s : State} {m : MethodId} {below : List Frame} {meth : Method} {c : Code} {b : Nat} {D : va_G} {tys : List (ClassId × FieldType)} {sg : Nat → Nat} {rho : Nat → Int32} {ls : List my_V} {h : my_H} {kn : Nat}
theorem my_lval (x : Int64) : ∃ y : Int, my_in (1, y) ∧ my_val (1, y) = .long x := ⟨x.toInt, my_fullJ x, by
  show Value.long (Int64.ofInt _) = _
  rw [Int64.ofInt_toInt]⟩
theorem my_el1 {o y lo hi : Int} (h : my_in (1, y)) : my_el (1, lo, hi) o y := h
theorem my_cl0 : (0 : Int32).toNatClampNeg = 0 := by decide
theorem lw_wsS {w : Cond} (hw : w ∈ va_wsS (mx_mt mz_P 0).1.cls 60 vv_y (Cond.codeWith vv_y method_3_code 6 (some .int) vv_hh :: mz_tb)) : w ∈ mz_tb := by
  unfold va_wsS at hw
  rcases List.mem_append.mp hw with hw | hw
  · simp only [List.mem_cons, List.not_mem_nil, or_false] at hw
    have ec : (mx_mt mz_P 0).1.cls = "ThroughWindowLaw" := rfl
    rw [ec] at hw
    rcases hw with rfl | rfl | rfl
    · exact vv_lk _ (by simp)
    · exact vv_lk _ (by simp)
    · exact vv_lk _ (by simp [vv_y])
  · rcases List.mem_cons.mp hw with rfl | hw
    · exact vv_lk _ (by simp)
    · exact hw
set_option maxHeartbeats 4000000 in
/-- the law's case of value, at its call -/
theorem lw_value (hst : l.stackTraces = false) {x1 x2 x3 : Int} (hkn : kn + 1 ≤ 512) (hV : vv_W s.heap.size s s.heap) (k0 : ∀ h' : my_H, my_fr [(102, -1)] h h' → lwp p l e s m below meth c b D tys sg rho 689 ls [(0, 0)] h' kn) (k1 : lwp p l e s m below meth c b D tys sg rho 689 ls [(0, 1)] h (kn + 1)) : lwp p l e s m below meth c b D tys sg rho 686 ls [(2, 203), (0, x3), (0, x2), (0, x1), (2, 0)] h kn := by
  intro a1 a2 L H Hh locs cells slots sl stk ws hFr hk b1 b2 b4 b5 hI
  obtain ⟨hP, hD, hS, hM, ⟨lv, hl1, hl2⟩, hst2⟩ := id hI
  obtain ⟨hx, hb, hr0, hml, hown, hts, hnm, hlk, hfr, hlo, hWd, hn0, hSc⟩ := id hFr
  have hst2 : mx_F2 (mx_R (ws.map Prod.fst) sg rho) [.ref 203, .int (Int32.ofInt x3), .int (Int32.ofInt x2), .int (Int32.ofInt x1), .ref 0] stk := hst2
  obtain ⟨wo, r1, rfl, hwo, hs1⟩ := hst2.c
  obtain ⟨v3, r2, rfl, hv3, hs2⟩ := hs1.c
  obtain ⟨v2, r3, rfl, hv2, hs3⟩ := hs2.c
  obtain ⟨v1, r4, rfl, hv1, hs4⟩ := hs3.c
  obtain ⟨vx, r5, rfl, hvx, hs5⟩ := hs4.c
  have e5 := hs5.n
  subst e5
  obtain ⟨w3, rfl⟩ := hv3.i rfl
  obtain ⟨w2, rfl⟩ := hv2.i rfl
  obtain ⟨w1, rfl⟩ := hv1.i rfl
  obtain ⟨qo, hqo, rfl⟩ := hwo
  obtain ⟨qx, hqx, rfl⟩ := id hvx
  obtain ⟨fx, hkx, -, -⟩ := b2.obj is_0 rd_9
  have c3 := a2.c.2.c
  have c2 := c3.2.c
  have c1 := c2.2.c
  have c0 := c1.2.c
  have hall : my_all [(2, 0), (0, x1), (0, x2), (0, x3)] := c0.1 |> fun z => my_all.p z (my_all.p c1.1 (my_all.p c2.1 (my_all.p c3.1 (fun _ hv => by cases hv))))
  have hb' : c.code = code := hb
  rcases q_value (l := l) (rho := rho) (d := 18) (h := h) (x1 := x1) (x2 := x2) (x3 := x3) (my_lay_all _ 0 hall) (fun _ hv => by cases hv) (mx_args 0 (([(2, 0), (0, x1), (0, x2), (0, x3)] : List my_V).map my_val)) H (my_lay_LR [(2, 0), (0, x1), (0, x2), (0, x3)] 0) b2 with ⟨L1, H1, ok, hR1⟩ | ⟨pc1, L1, st1, H1, i1, z, ok, hpg1, hrv, hz, hR1⟩
  · have hMet := vv_law (l := l) (D := D) (kx := 0) (qo := qo) (h := H) hst ok hD hM hkx ⟨hvx, hv1, hv2, hv3, trivial⟩ rfl rfl rfl
    refine mx_callW (P := mz_P) (pc := 686) (vx_runSW (g := F0 m 686 sl [.ref qo, .int w3, .int w2, .int w1, .ref qx]) (As := [.ref qx, .int w1, .int w2, .int w3, .ref qo]) (rest := []) ⟨hx, hb', hml, hown, hts⟩ hMet
      (vx_cwSW (ws' := mz_tb) 5 hts (mx_goodIn mz_good (fun w hw => lw_wsS hw)) rfl rfl rfl (by decide +kernel) ⟨Nat.le_of_ble_eq_true rfl, Nat.le_of_ble_eq_true rfl⟩)
      ⟨vv_Pc.blind, fun U hU hW => ⟨⟨rfl, by rw [hU]; exact hS.1, by rw [hU]; exact hP, hWd.moved hW, ?_⟩, hV.moved hW (fun q q1 q2 => by rw [hU]; exact hS.2.1 q q1 q2)⟩⟩ rfl rfl hl1.1 rfl (lv_room (Nat.le_of_ble_eq_true rfl)) dz_686 ⟨by show cells + 1 ≤ 601024; omega, by show slots + 6 ≤ 7293034; omega⟩) hS (fun v ws3 H3 locs3 hv hP3 hD3 hS3 pre3 hM3 => ?_)
    · exact hSc.moved hW (fun a ha => by rw [hU]; exact hS.2.1 _ (Nat.lt_of_lt_of_le ha hn0) (Nat.not_le.mpr ha))
    · have hv' : v = some (.int 1) := by
        cases v with
        | none => exact hv.elim
        | some z => have := hv.1; simp only [mx_R] at this; rw [this]
      subst hv'
      refine k1 a1 (my_all.p (v := (0, 1)) ⟨by decide, by decide⟩ (fun _ hv => by cases hv)) L H1 H3 locs3 _ _ sl [.int 1] ws3 hFr hkn b1 hR1 (by omega) (by omega) ⟨hP3, hD3, hS3, hM3, ?_, ⟨rfl, trivial⟩⟩
      obtain ⟨be, pre3⟩ := pre3
      rw [pre3]
      exact ⟨lv, hl1, hl2.imp (fun _ _ r => ⟨r.1, r.2.mono _⟩)⟩
  · obtain ⟨dd, us, hko, -⟩ := hR1.arr is_203 rd_102
    have hMet := vv_law2 (l := l) (D := D) (kx := 0) (ko := 203) (qo := qo) (h := H) ok hpg1 hrv hD hM hkx ⟨hvx, hv1, hv2, hv3, trivial⟩ rfl rfl rfl hqo hko
    refine mx_callW (P := mz_P) (pc := 686) (vx_runSW (g := F0 m 686 sl [.ref qo, .int w3, .int w2, .int w1, .ref qx]) (As := [.ref qx, .int w1, .int w2, .int w3, .ref qo]) (rest := []) ⟨hx, hb', hml, hown, hts⟩ hMet
      (vx_cwSW (ws' := mz_tb) 5 hts (mx_goodIn mz_good (fun w hw => lw_wsS hw)) rfl rfl rfl (by decide +kernel) ⟨Nat.le_of_ble_eq_true rfl, Nat.le_of_ble_eq_true rfl⟩)
      ⟨mx_Pc.blind, fun U hU hW => ⟨rfl, by rw [hU]; exact hS.1, by rw [hU]; exact hP, hWd.moved hW, ?_⟩⟩ rfl rfl hl1.1 rfl (lv_room (Nat.le_of_ble_eq_true rfl)) dz_686 ⟨by show cells + 0 ≤ 601024; omega, by show slots + 0 ≤ 7293034; omega⟩) hS (fun v ws3 H3 locs3 hv hP3 hD3 hS3 pre3 hM3 => ?_)
    · exact hSc.moved hW (fun a ha => by rw [hU]; exact hS.2.1 _ (Nat.lt_of_lt_of_le ha hn0) (Nat.not_le.mpr ha))
    · have hv' : v = some (.int 0) := by
        cases v with
        | none => exact hv.elim
        | some z => have := hv.1; simp only [mx_R] at this; rw [this]
      subst hv'
      obtain ⟨y, hy1, hy2⟩ := my_lval (Int32.ofInt z).toInt64
      have hU2 := hR1.upA (i := 0) (e := (1, -9223372036854775808, 9223372036854775807)) (y := y) is_203 rd_102 hko rfl (my_el1 hy1)
      rw [my_cl0, ← hy2] at hM3
      refine k0 _ (my_fr.rf.up is_203 rfl rfl) a1 (my_all.p (v := (0, 0)) ⟨by decide, by decide⟩ (fun _ hv => by cases hv)) L _ H3 locs3 _ _ sl [.int 0] ws3 hFr hk b1 hU2 (by omega) (by omega) ⟨hP3, hD3, hS3, hM3, ?_, ⟨rfl, trivial⟩⟩
      obtain ⟨be, pre3⟩ := pre3
      rw [pre3]
      exact ⟨lv, hl1, hl2.imp (fun _ _ r => ⟨r.1, r.2.mono _⟩)⟩
end MRV
