/-! value: the class throws, the law's own method catches -/
section MZV
def vv_N : String := "java/util/NoSuchElementException"
def vv_ns : List String := ["java/lang/RuntimeException", "java/lang/Exception"]
def vv_y : MethodName := ⟨"ThroughWindowLaw", "value", "(LThroughWindow;III[J)I"⟩
def vv_hh : List (Nat × Nat × Nat × Nat) := [(0, 12, 15, 13)]
def vv_B : List Cond := [.declares ⟨"java/lang/RuntimeException", "<init>", "()V"⟩, .declares ⟨"java/lang/Exception", "<init>", "()V"⟩, .declares ⟨"java/lang/Throwable", "<init>", "()V"⟩, .castable vv_N vv_N]
theorem vv_g : ∀ w ∈ (vx_at0 "ThroughWindow" 159 vv_N vv_ns).filter goodWord, w ∈ lw_tbl := by decide +kernel
theorem vv_b : ∀ w ∈ (vx_at0 "ThroughWindow" 159 vv_N vv_ns).filter (fun w => !goodWord w), w ∈ vv_B := by decide +kernel
theorem vv_bt : ∀ w ∈ vv_B, w ∈ lw_tbl := by decide +kernel
theorem vv_ot : ∀ w ∈ Cond.classLink "ThroughWindow" 157 vv_N :: Cond.initialized vv_N :: vx_at0 "ThroughWindow" 159 vv_N vv_ns, vx_ot w = true := by decide +kernel
theorem vv_lk : ∀ w ∈ [Cond.classLink "ThroughWindow" 157 vv_N, Cond.initialized vv_N, Cond.classLink "ThroughWindowLaw" 13 vv_N, Cond.methodLink "ThroughWindowLaw" 7 (mz_mt 142).1, Cond.methodLink "ThroughWindowLaw" 60 vv_y, Cond.static vv_y, Cond.codeWith vv_y method_3_code 6 (some .int) vv_hh, Cond.initialized "ThroughWindowLaw"], w ∈ mz_tb := by decide +kernel
theorem vv_st : Cond.laysStatic Bundle.tN "UNASSIGNED_STACK" Bundle.steD ∈ lw_tbl ∧ Cond.laysStatic Bundle.tN "SUPPRESSED_SENTINEL" Bundle.listD ∈ lw_tbl ∧ Cond.initialized Bundle.tN ∈ lw_tbl := by decide +kernel
theorem vv_sr : Cond.isRef (.static Bundle.tN "UNASSIGNED_STACK" Bundle.steD) ∈ flatC (Jvm.Cond.and given_1 narrow_1) ∧ Cond.isRef (.static Bundle.tN "SUPPRESSED_SENTINEL" Bundle.listD) ∈ flatC (Jvm.Cond.and given_1 narrow_1) := by decide +kernel
/-- what a throw wants of the tables and the statics -/
def vv_W (n0 : Nat) (U : State) (H : Heap) : Prop := (∀ w ∈ vv_B, va_Nw w U) ∧ vx_Zq Bundle.tN "UNASSIGNED_STACK" Bundle.steD (fun q => n0 ≤ q) U H ∧ vx_Zq Bundle.tN "SUPPRESSED_SENTINEL" Bundle.listD (fun q => n0 ≤ q) U H
theorem vv_W.moved {n0 : Nat} {s U : State} {H H1 : Heap} (hW : s.WarmedH U.vm) (hH : ∀ q : Nat, q < H.size → ¬ n0 ≤ q → H1[q]? = H[q]?) (h : vv_W n0 s H) : vv_W n0 U H1 := by
  refine ⟨fun w hw => ?_, vx_Zq.kept (vx_Zq.moved hW.alike h.2.1) hH, vx_Zq.kept (vx_Zq.moved hW.alike h.2.2) hH⟩
  have h1 := h.1 w hw
  simp only [vv_B, List.mem_cons, List.not_mem_nil, or_false] at hw
  rcases hw with rfl | rfl | rfl | rfl
  · exact va_Nw.warmD hW h1
  · exact va_Nw.warmD hW h1
  · exact va_Nw.warmD hW h1
  · exact va_Nw.warmC hW h1
theorem vv_of {args : Array Value} {s : State} (hts : ∀ w ∈ lw_tbl, w.before args s = true) (hgv : (Jvm.Cond.and given_1 narrow_1).before args s = true) : vv_W s.heap.size s s.heap := by
  refine ⟨fun w hw => ?_, vx_Zqof (hts _ vv_st.1) (hts _ vv_st.2.2) (flat_of_before _ hgv _ vv_sr.1) (fun a h => Nat.not_le.mpr h), vx_Zqof (hts _ vv_st.2.1) (hts _ vv_st.2.2) (flat_of_before _ hgv _ vv_sr.2) (fun a h => Nat.not_le.mpr h)⟩
  have h1 := hts w (vv_bt w hw)
  simp only [vv_B, List.mem_cons, List.not_mem_nil, or_false] at hw
  rcases hw with rfl | rfl | rfl | rfl <;> exact va_Nw.of rfl h1
theorem dv_24 : decode prog_1_method_10_code 24 = .ok (.new 157, 3) := by decide +kernel
theorem dv_27 : decode prog_1_method_10_code 27 = .ok (.dup, 1) := by decide +kernel
theorem dv_28 : decode prog_1_method_10_code 28 = .ok (.invokespecial 159, 3) := by decide +kernel
theorem dv_31 : decode prog_1_method_10_code 31 = .ok (.athrow, 1) := by decide +kernel
theorem dw_0 : decode method_3_code 0 = .ok (.aload 4, 2) := by decide +kernel
theorem dw_2 : decode method_3_code 2 = .ok (.iconst 0, 1) := by decide +kernel
theorem dw_3 : decode method_3_code 3 = .ok (.aload_n 0, 1) := by decide +kernel
theorem dw_4 : decode method_3_code 4 = .ok (.iload_n 1, 1) := by decide +kernel
theorem dw_5 : decode method_3_code 5 = .ok (.iload_n 2, 1) := by decide +kernel
theorem dw_6 : decode method_3_code 6 = .ok (.iload_n 3, 1) := by decide +kernel
theorem dw_7 : decode method_3_code 7 = .ok (.invokevirtual 7, 3) := by decide +kernel
theorem dw_15 : decode method_3_code 15 = .ok (.astore 5, 2) := by decide +kernel
theorem dw_17 : decode method_3_code 17 = .ok (.iconst 1, 1) := by decide +kernel
theorem dw_18 : decode method_3_code 18 = .ok (.ireturn, 1) := by decide +kernel
def vv_Pc (n0 : Nat) (D : va_G) (tys : List (ClassId × FieldType)) (sg : Nat → Nat) (rho : Nat → Int32) (ws : va_W) (vals : List Value) : Array Value → State → Prop := fun a U => mx_Pc mz_P mz_G n0 D tys sg rho ws vals a U ∧ vv_W n0 U U.heap
theorem vv_Pc.blind {n0 : Nat} {D : va_G} {tys : List (ClassId × FieldType)} {sg : Nat → Nat} {rho : Nat → Int32} {ws : va_W} {vals : List Value} : FrameBlind (vv_Pc n0 D tys sg rho ws vals) := by
  intro a U g mk ⟨h1, h2⟩
  exact ⟨mx_Pc.blind a U g mk h1, vv_W.moved (s := U) (U := U.calling g mk a) (State.WarmedH.refl U) (fun _ _ _ => rfl) h2⟩
def vv_X (n0 : Nat) (D : va_G) (tys : List (ClassId × FieldType)) (sg : Nat → Nat) (rho : Nat → Int32) (ws : va_W) (h : mx_H) : String → State → State → Prop :=
  vx_X (fun ws' : va_W => va_D (fun q => n0 ≤ q) ws' ∧ (∃ be : List Nat, ws'.map Prod.fst = ws.map Prod.fst ++ be) ∧ mx_S sg rho tys ws' h) (fun E ws' t => E = vv_N ∧ va_P D mz_cl ws' t.heap) (fun q => n0 ≤ q)
set_option maxHeartbeats 2000000 in
/-- the class's value, where it throws -/
theorem vv_val {l : Launch} (hl : l.stackTraces = false) {n0 : Nat} {D : va_G} {tys : List (ClassId × FieldType)} {sg : Nat → Nat} {rho : Nat → Int32} {ws : va_W} {h h' : mx_H} {as vals : List Value} {ls1 : mx_L}
    (hOk : mx_Ok l mz_P mz_G mz_tb rho 20 142 0 (mx_args 0 as) [] h 24 ls1 [] h' 0 0) (hD : va_D (fun q => n0 ≤ q) ws) (hM : mx_S sg rho tys ws h) (has : mx_F2 (mx_R (ws.map Prod.fst) sg rho) as vals) (hlen : (as.map mx_cat).sum ≤ 4) :
    vx_Met l (mz_mt 142).1 (Cond.code (mz_mt 142).1 prog_1_method_10_code 4 (some .int) :: mz_tb) ({ frames := 20, cells := 1, slots := 6, locals := 1200 }) (vv_Pc n0 D tys sg rho ws vals) (va_Qi (fun (_ : Int32) (_ : Unit) => False) (fun _ _ => True) (fun q => n0 ≤ q)) (vv_X n0 D tys sg rho ws h') 1 6 (fun q => n0 ≤ q) := by
  refine vx_ofW (cc := prog_1_method_10_code) (maxL := 4) (ret := some .int) rfl rfl ?_
  intro p e s m args below meth c s₁ B hml htab hv
  obtain ⟨⟨rfl, hn0, hP, hWd, hSc⟩, hV⟩ := hv
  have hx := B.exec
  have hb := B.bytes
  have hr := B.returns
  have hts0 := atoms_spec B.pre
  have hts : ∀ w ∈ mz_tb, w.before vals.toArray s = true := fun w hw => hts0 w (List.mem_cons_of_mem _ hw)
  have hown : s.vm.findClass "ThroughWindow" = some m.cls := findClass_of_methodNamed B.named
  have hlocks := B.notSynchronized
  have hin : meth.name = (mz_mt 142).1.name := (name_of_methodNamed B.named B.method).1
  rw [lg_entry_eq]
  have hF := lv_entry vals (n := 4) (by rw [mx_sl_len, mx_F2_cats has]; exact hlen)
  refine hOk p e _ s m vals.toArray below meth c s.heap [] 0 0 _ _ [] ws n0 D tys sg ⟨hx, hb, hr, hml, hown, hts, hin, hlocks, Nat.le_of_ble_eq_true rfl, Nat.le_of_ble_eq_true rfl, hWd, hn0, hSc⟩ ⟨hP, hD, va_S.rf, hM, ⟨_, hF, mx_F2_args 0 has⟩, trivial⟩ (Nat.le_of_ble_eq_true rfl) (Nat.le_of_ble_eq_true rfl) (fun H' locs' sl' stk' ws' pre hI => ?_)
  obtain ⟨hP', hD', hS', hM', ⟨lv, hl1, -⟩, hst'⟩ := hI
  have e2 := hst'.n
  subst e2
  refine vx_throw0 (own := "ThroughWindow") (cls := vv_N) (names := vv_ns) (ik := 157) (ic := 159) (A := fun q => n0 ≤ q) hx hb hl hown (by decide +kernel) (by decide +kernel) (hts _ (vv_lk _ (by simp))) (hts _ (vv_lk _ (by simp)))
    (vx_hat (B := vv_B) (fun w hw => hts w (List.mem_filter.mpr ⟨vv_g w hw, (List.mem_filter.mp hw).2⟩)) vv_b (fun w hw => ?_)) vv_ot hV.2.1 hV.2.2 hS' (hl1.1.trans hml.symm) dv_24 dv_27 dv_28 dv_31 (fun x hx => (htab x hx).elim) (by decide) (by decide) (by decide) (by decide) hlocks
    (fun t hal hsz hsm => ⟨ws', ⟨hD', pre, hM'⟩, ⟨rfl, hP'.kept (fun k q hq => hsm q.1 ((hP' k q hq).lt))⟩, Nat.le_trans hS'.1 hsz, fun q q1 q2 => (hsm q (Nat.lt_of_lt_of_le q1 hS'.1)).trans (hS'.2.1 q q1 q2)⟩) hS'.2.2 (by decide) (by decide)
  have h1 := hV.1 w hw
  simp only [vv_B, List.mem_cons, List.not_mem_nil, or_false] at hw
  rcases hw with rfl | rfl | rfl | rfl <;> exact va_Nw.use rfl h1
set_option maxHeartbeats 2000000 in
/-- the law's own value: it catches, and answers 1 -/
theorem vv_law {l : Launch} (hl : l.stackTraces = false) {n0 : Nat} {D : va_G} {tys : List (ClassId × FieldType)} {sg : Nat → Nat} {rho : Nat → Int32} {ws : va_W} {h h' : mx_H} {kx qx qo : Nat} {c1 c2 c3 : Value} {w1 w2 w3 : Int32} {fx : List Value} {ls1 : mx_L}
    (hOk : mx_Ok l mz_P mz_G mz_tb rho 20 142 0 (mx_args 0 [.ref kx, c1, c2, c3]) [] h 24 ls1 [] h' 0 0) (hD : va_D (fun q => n0 ≤ q) ws) (hM : mx_S sg rho tys ws h) (hkx : h[kx]? = some (.inr (9, fx)))
    (has : mx_F2 (mx_R (ws.map Prod.fst) sg rho) [.ref kx, c1, c2, c3] [.ref qx, .int w1, .int w2, .int w3]) (hi1 : mx_isI c1 = true) (hi2 : mx_isI c2 = true) (hi3 : mx_isI c3 = true) :
    Met l vv_y (Cond.codeWith vv_y method_3_code 6 (some .int) vv_hh :: mz_tb) ({ frames := 21, cells := 1, slots := 6, locals := 1260 }) (vv_Pc n0 D tys sg rho ws [.ref qx, .int w1, .int w2, .int w3, .ref qo]) (mx_Qc mz_P n0 D tys sg rho ws h' (some (.int 1))) 1 6 (fun q => n0 ≤ q) := by
  refine va_MetW (cc := method_3_code) (maxL := 6) (ret := some .int) (hh := vv_hh) (by decide) rfl ?_
  intro p e s m args below meth c s₁ B hml hv
  obtain ⟨⟨rfl, hn0, hP, hWd, hSc⟩, hV⟩ := hv
  have hx := B.exec
  have hb := B.bytes
  have hr := B.returns
  have hts0 := atoms_spec B.pre
  have hts : ∀ w ∈ mz_tb, w.before [Value.ref qx, .int w1, .int w2, .int w3, .ref qo].toArray s = true := fun w hw => hts0 w (List.mem_cons_of_mem _ hw)
  have hown : s.vm.findClass "ThroughWindowLaw" = some m.cls := findClass_of_methodNamed B.named
  have hlocks := B.notSynchronized
  have htab := vx_table (x := vv_y) B (hts0 _ List.mem_cons_self)
  rw [lg_entry_eq]
  have hl0 := lv_entry ([.ref qx, .int w1, .int w2, .int w3, .ref qo] : List Value) (n := 6) (Nat.le_of_ble_eq_true rfl)
  generalize (lg_sl ([.ref qx, .int w1, .int w2, .int w3, .ref qo]) ++ List.replicate (6 - (lg_sl ([.ref qx, .int w1, .int w2, .int w3, .ref qo])).length) Slot.unset).toArray = ls at hl0 ⊢
  have hl0 : lv_has ls 6 [(0, .ref qx), (1, .int w1), (2, .int w2), (3, .int w3), (4, .ref qo)] := hl0
  have hS : va_S (fun q => n0 ≤ q) s.heap s.heap [] := va_S.rf
  refine lv_aload hx hb dw_0 (lv_at hl0 4 rfl) ?_
  refine lv_iconst (v := 0) hx hb dw_2 (by decide) ?_
  refine lv_aload_n hx hb dw_3 rfl (lv_at hl0 0 rfl) ?_
  refine lv_iload_n hx hb dw_4 rfl (lv_at hl0 1 rfl) ?_
  refine lv_iload_n hx hb dw_5 rfl (lv_at hl0 2 rfl) ?_
  refine lv_iload_n hx hb dw_6 rfl (lv_at hl0 3 rfl) ?_
  obtain ⟨k1, k2, k3⟩ := mz_k1 (b := 142) (by decide) (by decide) (by decide +kernel)
  have hMe := mz_me (b := 142) (by decide) (by decide)
  have hcat : ([Value.ref kx, c1, c2, c3].map mx_cat).sum ≤ 4 := by
    have e1 : mx_cat c1 = 1 := by cases c1 <;> simp [mx_isI] at hi1 <;> rfl
    have e2 : mx_cat c2 = 1 := by cases c2 <;> simp [mx_isI] at hi2 <;> rfl
    have e3 : mx_cat c3 = 1 := by cases c3 <;> simp [mx_isI] at hi3 <;> rfl
    simp only [List.map_cons, List.map_nil, List.sum_cons, List.sum_nil, e1, e2, e3]
    exact Nat.le_of_ble_eq_true rfl
  have hrecv : ∃ cell : Cell, s.heap[qx]? = some cell ∧ cell.vm.isStatics = false ∧ s.vm.findClass "ThroughWindow" = some cell.cls := by
    obtain ⟨q', e0, u1, u2, vs, rfl, u3⟩ := hM.at hkx
    obtain ⟨q, hq, hw⟩ := has.1
    cases hw
    cases hq.symm.trans u2
    exact va_recv (q := ("ThroughWindow", mz_T9, 15)) hWd.1 hP rfl u1
  refine vx_calli (vx_runV (g := F0 m 7 ls [.int w3, .int w2, .int w1, .ref qx, .int 0, .ref qo]) (b := qx) (C := "ThroughWindow") (As := [.int w1, .int w2, .int w3]) (rest := [.int 0, .ref qo]) ⟨hx, hb, hml, hown, hts⟩ (vv_val hl hOk hD hM has hcat)
    ⟨callB_of (ws' := mz_tb) 3 hts (mx_goodIn mz_good (fun w hw => (List.mem_cons.mp hw).elim (fun e => e ▸ hMe.1) (fun h => h))) rfl rfl rfl (hts _ hMe.2.1) (hts _ (vv_lk _ (by simp))) hMe.2.2.2.1 ⟨Nat.le_of_ble_eq_true rfl, Nat.le_of_ble_eq_true rfl⟩, hts _ k2, hts _ k3⟩
    ⟨vv_Pc.blind, hrecv, fun U hU hW => ⟨⟨rfl, by rw [hU]; exact hn0, by rw [hU]; exact hP, hWd.moved hW, hSc.moved hW (fun a ha => by rw [hU])⟩, hV.moved hW (fun q _ _ => by rw [hU])⟩⟩ rfl rfl hl0.1 rfl (lv_room (Nat.le_of_ble_eq_true rfl)) dw_7 ⟨Nat.le_of_ble_eq_true rfl, Nat.le_of_ble_eq_true rfl⟩)
    hS (fun q _ h => h) (fun q h => h) (fun q _ h => h) (fun E ce q9 ws' t H1 locs1 ht hvm hpx hBX hz hkk hS1 hce hcv hcl => ?_) (fun r u t H1 locs1 ht hvm hp => hp.elim)
  obtain ⟨hD1, pre1, hM1⟩ := hpx
  obtain ⟨rfl, hP1⟩ := hBX
  rw [ht] at hP1
  have hcast : (Cond.castable vv_N vv_N).before [Value.ref qx, .int w1, .int w2, .int w3, .ref qo].toArray s = true := va_Nw.use rfl (hV.1 _ (by simp [vv_B]))
  refine vx_catch hown ⟨0, 12, 15, 13⟩ [] htab (by decide) (by decide) (hts _ (vv_lk _ (by simp))) hcast hce hcv hcl ?_
  refine lv_astore (lv' := [(5, .ref q9), (0, .ref qx), (1, .int w1), (2, .int w2), (3, .int w3), (4, .ref qo)]) hx hb dw_15 hl0 (by decide) rfl (fun ls hl => ?_)
  refine lv_iconst (v := 1) hx hb dw_17 (by decide) ?_
  exact W.iret hx hb hr (fun t2 ht2 hW2 => ⟨some (.int 1), ws', rfl, ⟨rfl, trivial⟩, by rw [ht2]; exact hP1, hD1, pre1, hM1, hS1.F ht2⟩) hS1.2.2 dw_18
end MZV
