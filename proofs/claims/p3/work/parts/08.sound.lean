/-! calls, and the whole run, held against the model -/
section MXC5
/-- what the tables say of a method that is called -/
def mx_Me (P : mx_P) (tb : List Cond) (b : Nat) : Prop :=
  Cond.code (mx_mt P b).1 (mx_mt P b).2.1 (mx_mt P b).2.2.1 (mx_mt P b).2.2.2.1 ∈ tb ∧ Cond.initialized (mx_mt P b).1.cls ∈ tb ∧ plainFor (mx_mt P b).1 = true ∧ ((mx_mt P b).1.cls ≠ "java/lang/invoke/MethodHandle" ∧ (mx_mt P b).1.cls ≠ "java/lang/invoke/VarHandle" ∧ (parseMethodDescriptor (mx_mt P b).1.desc).map (fun d => d.parameters.length) = some (mx_mt P b).2.2.2.2.1) ∧ (mx_mt P b).2.2.1 ≤ 40
def mx_Mo (P : mx_P) (b : Nat) : Prop := ∃ q : vw_C, (mx_cl P)[(mx_mt P b).2.2.2.2.2]? = some q ∧ q.1 = (mx_mt P b).1.cls
def mx_Lc (P : mx_P) (G : mx_G) (tb : List Cond) (mi : Nat) (ins : Instr) (a b : Nat) : Prop := match ins with
  | .invokevirtual idx => mx_Me P tb b ∧ mx_Mo P b ∧ Cond.instanceMethod (mx_mt P b).1 ∈ tb ∧ Cond.selects (mx_mt P b).1.cls (mx_mt P b).1 (mx_mt P b).1 ∈ tb ∧ (Cond.methodLink (mx_mt P mi).1.cls idx (mx_mt P b).1 ∈ tb ∨ ∃ host : String, ((mx_mt P mi).1.cls, idx, (mx_mt P b).1, host) ∈ G.1)
  | .invokespecial idx => a ≠ 0 → mx_Me P tb b ∧ mx_Mo P b ∧ Cond.instanceMethod (mx_mt P b).1 ∈ tb ∧ (mx_mt P b).1.name = "<init>" ∧ (mx_mt P b).2.2.2.1 = none ∧ (Cond.methodLink (mx_mt P mi).1.cls idx (mx_mt P b).1 ∈ tb ∨ ∃ host : String, ((mx_mt P mi).1.cls, idx, (mx_mt P b).1, host) ∈ G.1)
  | .invokestatic idx => a ≠ 0 → mx_Me P tb b ∧ Cond.static (mx_mt P b).1 ∈ tb ∧ (Cond.methodLink (mx_mt P mi).1.cls idx (mx_mt P b).1 ∈ tb ∨ ∃ host : String, ((mx_mt P mi).1.cls, idx, (mx_mt P b).1, host) ∈ G.1)
  | _ => True
theorem mx_goodIn {tb ws : List Cond} (hg : ∀ w ∈ tb, goodWord w = true) (h : ∀ w ∈ ws, w ∈ tb) : GoodIn tb ws := fun w hw => ⟨h w hw, good_of_word (hg w (h w hw))⟩
def mx_Pc (P : mx_P) (G : mx_G) (n0 : Nat) (D : va_G) (tys : List (ClassId × FieldType)) (sg : Nat → Nat) (rho : Nat → Int32) (ws : va_W) (vals : List Value) : Array Value → State → Prop := fun a U =>
  a = vals.toArray ∧ n0 ≤ U.heap.size ∧ va_P D (mx_cl P) ws U.heap ∧ mx_Wd P G D tys sg U ∧ mx_Sc n0 sg rho U U.heap
def mx_Qc (P : mx_P) (n0 : Nat) (D : va_G) (tys : List (ClassId × FieldType)) (sg : Nat → Nat) (rho : Nat → Int32) (ws : va_W) (h1 : mx_H) (v1 : Option Value) : Array Value → State → Outcome → State → Prop := fun _ st o t =>
  ∃ (v : Option Value) (ws' : va_W), o = .returned v ∧ mx_F2 (mx_R (ws'.map Prod.fst) sg rho) v1.toList v.toList ∧ va_P D (mx_cl P) ws' t.heap ∧ va_D (fun q => n0 ≤ q) ws' ∧ (∃ be : List Nat, ws'.map Prod.fst = ws.map Prod.fst ++ be) ∧ mx_S sg rho tys ws' h1 ∧ va_F (fun q => n0 ≤ q) st t
theorem mx_Pc.blind {P : mx_P} {G : mx_G} {n0 : Nat} {D : va_G} {tys : List (ClassId × FieldType)} {sg : Nat → Nat} {rho : Nat → Int32} {ws : va_W} {vals : List Value} : FrameBlind (mx_Pc P G n0 D tys sg rho ws vals) := by
  intro a U g mk ⟨h1, h2, h3, h4, h5⟩
  exact ⟨h1, h2, h3, mx_Wd.moved (s := U) (U := U.calling g mk a) (State.WarmedH.refl U) h4, mx_Sc.moved (s := U) (U := U.calling g mk a) (State.WarmedH.refl U) (fun _ _ => rfl) h5⟩
section
variable {l : Launch} {P : mx_P} {G : mx_G} {tb : List Cond} {rho : Nat → Int32} {d d' mi b pc : Nat} {ls : mx_L} {st st' : List Value} {h h' h1 : mx_H} {a : Nat} {env : mx_E} {n0 : Nat} {D : va_G} {tys : List (ClassId × FieldType)} {sg : Nat → Nat} {ws : va_W}
/-- the kit's form of a method's contract, for a method that no native stands in for -/
theorem mx_ofW {y : MethodName} {ws ws' : List Cond} {rm : Room} {Pc : Array Value → State → Prop} {Qc : Array Value → State → Outcome → State → Prop} {mc ms : Nat} {free : Addr → Prop} {cc : ByteArray} {maxL : Nat} {ret : Option FieldType} (hy : plainFor y = true) (hw : ws = Cond.code y cc maxL ret :: ws')
    (body : ∀ p e s m args below meth c s₁, BodyLoose p l y (headSpec ws rm) cc maxL ret e s m args below meth c s₁ → c.maxLocals = maxL → Pc args s → W p l e (headSpec ws rm).room s m args below meth c s.heap [] 0 0 (MQ below Qc args s mc ms free) (entryFrame m args maxL)) : Met l y ws rm Pc Qc mc ms free := by
  refine MetFree.of_bodySF (code := cc) (maxLocals := maxL) (ret := ret) hy ?_ ?_
  · intro args s m h hn
    obtain ⟨meth, c, h1, h2, h3, h4, h5, h6, -, -⟩ := Cond.code_spec hn (atoms_spec (ws := ws) h _ (by rw [hw]; exact List.mem_cons_self))
    exact ⟨meth, c, h1, h2, h3, h4, h5, h6⟩
  · intro p e s m args below meth c s₁ B hml hP _
    obtain ⟨t, a1, o, b1, b2, b3⟩ := body p e s m args below meth c s₁ B hml hP s₁ (by rw [B.state]; rfl) (Stand.of_body B)
    exact ⟨t, o, a1, b1, b2, ⟨b3.1, b3.2⟩⟩
set_option maxHeartbeats 1000000 in
/-- a method's contract, out of the machine's own run of it -/
theorem mx_met {as vals : List Value} {pc1 mc1 ms1 : Nat} {ls1 : mx_L} {st1 : List Value} {ins1 : Instr} {v1 : Option Value} (hMe : mx_Me P tb b) (hOk : mx_Ok l P G tb rho d' b 0 (mx_args 0 as) [] h pc1 ls1 st1 h1 mc1 ms1) (hdc : mx_Dc P b pc1 ins1) (hrv : mx_rv ins1 (mx_mt P b).2.2.2.1 st1 = some v1)
    (hD : va_D (fun q => n0 ≤ q) ws) (hM : mx_S sg rho tys ws h) (has : mx_F2 (mx_R (ws.map Prod.fst) sg rho) as vals) (hlen : (as.map mx_cat).sum ≤ (mx_mt P b).2.2.1) :
    Met l (mx_mt P b).1 (Cond.code (mx_mt P b).1 (mx_mt P b).2.1 (mx_mt P b).2.2.1 (mx_mt P b).2.2.2.1 :: tb) ({ frames := d', cells := mc1, slots := ms1, locals := 60 * d' }) (mx_Pc P G n0 D tys sg rho ws vals) (mx_Qc P n0 D tys sg rho ws h1 v1) mc1 ms1 (fun q => n0 ≤ q) := by
  refine mx_ofW (cc := (mx_mt P b).2.1) (maxL := (mx_mt P b).2.2.1) (ret := (mx_mt P b).2.2.2.1) hMe.2.2.1 rfl ?_
  intro p e s m args below meth c s₁ B hml hv
  obtain ⟨rfl, hn0, hP, hWd, hSc⟩ := hv
  have hx := B.exec
  have hb := B.bytes
  have hr := B.returns
  have hts0 := atoms_spec B.pre
  have hts : ∀ w ∈ tb, w.before vals.toArray s = true := fun w hw => hts0 w (List.mem_cons_of_mem _ hw)
  have hown : s.vm.findClass (mx_mt P b).1.cls = some m.cls := findClass_of_methodNamed B.named
  have hlocks := B.notSynchronized
  have hin : meth.name = (mx_mt P b).1.name := (name_of_methodNamed B.named B.method).1
  rw [lg_entry_eq]
  have hF := lv_entry vals (n := (mx_mt P b).2.2.1) (by rw [mx_sl_len, mx_F2_cats has]; exact hlen)
  refine hOk p e _ s m vals.toArray below meth c s.heap [] 0 0 _ _ [] ws n0 D tys sg ⟨hx, hb, hr, hml, hown, hts, hin, hlocks, Nat.le_refl _, Nat.le_refl _, hWd, hn0, hSc⟩ ⟨hP, hD, va_S.rf, hM, ⟨_, hF, mx_F2_args 0 has⟩, trivial⟩ (Nat.le_of_eq (Nat.zero_add _)) (Nat.le_of_eq (Nat.zero_add _)) (fun H' locs' sl' stk' ws' pre hI => ?_)
  rw [Nat.zero_add, Nat.zero_add]
  obtain ⟨hP', hD', hS', hM', -, hst'⟩ := hI
  have hq : ∀ (v : Option Value), mx_F2 (mx_R (ws'.map Prod.fst) sg rho) v1.toList v.toList → ∀ t : State, t.heap = H' → s.WarmedH t.vm → mx_Qc P n0 D tys sg rho ws h1 v1 vals.toArray s (.returned v) t := fun v hv t ht _ => ⟨v, ws', rfl, hv, by rw [ht]; exact hP', hD', pre, hM', hS'.F ht⟩
  have hf : ∀ q ∈ locs', n0 ≤ q.base := hS'.2.2
  unfold mx_rv at hrv
  split at hrv
  next v hret =>
    split at hrv
    next hI =>
      cases hrv
      obtain ⟨w, rr, e1, hw, hr1⟩ := hst'.c
      have e2 := hr1.n
      subst e2; subst e1
      obtain ⟨x, rfl⟩ := hw.i hI
      exact W.iret hx hb (hr.trans hret) (hq _ ⟨hw, trivial⟩) hf (hdc.of rfl)
    next => cases hrv
  next v hret =>
    split at hrv
    next hI =>
      cases hrv
      obtain ⟨w, rr, e1, hw, hr1⟩ := hst'.c
      have e2 := hr1.n
      subst e2; subst e1
      obtain ⟨x, hx1, rfl⟩ : ∃ x : Int32, narrow .boolean (.int x) = .int x ∧ w = .int x := by
        cases v with
        | int z =>
          simp only [mx_R] at hw
          simp only [mx_01, Bool.or_eq_true, decide_eq_true_eq] at hI
          exact ⟨z, by rcases hI with rfl | rfl <;> rfl, hw⟩
        | _ => simp [mx_01] at hI
      exact W.zret hx hb (hr.trans hret) hx1 (hq _ ⟨hw, trivial⟩) hf (hdc.of rfl)
    next => cases hrv
  next v hret =>
    split at hrv
    next hI =>
      cases hrv
      obtain ⟨w, rr, e1, hw, hr1⟩ := hst'.c
      have e2 := hr1.n
      subst e2; subst e1
      obtain ⟨x, -, rfl⟩ := hw.j hI
      exact W.lret hx hb (hr.trans hret) (hq _ ⟨hw, trivial⟩) hf (hdc.of rfl)
    next => cases hrv
  next C v hret =>
    split at hrv
    next hI =>
      cases hrv
      obtain ⟨w, rr, e1, hw, hr1⟩ := hst'.c
      have e2 := hr1.n
      subst e2; subst e1
      exact W.aret hx hb (hr.trans hret) (Or.inl ⟨_, rfl⟩) (hw.q hI) (hq _ ⟨hw, trivial⟩) hf (hdc.of rfl)
    next => cases hrv
  next hret =>
    cases hrv
    have e2 := hst'.n
    subst e2
    exact W.vret hx hb (hr.trans hret) (hq _ trivial) hf (hdc.of rfl)
  next => cases hrv
end
section
variable {l : Launch} {P : mx_P} {G : mx_G} {tb : List Cond} {rho : Nat → Int32} {d d' mi b pc : Nat} {ls : mx_L} {h h1 : mx_H} {n0 : Nat} {D : va_G} {tys : List (ClassId × FieldType)} {sg : Nat → Nat} {ws : va_W}
variable {p : Program} {e : Env} {R : Room} {s : State} {m : MethodId} {args : Array Value} {below : List Frame} {meth : Method} {c : Code} {H : Heap} {locs : List Loc} {cells slots : Nat} {Q : State → Prop} {sl : Array Slot} {stk rr : List Value} {mc1 ms1 : Nat} {v1 : Option Value}
theorem mx_callW {va : Array Value} (hr : va_Run p l e R s m args below meth c H locs cells slots mc1 ms1 (F0 m pc sl stk) rr (mx_Qc P n0 D tys sg rho ws h1 v1 va) (fun q => n0 ≤ q)) (hS : va_S (fun q => n0 ≤ q) s.heap H locs)
    (kk : ∀ (v : Option Value) (ws' : va_W) (H1 : Heap) (locs1 : List Loc), mx_F2 (mx_R (ws'.map Prod.fst) sg rho) v1.toList v.toList → va_P D (mx_cl P) ws' H1 → va_D (fun q => n0 ≤ q) ws' → va_S (fun q => n0 ≤ q) s.heap H1 locs1 → (∃ be : List Nat, ws'.map Prod.fst = ws.map Prod.fst ++ be) → mx_S sg rho tys ws' h1 →
      W p l e R s m args below meth c H1 locs1 (cells + mc1) (slots + ms1) Q (F0 m (pc + 3) sl (v.toList ++ rr))) : W p l e R s m args below meth c H locs cells slots Q (F0 m pc sl stk) := by
  intro T hT X
  obtain ⟨v0, st₀, t, T', L, h0, X', hL, e1, e2, ⟨v, ws', hv, hvR, hP, hD, pre, hM, hz, hk⟩, st⟩ := hr T hT X
  cases hv
  rw [h0] at hz hk
  obtain ⟨t2, a1, b1⟩ := kk v0 ws' T'.heap (locs ++ L) hvR (by rw [e1]; exact hP) hD
    ⟨Nat.le_trans hS.1 (by rw [e1]; exact hz), fun q h1 h2 => by rw [e1, hk q (Nat.lt_of_lt_of_le h1 hS.1) h2]; exact hS.2.1 q h1 h2, fun q hq => by
      rcases List.mem_append.mp hq with h | h
      · exact hS.2.2 q h
      · exact hL q h⟩ pre hM T' rfl X'
  exact ⟨t2, st t2 a1, b1⟩
end
section
variable {l : Launch} {P : mx_P} {G : mx_G} {tb : List Cond} {rho : Nat → Int32} {d' mi b pc : Nat} {ls : mx_L} {st : List Value} {h h1 : mx_H} {a : Nat}
/-- behind the arguments -/
theorem mx_split {al : List Nat} {sg : Nat → Nat} {st stk r : List Value} {k np : Nat} (hd : st.drop np = .ref k :: r) (hst : mx_F2 (mx_R al sg rho) st stk) : ∃ (q : Nat) (rr : List Value), al[k]? = some q ∧ stk = (stk.take np).reverse.reverse ++ .ref q :: rr ∧ mx_F2 (mx_R al sg rho) r rr ∧ mx_F2 (mx_R al sg rho) (st.take np).reverse (stk.take np).reverse ∧ (stk.take np).reverse.length = np := by
  have h1 := mx_F2.drop np hst
  rw [hd] at h1
  obtain ⟨w, rr, e1, hw, hr⟩ := h1.c
  obtain ⟨q, hq, rfl⟩ := hw
  have hlt : np < stk.length := by
    rcases Nat.lt_or_ge np stk.length with h | h
    · exact h
    · rw [List.drop_eq_nil_of_le h] at e1; cases e1
  refine ⟨q, rr, hq, ?_, hr, (mx_F2.take np hst).rev, by simp; omega⟩
  rw [List.reverse_reverse, ← e1, List.take_append_drop]
set_option maxHeartbeats 2000000 in
theorem mx_c4 {ins ins1 : Instr} {as r : List Value} {pc1 mc1 ms1 : Nat} {ls1 : mx_L} {st1 : List Value} {v1 : Option Value} (hg : ∀ w ∈ tb, goodWord w = true) (hLc : mx_Lc P G tb mi ins a b) (hdc : mx_Dc P mi pc ins) (h4 : mx_s4 P ins a b h st = some (as, r))
    (hOk : mx_Ok l P G tb rho d' b 0 (mx_args 0 as) [] h pc1 ls1 st1 h1 mc1 ms1) (hdc1 : mx_Dc P b pc1 ins1) (hrv : mx_rv ins1 (mx_mt P b).2.2.2.1 st1 = some v1)
    {pc2 : Nat} {ls2 : mx_L} {st2 : List Value} {h2 : mx_H} {mc ms : Nat} (kOk : mx_Ok l P G tb rho (d' + 1) mi (pc + 3) ls (v1.toList ++ r) h1 pc2 ls2 st2 h2 mc ms) : mx_Ok l P G tb rho (d' + 1) mi pc ls st h pc2 ls2 st2 h2 (mc1 + mc) (ms1 + ms) := by
  intro p e R s m args below meth c H locs cells slots Q sl stk ws n0 D tys sg hFr hI hc hs hk
  obtain ⟨hx, hb, hr0, hml, hown, hts, hnm, hlk, hfr, hlo, hWd, hn0, hSc⟩ := id hFr
  obtain ⟨hP, hD, hS, hM, hl, hst⟩ := id hI
  obtain ⟨lv, hl1, hl2⟩ := id hl
  have hfit : cells + mc1 ≤ R.cells ∧ slots + ms1 ≤ R.slots := ⟨by omega, by omega⟩
  have hkk : ∀ (rr : List Value), mx_F2 (mx_R (ws.map Prod.fst) sg rho) r rr → ∀ (v : Option Value) (ws' : va_W) (H1 : Heap) (locs1 : List Loc), mx_F2 (mx_R (ws'.map Prod.fst) sg rho) v1.toList v.toList → va_P D (mx_cl P) ws' H1 → va_D (fun q => n0 ≤ q) ws' → va_S (fun q => n0 ≤ q) s.heap H1 locs1 → (∃ be : List Nat, ws'.map Prod.fst = ws.map Prod.fst ++ be) → mx_S sg rho tys ws' h1 →
      W p l e R s m args below meth c H1 locs1 (cells + mc1) (slots + ms1) Q (F0 m (pc + 3) sl (v.toList ++ rr)) := by
    intro rr hr v ws' H1 locs1 hv hP1 hD1 hS1 pre hM1
    refine mx_go (nc := mc1) (ns := ms1) kOk hFr hc hs hk pre ⟨hP1, hD1, hS1, hM1, ?_, ?_⟩
    · obtain ⟨be, pre⟩ := pre
      rw [pre]
      exact ⟨lv, hl1, hl2.imp (fun _ _ r => ⟨r.1, r.2.mono _⟩)⟩
    · refine mx_F2.app hv ?_
      obtain ⟨be, pre⟩ := pre
      rw [pre]
      exact hr.imp (fun _ _ r => r.mono _)
  have hpc : ∀ (vals : List Value) (U : State), U.heap = H → s.WarmedH U.vm → mx_Pc P G n0 D tys sg rho ws vals vals.toArray U := by
    intro vals U hU hW
    refine ⟨rfl, by rw [hU]; exact Nat.le_trans hn0 hS.1, by rw [hU]; exact hP, hWd.moved hW, ?_⟩
    exact hSc.moved hW (fun a ha => by rw [hU]; exact hS.2.1 _ (Nat.lt_of_lt_of_le ha hn0) (Nat.not_le.mpr ha))
  unfold mx_s4 at h4
  split at h4
  next idx =>
    split at h4
    next hcnd =>
      cases h4
      obtain ⟨q0, q1, q2, q3⟩ := hcnd
      obtain ⟨hMe, g1, g2⟩ := hLc (by omega)
      have hR : d' + 1 ≤ R.frames ∧ 8 + ((mx_mt P b).2.2.1 + 11) + 60 * d' ≤ R.locals := ⟨hfr, by have := hMe.2.2.2.2; omega⟩
      have hM1 := mx_met (n0 := n0) (D := D) (vals := (stk.take (mx_mt P b).2.2.2.2.1).reverse) hMe hOk hdc1 hrv hD hM (mx_F2.take _ hst).rev (by rw [List.map_reverse, List.sum_reverse]; exact q3)
      have hle : (mx_mt P b).2.2.2.2.1 ≤ stk.length := by rw [← hst.len]; exact q1
      have hstk : stk = (stk.take (mx_mt P b).2.2.2.2.1).reverse.reverse ++ stk.drop (mx_mt P b).2.2.2.2.1 := by rw [List.reverse_reverse, List.take_append_drop]
      have hrm := lv_room (m := m) (pc := pc) (ls := sl) (rest := stk) (st := stk.drop (mx_mt P b).2.2.2.2.1) (by rw [mx_F2_cats (mx_F2.drop _ hst)]; exact q2)
      have hS4 : CallFix p m c (mx_mt P mi).2.1 (mx_mt P mi).2.2.1 s args tb (mx_mt P mi).1.cls := ⟨hx, hb, hml, hown, hts⟩
      rcases g2 with g2 | ⟨host, g2⟩
      · refine mx_callW (va_runS (g := F0 m pc sl stk) hS4 hM1 ⟨callB_of (ws' := tb) (mx_mt P b).2.2.2.2.1 hts (mx_goodIn hg (fun w hw => (List.mem_cons.mp hw).elim (fun e => e ▸ hMe.1) (fun h => h))) rfl rfl rfl (hts _ hMe.2.1) (hts _ g2) hMe.2.2.2.1 hR, hts _ g1⟩ ⟨mx_Pc.blind, hpc _⟩ rfl (by simp; omega) hl1.1 hstk hrm (hdc.of rfl) hfit) hS (hkk _ (mx_F2.drop _ hst))
      · refine mx_callW (va_runSN (g := F0 m pc sl stk) hS4 hM1 ⟨va_cnB (ws' := tb) (mx_mt P b).2.2.2.2.1 hts (mx_goodIn hg (fun w hw => (List.mem_cons.mp hw).elim (fun e => e ▸ hMe.1) (fun h => h))) rfl rfl rfl (hWd.2.2.1 _ g2) (hts _ hMe.2.1) hMe.2.2.2.1 hR, hts _ g1, trivial⟩ ⟨mx_Pc.blind, hpc _⟩ rfl (by simp; omega) hl1.1 hstk hrm (hdc.of rfl) hfit) hS (hkk _ (mx_F2.drop _ hst))
    next => cases h4
  next idx =>
    split at h4
    next k r0 hdr =>
      split at h4
      next ci fs hk0 =>
        split at h4
        next hcnd =>
          cases h4
          obtain ⟨q0, q1, q2, q3⟩ := hcnd
          obtain ⟨hMe, ⟨qc, o1, o2⟩, g1, g2, g3, g4⟩ := hLc (by omega)
          have hR : d' + 1 ≤ R.frames ∧ 8 + ((mx_mt P b).2.2.1 + 11) + 60 * d' ≤ R.locals := ⟨hfr, by have := hMe.2.2.2.2; omega⟩
          obtain ⟨q, rr, hq, hstk, hr, hta, hlen⟩ := mx_split hdr hst
          have hM1 := mx_met (n0 := n0) (D := D) (vals := .ref q :: (stk.take (mx_mt P b).2.2.2.2.1).reverse) hMe hOk hdc1 hrv hD hM ⟨⟨q, hq, rfl⟩, hta⟩ (by rw [List.map_cons, List.sum_cons, List.map_reverse, List.sum_reverse]; exact q3)
          have hrm := lv_room (m := m) (pc := pc) (ls := sl) (rest := stk) (st := rr) (by rw [mx_F2_cats hr]; exact q2)
          have hS4 : CallFix p m c (mx_mt P mi).2.1 (mx_mt P mi).2.2.1 s args tb (mx_mt P mi).1.cls := ⟨hx, hb, hml, hown, hts⟩
          rw [g3] at hM1
          rcases g4 with g4 | ⟨host, g4⟩
          · refine mx_callW (va_runI (g := F0 m pc sl stk) (b := q) (As := (stk.take (mx_mt P b).2.2.2.2.1).reverse) hS4 hM1 ⟨callB_of (ws' := tb) (mx_mt P b).2.2.2.2.1 hts (mx_goodIn hg (fun w hw => (List.mem_cons.mp hw).elim (fun e => e ▸ (g3 ▸ hMe.1)) (fun h => h))) rfl rfl rfl (hts _ hMe.2.1) (hts _ g4) hMe.2.2.2.1 hR, g2, hts _ g1⟩ ⟨mx_Pc.blind, hpc _⟩ rfl hlen hl1.1 hstk hrm (hdc.of rfl) hfit) hS (hkk _ hr)
          · refine mx_callW (va_runIN (g := F0 m pc sl stk) (b := q) (As := (stk.take (mx_mt P b).2.2.2.2.1).reverse) hS4 hM1 ⟨va_cnB (ws' := tb) (mx_mt P b).2.2.2.2.1 hts (mx_goodIn hg (fun w hw => (List.mem_cons.mp hw).elim (fun e => e ▸ (g3 ▸ hMe.1)) (fun h => h))) rfl rfl rfl (hWd.2.2.1 _ g4) (hts _ hMe.2.1) hMe.2.2.2.1 hR, g2, hts _ g1⟩ ⟨mx_Pc.blind, hpc _⟩ rfl hlen hl1.1 hstk hrm (hdc.of rfl) hfit) hS (hkk _ hr)
        next => cases h4
      next => cases h4
    next => cases h4
  next idx =>
    split at h4
    next k r0 hdr =>
      split at h4
      next ci fs hk0 =>
        split at h4
        next hcnd =>
          cases h4
          obtain ⟨q0, q1, q2, q3⟩ := hcnd
          obtain ⟨hMe, ⟨qc, o1, o2⟩, g1, g2, g4⟩ := hLc
          have hR : d' + 1 ≤ R.frames ∧ 8 + ((mx_mt P b).2.2.1 + 11) + 60 * d' ≤ R.locals := ⟨hfr, by have := hMe.2.2.2.2; omega⟩
          obtain ⟨q, rr, hq, hstk, hr, hta, hlen⟩ := mx_split hdr hst
          have hM1 := mx_met (n0 := n0) (D := D) (vals := .ref q :: (stk.take (mx_mt P b).2.2.2.2.1).reverse) hMe hOk hdc1 hrv hD hM ⟨⟨q, hq, rfl⟩, hta⟩ (by rw [List.map_cons, List.sum_cons, List.map_reverse, List.sum_reverse]; exact q3)
          have hrm := lv_room (m := m) (pc := pc) (ls := sl) (rest := stk) (st := rr) (by rw [mx_F2_cats hr]; exact q2)
          have hS4 : CallFix p m c (mx_mt P mi).2.1 (mx_mt P mi).2.2.1 s args tb (mx_mt P mi).1.cls := ⟨hx, hb, hml, hown, hts⟩
          have hrecv : ∃ cell : Cell, H[q]? = some cell ∧ cell.vm.isStatics = false ∧ s.vm.findClass (mx_mt P b).1.cls = some cell.cls := by
            obtain ⟨q', e0, u1, u2, vs, rfl, u3⟩ := hM.at hk0
            cases hq.symm.trans u2
            subst q1
            rw [← o2]
            exact va_recv hWd.1 hP o1 u1
          rcases g4 with g4 | ⟨host, g4⟩
          · refine mx_callW (va_runV (g := F0 m pc sl stk) (b := q) (C := (mx_mt P b).1.cls) (As := (stk.take (mx_mt P b).2.2.2.2.1).reverse) hS4 hM1 ⟨callB_of (ws' := tb) (mx_mt P b).2.2.2.2.1 hts (mx_goodIn hg (fun w hw => (List.mem_cons.mp hw).elim (fun e => e ▸ hMe.1) (fun h => h))) rfl rfl rfl (hts _ hMe.2.1) (hts _ g4) hMe.2.2.2.1 hR, hts _ g1, hts _ g2⟩ ⟨mx_Pc.blind, hrecv, hpc _⟩ rfl hlen hl1.1 hstk hrm (hdc.of rfl) hfit) hS (hkk _ hr)
          · refine mx_callW (va_runVN (g := F0 m pc sl stk) (b := q) (C := (mx_mt P b).1.cls) (As := (stk.take (mx_mt P b).2.2.2.2.1).reverse) hS4 hM1 ⟨va_cnB (ws' := tb) (mx_mt P b).2.2.2.2.1 hts (mx_goodIn hg (fun w hw => (List.mem_cons.mp hw).elim (fun e => e ▸ hMe.1) (fun h => h))) rfl rfl rfl (hWd.2.2.1 _ g4) (hts _ hMe.2.1) hMe.2.2.2.1 hR, hts _ g1, hts _ g2⟩ ⟨mx_Pc.blind, hrecv, hpc _⟩ rfl hlen hl1.1 hstk hrm (hdc.of rfl) hfit) hS (hkk _ hr)
        next => cases h4
      next => cases h4
    next => cases h4
  next => cases h4
end
/-- what the tables say of every instruction -/
def mx_Pg (P : mx_P) (G : mx_G) (tb : List Cond) : Prop := ∀ (m pc : Nat) (i : mx_I), mx_pg P m pc = some i → mx_Dc P m pc i.1 ∧ mx_Lk P G tb m i.1 i.2.1 i.2.2.1 ∧ mx_Lc P G tb m i.1 i.2.1 i.2.2.1
set_option maxHeartbeats 2000000 in
/-- THE MACHINE's RUN HOLDS OF THE MODEL -/
theorem mx_sound {l : Launch} {P : mx_P} {G : mx_G} {tb : List Cond} {rho : Nat → Int32} (hg : ∀ w ∈ tb, goodWord w = true) (hCl : mx_Cl P tb) (hCt : mx_Ct P) (hPg : mx_Pg P G tb) : ∀ (n d : Nat) (env : mx_E) (h : mx_H) (m pc : Nat) (ls : mx_L) (st : List Value) (K : mx_E → mx_H → Nat → mx_L → List Value → Bool),
    mx P n d env h m pc ls st K = true → mx_env rho env → ∃ (env' : mx_E) (h' : mx_H) (pc' : Nat) (ls' : mx_L) (st' : List Value) (mc ms : Nat), K env' h' pc' ls' st' = true ∧ mx_env rho env' ∧ (h'.length = h.length + mc ∧ mx_sz h' = mx_sz h + ms) ∧ mx_Ok l P G tb rho d m pc ls st h pc' ls' st' h' mc ms := by
  intro n
  induction n with
  | zero => intro d env h m pc ls st K hrun; simp [mx] at hrun
  | succ n ih =>
    intro d env h m pc ls st K hrun he
    rw [mx] at hrun
    split at hrun
    next hpg => exact ⟨env, h, pc, ls, st, 0, 0, hrun, he, ⟨rfl, rfl⟩, mx_Ok.rf⟩
    next ins a b w hpg =>
      obtain ⟨hdc, hLk, hLc⟩ := hPg m pc _ hpg
      dsimp only at hdc hLk hLc
      cases hR : mx_isR ins with
      | true =>
        rw [hR] at hrun
        exact ⟨env, h, pc, ls, st, 0, 0, hrun, he, ⟨rfl, rfl⟩, mx_Ok.rf⟩
      | false =>
        rw [hR] at hrun
        simp only [cond_false] at hrun
        split at hrun
        next fs h0 =>
          obtain ⟨q, hq, he', hst'⟩ := mx_c0 h0 he
          obtain ⟨env', h', pc', ls', st', mc, ms, hK, he2, hgr, hOk⟩ := ih _ _ _ _ _ _ _ _ (List.all_eq_true.mp hrun q hq) he'
          refine ⟨env', h', pc', ls', st', mc, ms, hK, he2, hgr, ?_⟩
          intro p e R s mm args below meth c H locs cells slots Q sl stk ws n0 D tys sg hFr hI hc hs hk
          obtain ⟨hP, hD, hS, hM, hl, hst⟩ := hI
          exact hOk p e R s mm args below meth c H locs cells slots Q sl stk ws n0 D tys sg hFr ⟨hP, hD, hS, hM, hl, hst' _ _ _ hst⟩ hc hs hk
        next h0 =>
          split at hrun
          next q h1 =>
            obtain ⟨env', h', pc', ls', st', mc, ms, hK, he2, hgr, hOk⟩ := ih _ _ _ _ _ _ _ _ hrun he
            refine ⟨env', h', pc', ls', st', mc, ms, hK, he2, hgr, ?_⟩
            intro p e R s mm args below meth c H locs cells slots Q sl stk ws n0 D tys sg hFr hI hc hs hk
            obtain ⟨hP, hD, hS, hM, ⟨lv, hl1, hl2⟩, hst⟩ := hI
            exact mx_c1 hFr.1 hFr.2.1 (fun hsw => hdc.of hsw) h1 hl1 hl2 hst (fun sl' lv' stk' k1 k2 k3 => hOk p e R s mm args below meth c H locs cells slots Q sl' stk' ws n0 D tys sg hFr ⟨hP, hD, hS, hM, ⟨lv', k1, k2⟩, k3⟩ hc hs hk)
          next h1 =>
            split at hrun
            next bs h2 =>
              obtain ⟨q, hq, he', hbr⟩ := mx_c2 (l := l) h2 he
              obtain ⟨env', h', pc', ls', st', mc, ms, hK, he2, hgr, hOk⟩ := ih _ _ _ _ _ _ _ _ (List.all_eq_true.mp hrun q hq) he'
              refine ⟨env', h', pc', ls', st', mc, ms, hK, he2, hgr, ?_⟩
              intro p e R s mm args below meth c H locs cells slots Q sl stk ws n0 D tys sg hFr hI hc hs hk
              obtain ⟨hP, hD, hS, hM, hl, hst⟩ := hI
              exact hbr p e R s mm args below meth c H locs cells slots Q _ sl _ sg stk hFr.1 hFr.2.1 hdc hst (fun stk' k3 => hOk p e R s mm args below meth c H locs cells slots Q sl stk' ws n0 D tys sg hFr ⟨hP, hD, hS, hM, hl, k3⟩ hc hs hk)
            next h2 =>
              split at hrun
              next q h3 =>
                obtain ⟨nc, ns, gr1, gr2, hstep⟩ := mx_c3 (l := l) (ls := ls) hCl hCt hLk hdc he h3
                obtain ⟨env', h', pc', ls', st', mc, ms, hK, he2, hgr, hOk⟩ := ih _ _ _ _ _ _ _ _ hrun he
                exact ⟨env', h', pc', ls', st', nc + mc, ns + ms, hK, he2, ⟨by omega, by omega⟩, hstep _ _ _ _ _ _ hOk⟩
              next h3 =>
                split at hrun
                next => cases hrun
                next q h4 =>
                  split at hrun
                  next => cases hrun
                  next d' =>
                    obtain ⟨env1, h1', pc1, ls1, st1, mc1, ms1, hK1, he1, hgr1, hOk1⟩ := ih _ _ _ _ _ _ _ _ hrun he
                    split at hK1
                    next => cases hK1
                    next ins1 rest1 hpg1 =>
                      split at hK1
                      next => cases hK1
                      next v1 hrv =>
                        obtain ⟨env2, h2', pc2, ls2, st2, mc2, ms2, hK2, he2, hgr2, hOk2⟩ := ih _ _ _ _ _ _ _ _ hK1 he1
                        exact ⟨env2, h2', pc2, ls2, st2, mc1 + mc2, ms1 + ms2, hK2, he2, ⟨by omega, by omega⟩, mx_c4 hg hLc hdc h4 hOk1 (hPg b pc1 _ hpg1).1 hrv hOk2⟩
end MXC5
