/-! what touches the stack and the locals alone, held against the model -/
section MXC1
theorem mx_ld_spec {t : Value → Bool} {ls ls' : mx_L} {i : Nat} {st st' : List Value} (h : mx_ld t ls i st = some (ls', st')) : ls' = ls ∧ ∃ v, mx_look ls i = some v ∧ t v = true ∧ st' = v :: st := by
  unfold mx_ld at h
  split at h
  next v hv =>
    split at h
    next ht => cases h; exact ⟨rfl, v, hv, ht, rfl⟩
    next => cases h
  next => cases h
theorem mx_st1_spec {t : Value → Bool} {nL : Nat} {ls ls' : mx_L} {i : Nat} {st st' : List Value} (h : mx_st1 t nL ls i st = some (ls', st')) : ∃ v, st = v :: st' ∧ t v = true ∧ i < nL ∧ ls' = mx_put1 ls i v := by
  unfold mx_st1 at h
  split at h
  next v r =>
    split at h
    next hc =>
      cases h
      simp only [Bool.and_eq_true, decide_eq_true_eq] at hc
      exact ⟨v, rfl, hc.1, hc.2, rfl⟩
    next => cases h
  next => cases h
theorem mx_st2_spec {nL : Nat} {ls ls' : mx_L} {i : Nat} {st st' : List Value} (h : mx_st2 nL ls i st = some (ls', st')) : ∃ v, st = v :: st' ∧ mx_isJ v = true ∧ i + 1 < nL ∧ ls' = mx_put2 ls i v := by
  unfold mx_st2 at h
  split at h
  next v r =>
    split at h
    next hc =>
      cases h
      simp only [Bool.and_eq_true, decide_eq_true_eq] at hc
      exact ⟨v, rfl, hc.1, hc.2, rfl⟩
    next => cases h
  next => cases h
theorem mx_b2_rel {al : List Nat} {sg : Nat → Nat} {rho : Nat → Int32} {ins : Instr} (f : Int32 → Int32 → Int32) (hf : ∀ a b z, mx_ar ins a b = some z → z = f a b) {st r' stk : List Value} (h : mx_b2 ins st = some r') (hst : mx_F2 (mx_R al sg rho) st stk) :
    ∃ (a b : Int32) (rr r : List Value) (v : Value), stk = .int b :: .int a :: rr ∧ r' = v :: r ∧ mx_R al sg rho v (.int (f a b)) ∧ mx_F2 (mx_R al sg rho) r rr ∧ ((∃ z, mx_ar ins a b = some z) ∨ ∃ x y, mx_arT ins x y = true ∧ mx_R al sg rho y (.int b)) := by
  unfold mx_b2 at h
  split at h
  next y x r =>
    cases hz : mx_ar ins x y with
    | none => rw [hz] at h; cases h
    | some z =>
      rw [hz] at h
      cases h
      obtain ⟨b, bs, rfl, hb, hs1⟩ := hst.c
      obtain ⟨a, rr, rfl, ha, hs2⟩ := hs1.c
      simp only [mx_R] at ha hb
      subst ha; subst hb
      exact ⟨x, y, rr, r, _, rfl, rfl, by rw [hf _ _ _ hz]; rfl, hs2, Or.inl ⟨z, hz⟩⟩
  next y x r hne =>
    split at h
    next hT =>
      cases h
      obtain ⟨b, bs, rfl, hb, hs1⟩ := hst.c
      obtain ⟨a, rr, rfl, ha, hs2⟩ := hs1.c
      have hT2 := hT
      unfold mx_arT at hT
      simp only [Bool.and_eq_true] at hT
      obtain ⟨x1, rfl⟩ := ha.i hT.1.1
      obtain ⟨y1, rfl⟩ := hb.i hT.1.2
      exact ⟨x1, y1, rr, r, _, rfl, rfl, ⟨_, rfl⟩, hs2, Or.inr ⟨x, y, hT2, hb⟩⟩
    next => cases h
  next => cases h
theorem mx_b2L_spec {ins : Instr} {st r' : List Value} (h : mx_b2L ins st = some r') : ∃ (x y z : Int64) (r : List Value), st = .long y :: .long x :: r ∧ mx_arL ins x y = some z ∧ r' = .long z :: r := by
  unfold mx_b2L at h
  split at h
  next y x r =>
    cases hz : mx_arL ins x y with
    | none => rw [hz] at h; cases h
    | some z => rw [hz] at h; cases h; exact ⟨x, y, z, r, rfl, hz, rfl⟩
  next => cases h
theorem mx_b2S_spec {ins : Instr} {st r' : List Value} (h : mx_b2S ins st = some r') : ∃ (x z : Int64) (y : Int32) (r : List Value), st = .int y :: .long x :: r ∧ mx_arS ins x y = some z ∧ r' = .long z :: r := by
  unfold mx_b2S at h
  split at h
  next y x r =>
    cases hz : mx_arS ins x y with
    | none => rw [hz] at h; cases h
    | some z => rw [hz] at h; cases h; exact ⟨x, z, y, r, rfl, hz, rfl⟩
  next => cases h
theorem mx_map_spec {α β : Type} {o : Option α} {a : β} {ls' : β} {st' : α} (h : o.map (fun r => (a, r)) = some (ls', st')) : o = some st' ∧ ls' = a := by
  cases o with
  | none => cases h
  | some x => cases h; exact ⟨rfl, rfl⟩
section
variable {p : Program} {l : Launch} {e : Env} {R : Room} {s : State} {m : MethodId} {args : Array Value} {below : List Frame} {meth : Method} {c : Code} {H : Heap} {locs : List Loc} {cells slots : Nat} {Q : State → Prop} {cc : ByteArray} {pc nL : Nat} {al : List Nat} {sg : Nat → Nat} {rho : Nat → Int32} {ins : Instr} {ls ls' : mx_L} {st st' stk : List Value} {sl : Array Slot} {lv : List (Nat × Value)}
set_option maxHeartbeats 2000000 in
theorem mx_c1 (hx : p.tables.exec = Jvm.exec) (hb : c.code = cc) (hdg : mx_sw ins = false → decode cc pc = .ok (ins, mx_len ins)) (h1 : mx_s1 nL ins ls st = some (ls', st')) (hl : lv_has sl nL lv) (hls : mx_F2 (mx_RL al sg rho) ls lv) (hst : mx_F2 (mx_R al sg rho) st stk)
    (kW : ∀ (sl' : Array Slot) (lv' : List (Nat × Value)) (stk' : List Value), lv_has sl' nL lv' → mx_F2 (mx_RL al sg rho) ls' lv' → mx_F2 (mx_R al sg rho) st' stk' → W p l e R s m args below meth c H locs cells slots Q (F0 m (pc + mx_len ins) sl' stk')) :
    W p l e R s m args below meth c H locs cells slots Q (F0 m pc sl stk) := by
  unfold mx_s1 at h1
  split at h1
  case h_1 n => cases h1; exact lv_iconst hx hb (hdg rfl) rfl (kW _ _ _ hl hls ⟨rfl, hst⟩)
  case h_2 n => cases h1; exact lv_bipush hx hb (hdg rfl) rfl (kW _ _ _ hl hls ⟨rfl, hst⟩)
  case h_3 n => cases h1; exact lv_sipush hx hb (hdg rfl) rfl (kW _ _ _ hl hls ⟨rfl, hst⟩)
  case h_4 n => cases h1; exact lv_lconst hx hb (hdg rfl) rfl (kW _ _ _ hl hls ⟨rfl, hst⟩)
  case h_5 => cases h1; exact lv_null hx hb (hdg rfl) (kW _ _ _ hl hls ⟨rfl, hst⟩)
  case h_6 i =>
    obtain ⟨rfl, v, hv, ht, rfl⟩ := mx_ld_spec h1
    obtain ⟨k, w, hk, hw⟩ := mx_look_get hls hv
    obtain ⟨x, rfl⟩ := hw.i ht
    exact lv_iload hx hb (hdg rfl) (lv_at hl k hk) (kW _ _ _ hl hls ⟨hw, hst⟩)
  case h_7 i =>
    obtain ⟨rfl, v, hv, ht, rfl⟩ := mx_ld_spec h1
    obtain ⟨k, w, hk, hw⟩ := mx_look_get hls hv
    obtain ⟨x, rfl⟩ := hw.i ht
    exact lv_iload_n hx hb (hdg rfl) rfl (lv_at hl k hk) (kW _ _ _ hl hls ⟨hw, hst⟩)
  case h_8 i =>
    obtain ⟨rfl, v, hv, ht, rfl⟩ := mx_ld_spec h1
    obtain ⟨k, w, hk, hw⟩ := mx_look_get hls hv
    obtain ⟨x, rfl, rfl⟩ := hw.j ht
    exact lv_lload hx hb (hdg rfl) (lv_at hl k hk) (kW _ _ _ hl hls ⟨hw, hst⟩)
  case h_9 i =>
    obtain ⟨rfl, v, hv, ht, rfl⟩ := mx_ld_spec h1
    obtain ⟨k, w, hk, hw⟩ := mx_look_get hls hv
    obtain ⟨x, rfl, rfl⟩ := hw.j ht
    exact lv_lload_n hx hb (hdg rfl) rfl (lv_at hl k hk) (kW _ _ _ hl hls ⟨hw, hst⟩)
  case h_10 i =>
    obtain ⟨rfl, v, hv, ht, rfl⟩ := mx_ld_spec h1
    obtain ⟨k, w, hk, hw⟩ := mx_look_get hls hv
    rcases hw.q ht with rfl | ⟨x, rfl⟩
    · exact lv_aloadN hx hb (hdg rfl) (lv_at hl k hk) (kW _ _ _ hl hls ⟨hw, hst⟩)
    · exact lv_aload hx hb (hdg rfl) (lv_at hl k hk) (kW _ _ _ hl hls ⟨hw, hst⟩)
  case h_11 i =>
    obtain ⟨rfl, v, hv, ht, rfl⟩ := mx_ld_spec h1
    obtain ⟨k, w, hk, hw⟩ := mx_look_get hls hv
    rcases hw.q ht with rfl | ⟨x, rfl⟩
    · exact lv_aload_nN hx hb (hdg rfl) rfl (lv_at hl k hk) (kW _ _ _ hl hls ⟨hw, hst⟩)
    · exact lv_aload_n hx hb (hdg rfl) rfl (lv_at hl k hk) (kW _ _ _ hl hls ⟨hw, hst⟩)
  case h_12 i =>
    obtain ⟨v, rfl, ht, hi, rfl⟩ := mx_st1_spec h1
    obtain ⟨w, rr, rfl, hw, hs1⟩ := hst.c
    obtain ⟨x, rfl⟩ := hw.i ht
    exact lv_istore hx hb (hdg rfl) hl hi rfl (fun sl' hl' => kW _ _ _ hl' (mx_F2_put1 hls hw) hs1)
  case h_13 i =>
    obtain ⟨v, rfl, ht, hi, rfl⟩ := mx_st1_spec h1
    obtain ⟨w, rr, rfl, hw, hs1⟩ := hst.c
    obtain ⟨x, rfl⟩ := hw.i ht
    exact lv_istore_n hx hb (hdg rfl) rfl hl hi rfl (fun sl' hl' => kW _ _ _ hl' (mx_F2_put1 hls hw) hs1)
  case h_14 i =>
    obtain ⟨v, rfl, ht, hi, rfl⟩ := mx_st1_spec h1
    obtain ⟨w, rr, rfl, hw, hs1⟩ := hst.c
    rcases hw.q ht with rfl | ⟨x, rfl⟩
    · exact lv_astoreN hx hb (hdg rfl) hl hi rfl (fun sl' hl' => kW _ _ _ hl' (mx_F2_put1 hls hw) hs1)
    · exact lv_astore hx hb (hdg rfl) hl hi rfl (fun sl' hl' => kW _ _ _ hl' (mx_F2_put1 hls hw) hs1)
  case h_15 i =>
    obtain ⟨v, rfl, ht, hi, rfl⟩ := mx_st1_spec h1
    obtain ⟨w, rr, rfl, hw, hs1⟩ := hst.c
    rcases hw.q ht with rfl | ⟨x, rfl⟩
    · exact lv_astore_nN hx hb (hdg rfl) rfl hl hi rfl (fun sl' hl' => kW _ _ _ hl' (mx_F2_put1 hls hw) hs1)
    · exact lv_astore_n hx hb (hdg rfl) rfl hl hi rfl (fun sl' hl' => kW _ _ _ hl' (mx_F2_put1 hls hw) hs1)
  case h_16 i =>
    obtain ⟨v, rfl, ht, hi, rfl⟩ := mx_st2_spec h1
    obtain ⟨w, rr, rfl, hw, hs1⟩ := hst.c
    obtain ⟨x, rfl, rfl⟩ := hw.j ht
    exact lv_lstore hx hb (hdg rfl) hl hi rfl (fun sl' hl' => kW _ _ _ hl' (mx_F2_put2 hls hw) hs1)
  case h_17 i =>
    obtain ⟨v, rfl, ht, hi, rfl⟩ := mx_st2_spec h1
    obtain ⟨w, rr, rfl, hw, hs1⟩ := hst.c
    obtain ⟨x, rfl, rfl⟩ := hw.j ht
    exact lv_lstore_n hx hb (hdg rfl) rfl hl hi rfl (fun sl' hl' => kW _ _ _ hl' (mx_F2_put2 hls hw) hs1)
  case h_18 i n =>
    split at h1
    next x hv =>
      split at h1
      next hi =>
        cases h1
        obtain ⟨k, w, hk, hw⟩ := mx_look_get hls hv
        simp only [mx_R] at hw
        subst hw
        exact lv_iinc hx hb (hdg rfl) hl hk rfl hi rfl (fun sl' hl' => kW _ _ _ hl' (mx_F2_put1 hls rfl) hst)
      next => cases h1
    next => cases h1
  case h_19 =>
    obtain ⟨g1, rfl⟩ := mx_map_spec h1
    obtain ⟨a, b, rr, r, v, rfl, rfl, hv, hr, -⟩ := mx_b2_rel (fun x y => x + y) (fun a b z h => by simpa [mx_ar] using h.symm) g1 hst
    exact lv_iadd hx hb (hdg rfl) (kW _ _ _ hl hls ⟨hv, hr⟩)
  case h_20 =>
    obtain ⟨g1, rfl⟩ := mx_map_spec h1
    obtain ⟨a, b, rr, r, v, rfl, rfl, hv, hr, -⟩ := mx_b2_rel (fun x y => x - y) (fun a b z h => by simpa [mx_ar] using h.symm) g1 hst
    exact lv_isub hx hb (hdg rfl) (kW _ _ _ hl hls ⟨hv, hr⟩)
  case h_21 =>
    obtain ⟨g1, rfl⟩ := mx_map_spec h1
    obtain ⟨a, b, rr, r, v, rfl, rfl, hv, hr, -⟩ := mx_b2_rel (fun x y => x * y) (fun a b z h => by simpa [mx_ar] using h.symm) g1 hst
    exact lv_imul hx hb (hdg rfl) (kW _ _ _ hl hls ⟨hv, hr⟩)
  case h_22 =>
    obtain ⟨g1, rfl⟩ := mx_map_spec h1
    obtain ⟨a, b, rr, r, v, rfl, rfl, hv, hr, -⟩ := mx_b2_rel (fun x y => x &&& y) (fun a b z h => by simpa [mx_ar] using h.symm) g1 hst
    exact lv_iand hx hb (hdg rfl) (kW _ _ _ hl hls ⟨hv, hr⟩)
  case h_23 =>
    obtain ⟨g1, rfl⟩ := mx_map_spec h1
    obtain ⟨a, b, rr, r, v, rfl, rfl, hv, hr, -⟩ := mx_b2_rel (fun x y => x ||| y) (fun a b z h => by simpa [mx_ar] using h.symm) g1 hst
    exact lv_ior hx hb (hdg rfl) (kW _ _ _ hl hls ⟨hv, hr⟩)
  case h_24 =>
    obtain ⟨g1, rfl⟩ := mx_map_spec h1
    obtain ⟨a, b, rr, r, v, rfl, rfl, hv, hr, -⟩ := mx_b2_rel (fun x y => x ^^^ y) (fun a b z h => by simpa [mx_ar] using h.symm) g1 hst
    exact lv_ixor hx hb (hdg rfl) (kW _ _ _ hl hls ⟨hv, hr⟩)
  case h_25 =>
    obtain ⟨g1, rfl⟩ := mx_map_spec h1
    obtain ⟨a, b, rr, r, v, rfl, rfl, hv, hr, -⟩ := mx_b2_rel (fun x y => x <<< (y &&& 31)) (fun a b z h => by simpa [mx_ar] using h.symm) g1 hst
    exact lv_ishl hx hb (hdg rfl) (kW _ _ _ hl hls ⟨hv, hr⟩)
  case h_26 =>
    obtain ⟨g1, rfl⟩ := mx_map_spec h1
    obtain ⟨a, b, rr, r, v, rfl, rfl, hv, hr, -⟩ := mx_b2_rel (fun x y => x >>> (y &&& 31)) (fun a b z h => by simpa [mx_ar] using h.symm) g1 hst
    exact lv_ishr hx hb (hdg rfl) (kW _ _ _ hl hls ⟨hv, hr⟩)
  case h_27 =>
    obtain ⟨g1, rfl⟩ := mx_map_spec h1
    obtain ⟨a, b, rr, r, v, rfl, rfl, hv, hr, hz⟩ := mx_b2_rel (fun x y => x / y) (fun a b z h => by
      simp only [mx_ar] at h
      split at h
      · cases h
      · cases h; rfl) g1 hst
    refine lv_idiv hx hb (hdg rfl) (fun h0 => ?_) (kW _ _ _ hl hls ⟨hv, hr⟩)
    subst h0
    rcases hz with ⟨z, hz⟩ | ⟨x, y, hT, hy⟩
    · simp [mx_ar] at hz
    · simp only [mx_arT, Bool.and_eq_true] at hT
      have h2 := hT.2
      split at h2
      next c0 =>
        simp only [mx_R] at hy
        cases hy
        simp at h2
      next => cases h2
  case h_28 =>
    obtain ⟨g1, rfl⟩ := mx_map_spec h1
    obtain ⟨a, b, rr, r, v, rfl, rfl, hv, hr, hz⟩ := mx_b2_rel (fun x y => x - x / y * y) (fun a b z h => by
      simp only [mx_ar] at h
      split at h
      · cases h
      · cases h; rfl) g1 hst
    refine lv_irem hx hb (hdg rfl) (fun h0 => ?_) (kW _ _ _ hl hls ⟨hv, hr⟩)
    subst h0
    rcases hz with ⟨z, hz⟩ | ⟨x, y, hT, hy⟩
    · simp [mx_ar] at hz
    · simp only [mx_arT, Bool.and_eq_true] at hT
      have h2 := hT.2
      split at h2
      next c0 =>
        simp only [mx_R] at hy
        cases hy
        simp at h2
      next => cases h2
  case h_29 =>
    obtain ⟨g1, rfl⟩ := mx_map_spec h1
    obtain ⟨x, y, z, r, rfl, hz, rfl⟩ := mx_b2L_spec g1
    obtain ⟨w, rr, rfl, hw, hs1⟩ := hst.c
    obtain ⟨w2, rr, rfl, hw2, hs2⟩ := hs1.c
    simp only [mx_R] at hw hw2
    subst hw; subst hw2
    simp only [mx_arL, Option.some.injEq] at hz
    exact lv_ladd hx hb (hdg rfl) (kW _ _ _ hl hls ⟨by rw [hz]; rfl, hs2⟩)
  case h_30 =>
    obtain ⟨g1, rfl⟩ := mx_map_spec h1
    obtain ⟨x, y, z, r, rfl, hz, rfl⟩ := mx_b2L_spec g1
    obtain ⟨w, rr, rfl, hw, hs1⟩ := hst.c
    obtain ⟨w2, rr, rfl, hw2, hs2⟩ := hs1.c
    simp only [mx_R] at hw hw2
    subst hw; subst hw2
    simp only [mx_arL, Option.some.injEq] at hz
    exact lv_lsub hx hb (hdg rfl) (kW _ _ _ hl hls ⟨by rw [hz]; rfl, hs2⟩)
  case h_31 =>
    obtain ⟨g1, rfl⟩ := mx_map_spec h1
    obtain ⟨x, y, z, r, rfl, hz, rfl⟩ := mx_b2L_spec g1
    obtain ⟨w, rr, rfl, hw, hs1⟩ := hst.c
    obtain ⟨w2, rr, rfl, hw2, hs2⟩ := hs1.c
    simp only [mx_R] at hw hw2
    subst hw; subst hw2
    simp only [mx_arL, Option.some.injEq] at hz
    exact lv_lmul hx hb (hdg rfl) (kW _ _ _ hl hls ⟨by rw [hz]; rfl, hs2⟩)
  case h_32 =>
    obtain ⟨g1, rfl⟩ := mx_map_spec h1
    obtain ⟨x, y, z, r, rfl, hz, rfl⟩ := mx_b2L_spec g1
    obtain ⟨w, rr, rfl, hw, hs1⟩ := hst.c
    obtain ⟨w2, rr, rfl, hw2, hs2⟩ := hs1.c
    simp only [mx_R] at hw hw2
    subst hw; subst hw2
    simp only [mx_arL, Option.some.injEq] at hz
    exact lv_land hx hb (hdg rfl) (kW _ _ _ hl hls ⟨by rw [hz]; rfl, hs2⟩)
  case h_33 =>
    obtain ⟨g1, rfl⟩ := mx_map_spec h1
    obtain ⟨x, y, z, r, rfl, hz, rfl⟩ := mx_b2L_spec g1
    obtain ⟨w, rr, rfl, hw, hs1⟩ := hst.c
    obtain ⟨w2, rr, rfl, hw2, hs2⟩ := hs1.c
    simp only [mx_R] at hw hw2
    subst hw; subst hw2
    simp only [mx_arL, Option.some.injEq] at hz
    exact lv_lor hx hb (hdg rfl) (kW _ _ _ hl hls ⟨by rw [hz]; rfl, hs2⟩)
  case h_34 =>
    obtain ⟨g1, rfl⟩ := mx_map_spec h1
    obtain ⟨x, y, z, r, rfl, hz, rfl⟩ := mx_b2L_spec g1
    obtain ⟨w, rr, rfl, hw, hs1⟩ := hst.c
    obtain ⟨w2, rr, rfl, hw2, hs2⟩ := hs1.c
    simp only [mx_R] at hw hw2
    subst hw; subst hw2
    simp only [mx_arL, Option.some.injEq] at hz
    exact lv_lxor hx hb (hdg rfl) (kW _ _ _ hl hls ⟨by rw [hz]; rfl, hs2⟩)
  case h_35 =>
    obtain ⟨g1, rfl⟩ := mx_map_spec h1
    obtain ⟨x, z, y, r, rfl, hz, rfl⟩ := mx_b2S_spec g1
    obtain ⟨w, rr, rfl, hw, hs1⟩ := hst.c
    obtain ⟨w2, rr, rfl, hw2, hs2⟩ := hs1.c
    simp only [mx_R] at hw hw2
    subst hw; subst hw2
    simp only [mx_arS, Option.some.injEq] at hz
    exact lv_lshl hx hb (hdg rfl) hz (kW _ _ _ hl hls ⟨rfl, hs2⟩)
  case h_36 =>
    obtain ⟨g1, rfl⟩ := mx_map_spec h1
    obtain ⟨x, z, y, r, rfl, hz, rfl⟩ := mx_b2S_spec g1
    obtain ⟨w, rr, rfl, hw, hs1⟩ := hst.c
    obtain ⟨w2, rr, rfl, hw2, hs2⟩ := hs1.c
    simp only [mx_R] at hw hw2
    subst hw; subst hw2
    simp only [mx_arS, Option.some.injEq] at hz
    exact lv_lshr hx hb (hdg rfl) hz (kW _ _ _ hl hls ⟨rfl, hs2⟩)
  case h_37 =>
    split at h1
    next x r =>
      cases h1
      obtain ⟨w, rr, rfl, hw, hs1⟩ := hst.c
      simp only [mx_R] at hw
      subst hw
      exact lv_ineg hx hb (hdg rfl) (kW _ _ _ hl hls ⟨rfl, hs1⟩)
    next => cases h1
  case h_38 =>
    split at h1
    next x r =>
      cases h1
      obtain ⟨w, rr, rfl, hw, hs1⟩ := hst.c
      simp only [mx_R] at hw
      subst hw
      exact lv_i2l hx hb (hdg rfl) rfl (kW _ _ _ hl hls ⟨rfl, hs1⟩)
    next => cases h1
  case h_39 =>
    split at h1
    next x r =>
      cases h1
      obtain ⟨w, rr, rfl, hw, hs1⟩ := hst.c
      simp only [mx_R] at hw
      subst hw
      exact lv_l2i hx hb (hdg rfl) rfl (kW _ _ _ hl hls ⟨rfl, hs1⟩)
    next => cases h1
  case h_40 =>
    split at h1
    next x r =>
      cases h1
      obtain ⟨w, rr, rfl, hw, hs1⟩ := hst.c
      simp only [mx_R] at hw
      subst hw
      exact lv_i2b hx hb (hdg rfl) rfl (kW _ _ _ hl hls ⟨rfl, hs1⟩)
    next => cases h1
  case h_41 =>
    split at h1
    next y x r =>
      cases h1
      obtain ⟨w, rr, rfl, hw, hs1⟩ := hst.c
      obtain ⟨w2, rr, rfl, hw2, hs2⟩ := hs1.c
      simp only [mx_R] at hw hw2
      subst hw; subst hw2
      exact W.lcmp hx hb (hdg rfl) (kW _ _ _ hl hls ⟨rfl, hs2⟩)
    next => cases h1
  case h_42 =>
    split at h1
    next v r =>
      split at h1
      next => cases h1
      next hJ =>
        cases h1
        obtain ⟨w, rr, rfl, hw, hs1⟩ := hst.c
        exact lv_dup hx hb (hdg rfl) (hw.cat.trans (mx_cat_j (by simpa using hJ))) (kW _ _ _ hl hls ⟨hw, hw, hs1⟩)
    next => cases h1
  case h_43 =>
    split at h1
    next v r =>
      split at h1
      next => cases h1
      next hJ =>
        cases h1
        obtain ⟨w, rr, rfl, hw, hs1⟩ := hst.c
        exact lv_pop hx hb (hdg rfl) (hw.cat.trans (mx_cat_j (by simpa using hJ))) (kW _ _ _ hl hls hs1)
    next => cases h1
  case h_44 =>
    split at h1
    next v v2 r =>
      split at h1
      next => cases h1
      next hJ =>
        cases h1
        simp only [Bool.or_eq_true, not_or, Bool.not_eq_true] at hJ
        obtain ⟨w, rr, rfl, hw, hs1⟩ := hst.c
        obtain ⟨w2, rr, rfl, hw2, hs2⟩ := hs1.c
        exact lv_dup_x1 hx hb (hdg rfl) (hw.cat.trans (mx_cat_j hJ.1)) (hw2.cat.trans (mx_cat_j hJ.2)) (kW _ _ _ hl hls ⟨hw, hw2, hw, hs2⟩)
    next => cases h1
  case h_45 =>
    split at h1
    next v v2 r =>
      split at h1
      next => cases h1
      next hJ =>
        cases h1
        simp only [Bool.or_eq_true, not_or, Bool.not_eq_true] at hJ
        obtain ⟨w, rr, rfl, hw, hs1⟩ := hst.c
        obtain ⟨w2, rr, rfl, hw2, hs2⟩ := hs1.c
        exact lv_dup2_11 hx hb (hdg rfl) (hw.cat.trans (mx_cat_j hJ.1)) (hw2.cat.trans (mx_cat_j hJ.2)) (kW _ _ _ hl hls ⟨hw, hw2, hw, hw2, hs2⟩)
    next => cases h1
  case h_46 => cases h1
end
end MXC1
