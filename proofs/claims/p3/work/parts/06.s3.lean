/-! what touches the heap, held against the model -/
section MXC3
def mx_simple : Value → Bool
  | .int _ => true
  | .long _ => true
  | .null => true
  | _ => false
/-- what the tables say of the classes -/
def mx_Cl (P : mx_P) (tb : List Cond) : Prop := ∀ (ci : Nat) (q : vw_C), (mx_cl P)[ci]? = some q → (∀ w ∈ u_ws q.1 q.2.1 q.2.2, w ∈ tb) ∧ (∀ k, k < q.2.2 → parseFieldDescriptor (q.2.1 k).2.2.1 = some (mx_ft P ci k)) ∧ (∀ a, a < q.2.2 → ∀ b, b < q.2.2 → a ≠ b → (q.2.1 a).2.1 ≠ (q.2.1 b).2.1) ∧ (∀ j, j < q.2.2 → defaultValue (mx_ft P ci j) = vp_V (mx_fd P ci) j) ∧ (∀ v ∈ mx_fd P ci, mx_simple v = true) ∧ (mx_fd P ci).length = q.2.2
def mx_Ct (P : mx_P) : Prop := ∀ (t : Nat) (C : String), (mx_TY P)[t]? = some (.object C) → ∃ r : vw_C, (mx_cl P)[mx_ec P t]? = some r ∧ r.1 = C
/-- the word of an instruction's link -/
def mx_Lk (P : mx_P) (G : mx_G) (tb : List Cond) (mi : Nat) (ins : Instr) (a b : Nat) : Prop := match ins with
  | .getfield idx => ∃ q : vw_C, (mx_cl P)[a]? = some q ∧ b < q.2.2 ∧ Cond.fieldLink (mx_mt P mi).1.cls idx (q.2.1 b).1 (q.2.1 b).2.1 (q.2.1 b).2.2.1 ∈ tb
  | .putfield idx => ∃ q : vw_C, (mx_cl P)[a]? = some q ∧ b < q.2.2 ∧ Cond.fieldLink (mx_mt P mi).1.cls idx (q.2.1 b).1 (q.2.1 b).2.1 (q.2.1 b).2.2.1 ∈ tb ∧ ((q.2.1 b).2.2.2 = false ∨ ((q.2.1 b).2.2.2 = true ∧ (mx_mt P mi).1.name = "<init>" ∧ (q.2.1 b).1 = (mx_mt P mi).1.cls))
  | .new idx => ∃ q : vw_C, (mx_cl P)[a]? = some q ∧ Cond.classLink (mx_mt P mi).1.cls idx q.1 ∈ tb ∧ Cond.instantiable q.1 q.2.2 ∈ tb ∧ Cond.initialized q.1 ∈ tb
  | .newarray ty => (mx_TY P)[a]? = some (newarray.typeOf ty) ∧ Cond.arrayClass (newarray.typeOf ty) ∈ tb ∧ (ty = .int ∨ ty = .boolean ∨ ty = .long ∨ ty = .byte)
  | .anewarray idx => ∃ C : String, (mx_TY P)[a]? = some (.object C) ∧ Cond.classLink (mx_mt P mi).1.cls idx C ∈ tb ∧ C ∈ G.2.1
  | .ldc idx => (b = 0 ∧ Cond.constant (mx_mt P mi).1.cls idx (Int32.ofNat a) ∈ tb) ∨ (b ≠ 0 ∧ a < 4294967296 ∧ ∃ (k : Nat) (tx : String), a = k + 1 ∧ G.2.2[k]? = some ((mx_mt P mi).1.cls, idx, tx))
  | .ldc2_w idx => Cond.constantLong (mx_mt P mi).1.cls idx (Int64.ofNat a) ∈ tb
  | .invokespecial idx => a = 0 → Cond.methodLink (mx_mt P mi).1.cls idx objectInit ∈ tb ∧ Cond.instanceMethod objectInit ∈ tb ∧ Cond.code objectInit ⟨#[0xb1]⟩ 1 none ∈ tb
  | .invokestatic idx => a = 0 → Cond.methodLink (mx_mt P mi).1.cls idx arraycopyName ∈ tb ∧ Cond.native arraycopyName ∈ tb ∧ Cond.static arraycopyName ∈ tb ∧ Cond.initialized "java/lang/System" ∈ tb
  | _ => True
/-- how much room a heap takes -/
def mx_cz : mx_C → Nat
  | .inl q => q.2.1
  | .inr q => q.2.length
def mx_sz : mx_H → Nat
  | [] => 0
  | c :: h => mx_cz c + mx_sz h
theorem mx_sz_app : ∀ (h : mx_H) (c : mx_C), mx_sz (h ++ [c]) = mx_sz h + mx_cz c
  | [], c => by simp [mx_sz]
  | x :: h, c => by simp only [List.cons_append, mx_sz, mx_sz_app h c]; omega
theorem mx_sz_set : ∀ {h : mx_H} {k : Nat} {c c' : mx_C}, h[k]? = some c → mx_cz c' = mx_cz c → mx_sz (h.set k c') = mx_sz h
  | [], _, _, _, hk, _ => by simp at hk
  | x :: h, 0, c, c', hk, hz => by simp at hk; subst hk; simp [mx_sz, hz]
  | x :: h, k + 1, c, c', hk, hz => by
    simp at hk
    simp [mx_sz, mx_sz_set hk hz]
theorem mx_idx_spec {n j : Nat} {x : Int32} (h : mx_idx n x = some j) : vp_in x n ∧ j = x.toNatClampNeg ∧ j < n := by
  unfold mx_idx at h
  split at h
  next => cases h
  next hc => cases h; exact ⟨hc, rfl, Nat.not_le.mp fun q => hc (Or.inr q)⟩
theorem mx_at_up (d : Value) (us : List (Nat × Value)) (j : Nat) (v : Value) (i : Nat) : mx_at d (mx_up d us j v) i = if i = j then v else mx_at d us i := by
  unfold mx_up
  split
  next h =>
    split
    next hi => rw [hi]; exact h.2
    next => rfl
  next =>
    simp only [mx_at, mx_look]
    by_cases hi : i = j
    · subst hi
      rw [if_pos rfl, show Nat.beq i i = true from Nat.beq_refl i]; rfl
    · rw [if_neg hi, show Nat.beq j i = false from by
        cases hb : Nat.beq j i with
        | false => rfl
        | true => exact absurd (Nat.eq_of_beq_eq_true hb).symm hi]; rfl
theorem mx_fit_spec {al : List Nat} {sg : Nat → Nat} {rho : Nat → Int32} {ty : FieldType} {a w : Value} (h : mx_fit ty a = true) (hw : mx_R al sg rho a w) : narrow ty w = w ∧ fits ty w = true := by
  cases ty with
  | int =>
    obtain ⟨x, rfl⟩ := hw.i h
    exact ⟨rfl, rfl⟩
  | long =>
    obtain ⟨x, -, rfl⟩ := hw.j h
    exact ⟨rfl, rfl⟩
  | boolean =>
    cases a with
    | int x =>
      simp only [mx_R] at hw
      subst hw
      simp only [mx_fit, mx_01, Bool.or_eq_true, decide_eq_true_eq] at h
      rcases h with rfl | rfl <;> exact ⟨rfl, rfl⟩
    | _ => simp [mx_fit, mx_01] at h
  | object C => rcases hw.q h with rfl | ⟨q, rfl⟩ <;> exact ⟨rfl, rfl⟩
  | array t => rcases hw.q h with rfl | ⟨q, rfl⟩ <;> exact ⟨rfl, rfl⟩
  | _ => simp [mx_fit] at h
theorem mx_look_app : ∀ (a b : List (Nat × Value)) (j : Nat), mx_look (a ++ b) j = match mx_look a j with
    | some v => some v
    | none => mx_look b j
  | [], _, _ => rfl
  | q :: a, b, j => by
    simp only [List.cons_append, mx_look]
    cases Nat.beq q.1 j with
    | true => rfl
    | false => simp only [cond_false]; exact mx_look_app a b j
theorem mx_look_rng (g : Nat → Value) (dp j : Nat) : ∀ n : Nat, mx_look ((List.range n).map (fun i => (dp + i, g i))) j = if dp ≤ j ∧ j < dp + n then some (g (j - dp)) else none
  | 0 => by rw [if_neg (by omega)]; rfl
  | n + 1 => by
    rw [List.range_succ, List.map_append, mx_look_app, mx_look_rng g dp j n]
    by_cases h : dp ≤ j ∧ j < dp + n
    · rw [if_pos h, if_pos (by omega)]
    · rw [if_neg h]
      simp only [List.map_cons, List.map_nil, mx_look]
      by_cases h2 : dp + n = j
      · rw [if_pos (by omega), show Nat.beq (dp + n) j = true from by rw [h2]; exact Nat.beq_refl j, show j - dp = n by omega]; rfl
      · rw [if_neg (by omega), show Nat.beq (dp + n) j = false from by
          cases hb : Nat.beq (dp + n) j with
          | false => rfl
          | true => exact absurd (Nat.eq_of_beq_eq_true hb) h2]; rfl
theorem mx_isTy_spec {P : mx_P} {tys : List (ClassId × FieldType)} {t : Nat} {ty ty' : FieldType} {cA : ClassId} (hT : tys.map Prod.snd = mx_TY P) (h : mx_isTy P t ty = true) (ht : tys[t]? = some (cA, ty')) : ty' = ty := by
  unfold mx_isTy at h
  have e : (mx_TY P)[t]? = some ty' := by rw [← hT, List.getElem?_map, ht]; rfl
  rw [e] at h
  exact of_decide_eq_true h
theorem mx_F2_simple {al : List Nat} {sg : Nat → Nat} {rho : Nat → Int32} : ∀ {fs : List Value}, (∀ v ∈ fs, mx_simple v = true) → mx_F2 (mx_R al sg rho) fs fs
  | [], _ => trivial
  | v :: fs, h => by
    refine ⟨?_, mx_F2_simple (fun w hw => h w (List.mem_cons_of_mem _ hw))⟩
    have hv := h v List.mem_cons_self
    cases v <;> simp [mx_simple] at hv <;> rfl
section
variable {l : Launch} {P : mx_P} {G : mx_G} {tb : List Cond} {rho : Nat → Int32} {d mi pc pcn : Nat} {ls : mx_L} {st st' : List Value} {h h' : mx_H} {pc2 : Nat} {ls2 : mx_L} {st2 : List Value} {h2 : mx_H} {mc ms nc ns : Nat}
variable {p : Program} {e : Env} {R : Room} {s : State} {m : MethodId} {args : Array Value} {below : List Frame} {meth : Method} {c : Code} {H H' : Heap} {locs locs' : List Loc} {cells slots : Nat} {Q : State → Prop} {sl : Array Slot} {stk stk' : List Value} {ws ws' : va_W} {n0 : Nat} {D : va_G} {tys : List (ClassId × FieldType)} {sg : Nat → Nat}
theorem mx_go (kOk : mx_Ok l P G tb rho d mi pcn ls st' h' pc2 ls2 st2 h2 mc ms) (hFr : mx_Fr P G tb n0 D tys sg rho p R s m args meth c d mi) (hc : cells + (nc + mc) ≤ R.cells) (hs : slots + (ns + ms) ≤ R.slots)
    (hk : ∀ (H' : Heap) (locs' : List Loc) (sl' : Array Slot) (stk' : List Value) (ws' : va_W), (∃ be : List Nat, ws'.map Prod.fst = ws.map Prod.fst ++ be) → mx_In P n0 D tys sg rho s H' locs' mi ws' h2 ls2 st2 sl' stk' → W p l e R s m args below meth c H' locs' (cells + (nc + mc)) (slots + (ns + ms)) Q (F0 m pc2 sl' stk'))
    (pre : ∃ be : List Nat, ws'.map Prod.fst = ws.map Prod.fst ++ be) (hI : mx_In P n0 D tys sg rho s H' locs' mi ws' h' ls st' sl stk') : W p l e R s m args below meth c H' locs' (cells + nc) (slots + ns) Q (F0 m pcn sl stk') := by
  refine kOk p e R s m args below meth c H' locs' (cells + nc) (slots + ns) Q sl stk' ws' n0 D tys sg hFr hI (by omega) (by omega) (fun H2 locs2 sl2 stk2 ws2 pre2 hI2 => ?_)
  rw [Nat.add_assoc, Nat.add_assoc]
  refine hk H2 locs2 sl2 stk2 ws2 ?_ hI2
  obtain ⟨b1, e1⟩ := pre
  obtain ⟨b2, e2⟩ := pre2
  exact ⟨b1 ++ b2, by rw [e2, e1, List.append_assoc]⟩
/-- the point behind a change of one cell -/
theorem mx_In.set {k q : Nat} {e0 e1 : va_E} {c' : mx_C} (hP : va_P D (mx_cl P) (ws.set k (q, e1)) H') (hD : va_D (fun q => n0 ≤ q) (ws.set k (q, e1))) (hS : va_S (fun q => n0 ≤ q) s.heap H' locs') (hM : mx_S sg rho tys ws h) (hk : ws[k]? = some (q, e0)) (hc : mx_RC (ws.map Prod.fst) sg rho tys c' e1)
    (hl : ∃ lv : List (Nat × Value), lv_has sl (mx_mt P mi).2.2.1 lv ∧ mx_F2 (mx_RL (ws.map Prod.fst) sg rho) ls lv) (hst : mx_F2 (mx_R (ws.map Prod.fst) sg rho) st' stk') : mx_In P n0 D tys sg rho s H' locs' mi (ws.set k (q, e1)) (h.set k c') ls st' sl stk' := by
  refine ⟨hP, hD, hS, hM.set hk hc, ?_, ?_⟩
  · rw [mx_map_set hk]; exact hl
  · rw [mx_map_set hk]; exact hst
theorem mx_In.push {q : Nat} {e1 : va_E} {c' : mx_C} (hP : va_P D (mx_cl P) (ws ++ [(q, e1)]) H') (hD : va_D (fun q => n0 ≤ q) (ws ++ [(q, e1)])) (hS : va_S (fun q => n0 ≤ q) s.heap H' locs') (hM : mx_S sg rho tys ws h) (hc : mx_RC (ws.map Prod.fst ++ [q]) sg rho tys c' e1)
    (hl : ∃ lv : List (Nat × Value), lv_has sl (mx_mt P mi).2.2.1 lv ∧ mx_F2 (mx_RL (ws.map Prod.fst) sg rho) ls lv) (hst : mx_F2 (mx_R (ws.map Prod.fst) sg rho) st stk) : mx_In P n0 D tys sg rho s H' locs' mi (ws ++ [(q, e1)]) (h ++ [c']) ls (.ref h.length :: st) sl (.ref q :: stk) := by
  have e0 : (ws ++ [(q, e1)]).map Prod.fst = ws.map Prod.fst ++ [q] := by simp
  refine ⟨hP, hD, hS, hM.push hc, ?_, ?_⟩
  · obtain ⟨lv, h1, h2⟩ := hl
    rw [e0]
    exact ⟨lv, h1, h2.imp (fun _ _ r => ⟨r.1, r.2.mono _⟩)⟩
  · rw [e0]
    refine ⟨⟨q, ?_, rfl⟩, hst.imp (fun _ _ r => r.mono _)⟩
    have hlen := mx_F2.len hM
    rw [hlen, List.getElem?_append_right (by simp)]
    simp
theorem mx_ref_at {k : Nat} {r : List Value} {cc : mx_C} (hM : mx_S sg rho tys ws h) (hk : h[k]? = some cc) (hst : mx_F2 (mx_R (ws.map Prod.fst) sg rho) (.ref k :: r) stk) : ∃ (q : Nat) (e0 : va_E) (rr : List Value), stk = .ref q :: rr ∧ ws[k]? = some (q, e0) ∧ mx_RC (ws.map Prod.fst) sg rho tys cc e0 ∧ mx_F2 (mx_R (ws.map Prod.fst) sg rho) r rr := by
  obtain ⟨w, rr, e1, hw, hr⟩ := hst.c
  obtain ⟨q, hq, hw⟩ := hw
  obtain ⟨q', e0, g1, g2, g3⟩ := hM.at hk
  cases hq.symm.trans g2
  exact ⟨q, e0, rr, by rw [e1, hw], g1, g3, hr⟩
end
end MXC3
