/-! forks and branches, held against the model -/
section MXC2
theorem mx_F2.setL {α β : Type} {R : α → β → Prop} : ∀ {as : List α} {bs : List β} {k : Nat} {a : α} {b : β}, mx_F2 R as bs → bs[k]? = some b → R a b → mx_F2 R (as.set k a) bs
  | [], [], _, _, _, _, _, _ => trivial
  | _ :: _, _ :: _, 0, _, _, h, hb, r => by simp at hb; subst hb; exact ⟨r, h.2⟩
  | _ :: as, _ :: bs, k + 1, _, _, h, hb, r => ⟨h.1, mx_F2.setL (as := as) (bs := bs) h.2 (by simpa using hb) r⟩
  | [], _ :: _, _, _, _, h, _, _ => h.elim
  | _ :: _, [], _, _, _, h, _, _ => h.elim
theorem mx_rng_mem : ∀ (n : Nat) (lo z : Int), lo ≤ z → z < lo + n → z ∈ mx_rng lo n
  | 0, lo, z, h1, h2 => by omega
  | n + 1, lo, z, h1, h2 => by
    simp only [mx_rng, List.mem_cons]
    by_cases h : z = lo
    · exact Or.inl h
    · exact Or.inr (mx_rng_mem n (lo + 1) z (by omega) (by omega))
theorem mx_small_spec {env : mx_E} {st : List Value} {k i : Nat} {lo hi : Int} (h : mx_small env st k = some (i, lo, hi)) : st[k]? = some (.retAddr i) ∧ env[i]? = some (lo, hi) := by
  unfold mx_small at h
  split at h
  next j hj =>
    split at h
    next l1 h1 he =>
      split at h
      next => cases h; exact ⟨hj, he⟩
      next => cases h
    next => cases h
  next => cases h
theorem mx_sT_spec {rho : Nat → Int32} {ins : Instr} {env : mx_E} {st : List Value} {fs : List (mx_E × List Value)} (h : mx_sT ins env st = some fs) (he : mx_env rho env) : ∃ q ∈ fs, mx_env rho q.1 ∧ q.2 = st := by
  unfold mx_sT at h
  split at h
  next dflt lo hi offs =>
    split at h
    next i r =>
      split at h
      next l1 h1 hi1 =>
        have hr := he i _ hi1
        dsimp only at hr
        split at h
        next hc =>
          cases h
          by_cases hz : (rho i).toInt < lo
          · exact ⟨_, List.mem_cons_self, he.set ⟨hr.1, by dsimp only; omega⟩, rfl⟩
          · exact ⟨_, List.mem_cons_of_mem _ List.mem_cons_self, he.set ⟨by dsimp only; omega, hr.2⟩, rfl⟩
        next =>
          split at h
          next hc =>
            cases h
            by_cases hz : (rho i).toInt ≤ hi
            · exact ⟨_, List.mem_cons_self, he.set ⟨hr.1, hz⟩, rfl⟩
            · exact ⟨_, List.mem_cons_of_mem _ List.mem_cons_self, he.set ⟨by dsimp only; omega, hr.2⟩, rfl⟩
          next => cases h
      next => cases h
    next => cases h
  next => cases h
theorem mx_c0 {rho : Nat → Int32} {ins : Instr} {env : mx_E} {st : List Value} {fs : List (mx_E × List Value)} (h : mx_s0 ins env st = some fs) (he : mx_env rho env) :
    ∃ q ∈ fs, mx_env rho q.1 ∧ ∀ (al : List Nat) (sg : Nat → Nat) (stk : List Value), mx_F2 (mx_R al sg rho) st stk → mx_F2 (mx_R al sg rho) q.2 stk := by
  unfold mx_s0 at h
  split at h
  next =>
    obtain ⟨q, hq, h1, h2⟩ := mx_sT_spec h he
    exact ⟨q, hq, h1, fun _ _ _ hs => by rw [h2]; exact hs⟩
  next k hk =>
    split at h
    next => cases h
    next i lo hi hs =>
      cases h
      obtain ⟨g1, g2⟩ := mx_small_spec hs
      have hr := he i _ g2
      dsimp only at hr
      refine ⟨(env.set i ((rho i).toInt, (rho i).toInt), st.set k (.int (Int32.ofInt (rho i).toInt))), List.mem_map.mpr ⟨(rho i).toInt, mx_rng_mem _ _ _ hr.1 (by omega), rfl⟩, he.set ⟨Int.le_refl _, Int.le_refl _⟩, fun al sg stk hst => ?_⟩
      obtain ⟨b, hb, hR⟩ := mx_F2.get hst g1
      refine mx_F2.setL hst hb ?_
      simp only [mx_R] at hR ⊢
      rw [hR, Int32.ofInt_toInt]
theorem mx_tg_spec {pc t : Nat} {off : Int} (h : mx_tg pc off = some t) : (pc : Int) + off = (t : Int) := by
  unfold mx_tg at h
  split at h
  next h0 => cases h; omega
  next => cases h
theorem mx_cmp_neg (cd : Jvm.ClassFile.Cond) (x y : Int32) (h : mx_cmp cd x y = false) : mx_cmp (mx_neg cd) x y = true := by
  cases cd <;> simp only [mx_cmp, mx_neg] at h ⊢ <;> simpa using h
theorem mx_cmp_flip (cd : Jvm.ClassFile.Cond) (x y : Int32) : mx_cmp (mx_flip cd) y x = mx_cmp cd x y := by
  cases cd <;> simp only [mx_cmp, mx_flip]
  · simp only [eq_comm]
  · simp only [eq_comm]
theorem mx_ref {cd : Jvm.ClassFile.Cond} {x y : Int32} {lo hi : Int} (h1 : lo ≤ x.toInt) (h2 : x.toInt ≤ hi) (h : mx_cmp cd x y = true) : (mx_refT cd y.toInt lo hi).1 ≤ x.toInt ∧ x.toInt ≤ (mx_refT cd y.toInt lo hi).2 := by
  cases cd <;> simp only [mx_cmp, mx_refT, Bool.not_eq_true', decide_eq_true_eq, decide_eq_false_iff_not, Int32.lt_iff_toInt_lt, ← Int32.toInt_inj] at h ⊢
  · rw [Int.max_def, Int.min_def]
    constructor <;> split <;> omega
  · constructor <;> split <;> omega
  · rw [Int.min_def]
    constructor
    · omega
    · split <;> omega
  · rw [Int.max_def]
    constructor
    · split <;> omega
    · omega
  · rw [Int.max_def]
    constructor
    · split <;> omega
    · omega
  · rw [Int.min_def]
    constructor
    · omega
    · split <;> omega
theorem mx_cand_spec {cd : Jvm.ClassFile.Cond} {x y : Int32} {lo hi : Int} {tgt nxt : Nat} (h1 : lo ≤ x.toInt) (h2 : x.toInt ≤ hi) :
    ∃ q ∈ mx_cand cd y.toInt lo hi tgt nxt, (q.1.1 ≤ x.toInt ∧ x.toInt ≤ q.1.2) ∧ ((mx_cmp cd x y = true ∧ q.2 = tgt) ∨ (mx_cmp cd x y = false ∧ q.2 = nxt)) := by
  have gen : (∃ q ∈ [(mx_refT cd y.toInt lo hi, tgt), (mx_refT (mx_neg cd) y.toInt lo hi, nxt)], (q.1.1 ≤ x.toInt ∧ x.toInt ≤ q.1.2) ∧ ((mx_cmp cd x y = true ∧ q.2 = tgt) ∨ (mx_cmp cd x y = false ∧ q.2 = nxt))) := by
    cases hc : mx_cmp cd x y with
    | true => exact ⟨_, List.mem_cons_self, mx_ref h1 h2 hc, Or.inl ⟨rfl, rfl⟩⟩
    | false => exact ⟨_, List.mem_cons_of_mem _ List.mem_cons_self, mx_ref h1 h2 (mx_cmp_neg cd _ _ hc), Or.inr ⟨rfl, rfl⟩⟩
  cases cd with
  | eq =>
    by_cases he : x.toInt = y.toInt
    · have hx : x = y := Int32.toInt_inj.mp he
      exact ⟨_, List.mem_cons_self, ⟨by dsimp only; omega, by dsimp only; omega⟩, Or.inl ⟨by simp [mx_cmp, hx], rfl⟩⟩
    · have hx : ¬ x = y := fun q => he (by rw [q])
      by_cases hl : x.toInt < y.toInt
      · exact ⟨_, List.mem_cons_of_mem _ List.mem_cons_self, ⟨by dsimp only; omega, by dsimp only; omega⟩, Or.inr ⟨by simp [mx_cmp, hx], rfl⟩⟩
      · exact ⟨_, List.mem_cons_of_mem _ (List.mem_cons_of_mem _ List.mem_cons_self), ⟨by dsimp only; omega, by dsimp only; omega⟩, Or.inr ⟨by simp [mx_cmp, hx], rfl⟩⟩
  | ne =>
    by_cases he : x.toInt = y.toInt
    · have hx : x = y := Int32.toInt_inj.mp he
      exact ⟨_, List.mem_cons_of_mem _ (List.mem_cons_of_mem _ List.mem_cons_self), ⟨by dsimp only; omega, by dsimp only; omega⟩, Or.inr ⟨by simp [mx_cmp, hx], rfl⟩⟩
    · have hx : ¬ x = y := fun q => he (by rw [q])
      by_cases hl : x.toInt < y.toInt
      · exact ⟨_, List.mem_cons_self, ⟨by dsimp only; omega, by dsimp only; omega⟩, Or.inl ⟨by simp [mx_cmp, hx], rfl⟩⟩
      · exact ⟨_, List.mem_cons_of_mem _ List.mem_cons_self, ⟨by dsimp only; omega, by dsimp only; omega⟩, Or.inl ⟨by simp [mx_cmp, hx], rfl⟩⟩
  | lt => exact gen
  | ge => exact gen
  | gt => exact gen
  | le => exact gen
theorem mx_fork_spec {rho : Nat → Int32} {cd : Jvm.ClassFile.Cond} {env : mx_E} {i tgt nxt : Nat} {y : Int32} {r : List Value} {bs : List (mx_E × Nat × List Value)} (h : mx_fork cd env i y.toInt tgt nxt r = some bs) (he : mx_env rho env) :
    ∃ q ∈ bs, mx_env rho q.1 ∧ q.2.2 = r ∧ ((mx_cmp cd (rho i) y = true ∧ q.2.1 = tgt) ∨ (mx_cmp cd (rho i) y = false ∧ q.2.1 = nxt)) := by
  unfold mx_fork at h
  split at h
  next => cases h
  next lo hi hi1 =>
    cases h
    have hr := he i _ hi1
    dsimp only at hr
    obtain ⟨q, hq, hz, hc⟩ := mx_cand_spec (cd := cd) (y := y) (tgt := tgt) (nxt := nxt) hr.1 hr.2
    exact ⟨_, List.mem_map.mpr ⟨q, List.mem_filter.mpr ⟨hq, by simp; omega⟩, rfl⟩, he.set hz, rfl, hc⟩
section
variable {p : Program} {l : Launch} {e : Env} {R : Room} {s : State} {m : MethodId} {args : Array Value} {below : List Frame} {meth : Method} {c : Code} {H : Heap} {locs : List Loc} {cells slots : Nat} {Q : State → Prop} {cc : ByteArray} {pc : Nat} {sl : Array Slot} {rest : List Value}
theorem mx_if1 (hx : p.tables.exec = Jvm.exec) (hb : c.code = cc) {cd : Jvm.ClassFile.Cond} {off : Int} {tgt : Nat} {x : Int32} (hdg : decode cc pc = .ok (.ifCond cd off, 3)) (ht : (pc : Int) + off = (tgt : Int))
    (kt : mx_cmp cd x 0 = true → W p l e R s m args below meth c H locs cells slots Q (F0 m tgt sl rest)) (kf : mx_cmp cd x 0 = false → W p l e R s m args below meth c H locs cells slots Q (F0 m (pc + 3) sl rest)) : W p l e R s m args below meth c H locs cells slots Q (F0 m pc sl (.int x :: rest)) := by
  cases cd
  · exact lv_if_eq hx hb hdg ht (fun h => kt (by simp [mx_cmp, h])) (fun h => kf (by simp [mx_cmp, h]))
  · exact lv_if_ne hx hb hdg ht (fun h => kt (by simp [mx_cmp, h])) (fun h => kf (by simp [mx_cmp, h]))
  · exact lv_if_lt hx hb hdg ht (fun h => kt (by simp [mx_cmp, h])) (fun h => kf (by simp only [mx_cmp, decide_eq_false_iff_not]; exact h))
  · exact lv_if_ge hx hb hdg ht (fun h => kt (by simp only [mx_cmp, Bool.not_eq_true', decide_eq_false_iff_not]; exact Int32.not_lt.mpr h)) (fun h => kf (by simp only [mx_cmp, Bool.not_eq_false', decide_eq_true_eq]; exact Int32.not_le.mp h))
  · exact lv_if_gt hx hb hdg ht (fun h => kt (by simp only [mx_cmp, decide_eq_true_eq]; exact h)) (fun h => kf (by simp only [mx_cmp, decide_eq_false_iff_not]; exact h))
  · exact lv_if_le hx hb hdg ht (fun h => kt (by simp only [mx_cmp, Bool.not_eq_true', decide_eq_false_iff_not]; exact Int32.not_lt.mpr h)) (fun h => kf (by simp only [mx_cmp, Bool.not_eq_false', decide_eq_true_eq]; exact Int32.not_le.mp h))
theorem mx_if2 (hx : p.tables.exec = Jvm.exec) (hb : c.code = cc) {cd : Jvm.ClassFile.Cond} {off : Int} {tgt : Nat} {x y : Int32} (hdg : decode cc pc = .ok (.if_icmp cd off, 3)) (ht : (pc : Int) + off = (tgt : Int))
    (kt : mx_cmp cd x y = true → W p l e R s m args below meth c H locs cells slots Q (F0 m tgt sl rest)) (kf : mx_cmp cd x y = false → W p l e R s m args below meth c H locs cells slots Q (F0 m (pc + 3) sl rest)) : W p l e R s m args below meth c H locs cells slots Q (F0 m pc sl (.int y :: .int x :: rest)) := by
  cases cd
  · exact lv_icmp_eq hx hb hdg ht (fun h => kt (by simp [mx_cmp, h])) (fun h => kf (by simp [mx_cmp, h]))
  · exact lv_icmp_ne hx hb hdg ht (fun h => kt (by simp [mx_cmp, h])) (fun h => kf (by simp [mx_cmp, h]))
  · exact lv_icmp_lt hx hb hdg ht (fun h => kt (by simp only [mx_cmp, decide_eq_true_eq]; exact h)) (fun h => kf (by simp only [mx_cmp, decide_eq_false_iff_not]; exact h))
  · exact lv_icmp_ge hx hb hdg ht (fun h => kt (by simp only [mx_cmp, Bool.not_eq_true', decide_eq_false_iff_not]; exact Int32.not_lt.mpr h)) (fun h => kf (by simp only [mx_cmp, Bool.not_eq_false', decide_eq_true_eq]; exact Int32.not_le.mp h))
  · exact lv_icmp_gt hx hb hdg ht (fun h => kt (by simp only [mx_cmp, decide_eq_true_eq]; exact h)) (fun h => kf (by simp only [mx_cmp, decide_eq_false_iff_not]; exact h))
  · exact lv_icmp_le hx hb hdg ht (fun h => kt (by simp only [mx_cmp, Bool.not_eq_true', decide_eq_false_iff_not]; exact Int32.not_lt.mpr h)) (fun h => kf (by simp only [mx_cmp, Bool.not_eq_false', decide_eq_true_eq]; exact Int32.not_le.mp h))
end
/-- from a branch: one of the ends that the machine gives is the one taken -/
def mx_Br (l : Launch) (rho : Nat → Int32) (ins : Instr) (pc : Nat) (st : List Value) (q : mx_E × Nat × List Value) : Prop :=
  ∀ (p : Program) (e : Env) (R : Room) (s : State) (m : MethodId) (args : Array Value) (below : List Frame) (meth : Method) (c : Code) (H : Heap) (locs : List Loc) (cells slots : Nat) (Q : State → Prop) (cc : ByteArray) (sl : Array Slot) (al : List Nat) (sg : Nat → Nat) (stk : List Value),
    p.tables.exec = Jvm.exec → c.code = cc → (∃ len : Nat, decode cc pc = .ok (ins, len) ∧ (mx_sw ins = true ∨ len = mx_len ins)) → mx_F2 (mx_R al sg rho) st stk →
    (∀ stk' : List Value, mx_F2 (mx_R al sg rho) q.2.2 stk' → W p l e R s m args below meth c H locs cells slots Q (F0 m q.2.1 sl stk')) → W p l e R s m args below meth c H locs cells slots Q (F0 m pc sl stk)
theorem mx_dl {cc : ByteArray} {pc : Nat} {ins : Instr} (h : ∃ len : Nat, decode cc pc = .ok (ins, len) ∧ (mx_sw ins = true ∨ len = mx_len ins)) (hs : mx_sw ins = false) : decode cc pc = .ok (ins, mx_len ins) := by
  obtain ⟨len, h1, h2⟩ := h
  rcases h2 with h2 | h2
  · rw [hs] at h2; cases h2
  · rw [← h2]; exact h1
set_option maxHeartbeats 1000000 in
theorem mx_c2 {l : Launch} {rho : Nat → Int32} {ins : Instr} {pc : Nat} {env : mx_E} {st : List Value} {bs : List (mx_E × Nat × List Value)} (h : mx_s2 ins pc env st = some bs) (he : mx_env rho env) : ∃ q ∈ bs, mx_env rho q.1 ∧ mx_Br l rho ins pc st q := by
  unfold mx_s2 at h
  split at h
  next off =>
    cases ht : mx_tg pc off with
    | none => rw [ht] at h; cases h
    | some t =>
      rw [ht] at h; cases h
      exact ⟨_, List.mem_cons_self, he, fun p e R s m args below meth c H locs cells slots Q cc sl al sg stk hx hb hd hst k => lv_goto hx hb (mx_dl hd rfl) (mx_tg_spec ht) (k _ hst)⟩
  next cd off =>
    split at h
    next t x r ht =>
      cases h
      refine ⟨_, List.mem_cons_self, he, fun p e R s m args below meth c H locs cells slots Q cc sl al sg stk hx hb hd hst k => ?_⟩
      obtain ⟨w, rr, rfl, hw, hs1⟩ := hst.c
      simp only [mx_R] at hw
      subst hw
      refine mx_if1 hx hb (mx_dl hd rfl) (mx_tg_spec ht) (fun hc => ?_) (fun hc => ?_)
      · have := k _ hs1; simpa [hc] using this
      · have := k _ hs1; simpa [hc] using this
    next t i r ht =>
      obtain ⟨q, hq, h1, h2, h3⟩ := mx_fork_spec (y := 0) h he
      refine ⟨q, hq, h1, fun p e R s m args below meth c H locs cells slots Q cc sl al sg stk hx hb hd hst k => ?_⟩
      obtain ⟨w, rr, rfl, hw, hs1⟩ := hst.c
      simp only [mx_R] at hw
      subst hw
      rw [h2] at k
      refine mx_if1 hx hb (mx_dl hd rfl) (mx_tg_spec ht) (fun hc => ?_) (fun hc => ?_)
      · rcases h3 with ⟨_, h3⟩ | ⟨h3, _⟩
        · rw [← h3]; exact k _ hs1
        · rw [hc] at h3; cases h3
      · rcases h3 with ⟨h3, _⟩ | ⟨_, h3⟩
        · rw [hc] at h3; cases h3
        · rw [← h3]; exact k _ hs1
    next => cases h
  next cd off =>
    split at h
    next t y x r ht =>
      cases h
      refine ⟨_, List.mem_cons_self, he, fun p e R s m args below meth c H locs cells slots Q cc sl al sg stk hx hb hd hst k => ?_⟩
      obtain ⟨w, rr, rfl, hw, hs1⟩ := hst.c
      obtain ⟨w2, rr2, rfl, hw2, hs2⟩ := hs1.c
      simp only [mx_R] at hw hw2
      subst hw; subst hw2
      refine mx_if2 hx hb (mx_dl hd rfl) (mx_tg_spec ht) (fun hc => ?_) (fun hc => ?_)
      · have := k _ hs2; simpa [hc] using this
      · have := k _ hs2; simpa [hc] using this
    next t y i r ht =>
      obtain ⟨q, hq, h1, h2, h3⟩ := mx_fork_spec h he
      refine ⟨q, hq, h1, fun p e R s m args below meth c H locs cells slots Q cc sl al sg stk hx hb hd hst k => ?_⟩
      obtain ⟨w, rr, rfl, hw, hs1⟩ := hst.c
      obtain ⟨w2, rr2, rfl, hw2, hs2⟩ := hs1.c
      simp only [mx_R] at hw hw2
      subst hw; subst hw2
      rw [h2] at k
      refine mx_if2 hx hb (mx_dl hd rfl) (mx_tg_spec ht) (fun hc => ?_) (fun hc => ?_)
      · rcases h3 with ⟨_, h3⟩ | ⟨h3, _⟩
        · rw [← h3]; exact k _ hs2
        · rw [hc] at h3; cases h3
      · rcases h3 with ⟨h3, _⟩ | ⟨_, h3⟩
        · rw [hc] at h3; cases h3
        · rw [← h3]; exact k _ hs2
    next t i x r ht =>
      obtain ⟨q, hq, h1, h2, h3⟩ := mx_fork_spec h he
      refine ⟨q, hq, h1, fun p e R s m args below meth c H locs cells slots Q cc sl al sg stk hx hb hd hst k => ?_⟩
      obtain ⟨w, rr, rfl, hw, hs1⟩ := hst.c
      obtain ⟨w2, rr2, rfl, hw2, hs2⟩ := hs1.c
      simp only [mx_R] at hw hw2
      subst hw; subst hw2
      rw [h2] at k
      rw [mx_cmp_flip] at h3
      refine mx_if2 hx hb (mx_dl hd rfl) (mx_tg_spec ht) (fun hc => ?_) (fun hc => ?_)
      · rcases h3 with ⟨_, h3⟩ | ⟨h3, _⟩
        · rw [← h3]; exact k _ hs2
        · rw [hc] at h3; cases h3
      · rcases h3 with ⟨h3, _⟩ | ⟨_, h3⟩
        · rw [hc] at h3; cases h3
        · rw [← h3]; exact k _ hs2
    next => cases h
  next off =>
    split at h
    next t r ht =>
      cases h
      refine ⟨_, List.mem_cons_self, he, fun p e R s m args below meth c H locs cells slots Q cc sl al sg stk hx hb hd hst k => ?_⟩
      obtain ⟨w, rr, rfl, hw, hs1⟩ := hst.c
      simp only [mx_R] at hw
      subst hw
      exact lv_ifnullN hx hb (mx_dl hd rfl) (mx_tg_spec ht) (k _ hs1)
    next t z r ht =>
      cases h
      refine ⟨_, List.mem_cons_self, he, fun p e R s m args below meth c H locs cells slots Q cc sl al sg stk hx hb hd hst k => ?_⟩
      obtain ⟨w, rr, rfl, hw, hs1⟩ := hst.c
      obtain ⟨q, -, rfl⟩ := hw
      exact lv_ifnull hx hb (mx_dl hd rfl) (k _ hs1)
    next t z r ht =>
      cases h
      refine ⟨_, List.mem_cons_self, he, fun p e R s m args below meth c H locs cells slots Q cc sl al sg stk hx hb hd hst k => ?_⟩
      obtain ⟨w, rr, rfl, hw, hs1⟩ := hst.c
      simp only [mx_R] at hw
      subst hw
      exact lv_ifnull hx hb (mx_dl hd rfl) (k _ hs1)
    next => cases h
  next off =>
    split at h
    next t r ht =>
      cases h
      refine ⟨_, List.mem_cons_self, he, fun p e R s m args below meth c H locs cells slots Q cc sl al sg stk hx hb hd hst k => ?_⟩
      obtain ⟨w, rr, rfl, hw, hs1⟩ := hst.c
      simp only [mx_R] at hw
      subst hw
      exact lv_ifnonnullN hx hb (mx_dl hd rfl) (k _ hs1)
    next t z r ht =>
      cases h
      refine ⟨_, List.mem_cons_self, he, fun p e R s m args below meth c H locs cells slots Q cc sl al sg stk hx hb hd hst k => ?_⟩
      obtain ⟨w, rr, rfl, hw, hs1⟩ := hst.c
      obtain ⟨q, -, rfl⟩ := hw
      exact lv_ifnonnull hx hb (mx_dl hd rfl) (mx_tg_spec ht) (k _ hs1)
    next t z r ht =>
      cases h
      refine ⟨_, List.mem_cons_self, he, fun p e R s m args below meth c H locs cells slots Q cc sl al sg stk hx hb hd hst k => ?_⟩
      obtain ⟨w, rr, rfl, hw, hs1⟩ := hst.c
      simp only [mx_R] at hw
      subst hw
      exact lv_ifnonnull hx hb (mx_dl hd rfl) (mx_tg_spec ht) (k _ hs1)
    next => cases h
  next dflt lo hi offs =>
    split at h
    next x r =>
      split at h
      next hc =>
        cases ht : mx_tg pc dflt with
        | none => rw [ht] at h; cases h
        | some t =>
          rw [ht] at h; cases h
          refine ⟨_, List.mem_cons_self, he, fun p e R s m args below meth c H locs cells slots Q cc sl al sg stk hx hb hd hst k => ?_⟩
          obtain ⟨w, rr, rfl, hw, hs1⟩ := hst.c
          simp only [mx_R] at hw
          subst hw
          obtain ⟨len, hd, -⟩ := hd
          exact lv_tableOut hx hb hd hc (mx_tg_spec ht) (k _ hs1)
      next hc =>
        split at h
        next off ho =>
          cases ht : mx_tg pc off with
          | none => rw [ht] at h; cases h
          | some t =>
            rw [ht] at h; cases h
            refine ⟨_, List.mem_cons_self, he, fun p e R s m args below meth c H locs cells slots Q cc sl al sg stk hx hb hd hst k => ?_⟩
            obtain ⟨w, rr, rfl, hw, hs1⟩ := hst.c
            simp only [mx_R] at hw
            subst hw
            obtain ⟨len, hd, -⟩ := hd
            exact lv_tableIn hx hb hd (fun q => hc (Or.inl q)) (fun q => hc (Or.inr q)) ho (mx_tg_spec ht) (k _ hs1)
        next => cases h
    next i r =>
      split at h
      next t l1 h1 ht hi1 =>
        split at h
        next hc =>
          cases h
          refine ⟨_, List.mem_cons_self, he, fun p e R s m args below meth c H locs cells slots Q cc sl al sg stk hx hb hd hst k => ?_⟩
          obtain ⟨w, rr, rfl, hw, hs1⟩ := hst.c
          simp only [mx_R] at hw
          subst hw
          obtain ⟨len, hd, -⟩ := hd
          have hr := he i _ hi1
          dsimp only at hr
          exact lv_tableOut hx hb hd (by omega) (mx_tg_spec ht) (k _ hs1)
        next => cases h
      next => cases h
    next => cases h
  next => cases h
end MXC2
