/-! the faster telling is the same machine: each row, and the run -/
section MXH
variable {a b : Nat}
theorem fs_c {ins : Instr} {v : Value} (h0 : ∀ env st, mx_s0 ins env st = none) (h1 : ∀ nL ls st, mx_s1 nL ins ls st = some (ls, v :: st)) : fx_Ok (fx_c v) ins a b := by
  intro nL pc d env h ls st hk
  exact ⟨by rw [mx_o_1 (h0 _ _) (h1 _ _ _)]; rfl, fun q hq => by cases hq; exact hk⟩
theorem fs_l2 {x : Nat} : fx_Ok (fx_c (.long (Int64.ofNat a))) (.ldc2_w x) a b := by
  intro nL pc d env h ls st hk
  exact ⟨by rw [mx_o_3 (q := (h.flatten, .long (Int64.ofNat a) :: st)) rfl rfl rfl rfl]; rfl, fun q hq => by cases hq; exact hk⟩
theorem fs_ld {ins : Instr} {t : Value → Bool} {i : Nat} (h0 : ∀ env st, mx_s0 ins env st = none) (h1 : ∀ nL ls st, mx_s1 nL ins ls st = mx_ld t ls i st) : fx_Ok (fx_ld t i (fx_o ins a b)) ins a b := by
  intro nL pc d env h ls st hk
  unfold fx_ld
  cases hv : mx_look ls i with
  | none => exact fx_slow ins a b nL pc d env h ls st hk
  | some v =>
    dsimp only
    cases ht : t v with
    | false => exact fx_slow ins a b nL pc d env h ls st hk
    | true => exact ⟨by rw [mx_o_1 (q := (ls, v :: st)) (h0 _ _) (by rw [h1]; simp [mx_ld, hv, ht])]; rfl, fun q hq => by cases hq; exact hk⟩
theorem fs_st {ins : Instr} {t : Value → Bool} {i : Nat} (h0 : ∀ env st, mx_s0 ins env st = none) (h1 : ∀ nL ls st, mx_s1 nL ins ls st = mx_st1 t nL ls i st) : fx_Ok (fx_st t i (fx_o ins a b)) ins a b := by
  intro nL pc d env h ls st hk
  unfold fx_st
  cases st with
  | nil => exact fx_slow ins a b nL pc d env h _ _ hk
  | cons v r =>
    dsimp only
    cases hc : (t v && Nat.blt i nL) with
    | false => exact fx_slow ins a b nL pc d env h _ _ hk
    | true =>
      try simp only [cond_true]
      simp only [Bool.and_eq_true, Nat.blt_eq] at hc
      exact ⟨by rw [mx_o_1 (q := (mx_put1 ls i v, r)) (h0 _ _) (by rw [h1]; simp [mx_st1, hc.1, hc.2])]; rfl, fun q hq => by cases hq; exact hk⟩
theorem fs_bin {ins : Instr} {f : Int32 → Int32 → Int32} (h0 : ∀ env x y r, mx_s0 ins env (.int y :: .int x :: r) = none) (h1 : ∀ nL ls x y r, mx_s1 nL ins ls (.int y :: .int x :: r) = some (ls, .int (f x y) :: r)) : fx_Ok (fx_bin f (fx_o ins a b)) ins a b := by
  intro nL pc d env h ls st hk
  unfold fx_bin
  split
  next y x r => exact ⟨by rw [mx_o_1 (h0 _ _ _ _) (h1 _ _ _ _ _)]; rfl, fun q hq => by cases hq; exact hk⟩
  next => exact fx_slow ins a b nL pc d env h _ _ hk
theorem fs_iinc {i : Nat} {n : Int} : fx_Ok (fx_iinc i n (fx_o (.iinc i n) a b)) (.iinc i n) a b := by
  intro nL pc d env h ls st hk
  unfold fx_iinc
  split
  next x hx =>
    cases hc : Nat.blt i nL with
    | false => simp only [cond_false]; exact fx_slow _ a b nL pc d env h _ _ hk
    | true =>
      try simp only [cond_true]
      have := Nat.blt_eq.mp hc
      exact ⟨by rw [mx_o_1 (q := (mx_put1 ls i (.int (x + Int32.ofInt n)), st)) rfl (by simp [mx_s1, hx, this])]; rfl, fun q hq => by cases hq; exact hk⟩
  next => exact fx_slow _ a b nL pc d env h _ _ hk
theorem fs_dup : fx_Ok (fx_dup (fx_o .dup a b)) .dup a b := by
  intro nL pc d env h ls st hk
  unfold fx_dup
  cases st with
  | nil => exact fx_slow _ a b nL pc d env h _ _ hk
  | cons v r =>
    dsimp only
    cases hc : mx_isJ v with
    | true => simp only [cond_true]; exact fx_slow _ a b nL pc d env h _ _ hk
    | false => simp only [cond_false]; exact ⟨by rw [mx_o_1 (q := (ls, v :: v :: r)) rfl (by simp [mx_s1, hc])]; rfl, fun q hq => by cases hq; exact hk⟩
theorem fs_goto {off : Int} : fx_Ok (fx_goto off (fx_o (.goto off) a b)) (.goto off) a b := by
  intro nL pc d env h ls st hk
  unfold fx_goto
  cases ht : mx_tg pc off with
  | none => (try simp only [cond_true]); exact fx_slow _ a b nL pc d env h _ _ hk
  | some t => exact ⟨by rw [mx_o_2 (q := [(env, t, st)]) rfl rfl (by simp [mx_s2, ht])]; rfl, fun q hq => by cases hq⟩
theorem fs_if {cd : Jvm.ClassFile.Cond} {off : Int} : fx_Ok (fx_if cd off (fx_o (.ifCond cd off) a b)) (.ifCond cd off) a b := by
  intro nL pc d env h ls st hk
  unfold fx_if
  split
  next x r =>
    cases ht : mx_tg pc off with
    | none => (try simp only [cond_true]); exact fx_slow _ a b nL pc d env h _ _ hk
    | some t =>
      refine ⟨?_, fun q hq => by cases hq⟩
      rw [mx_o_2 (q := [(env, (if mx_cmp cd x 0 then t else pc + 3), r)]) rfl rfl (by simp [mx_s2, ht])]
      simp only [fO, fz_cmp_eq]
      cases mx_cmp cd x 0 <;> rfl
  next => exact fx_slow _ a b nL pc d env h _ _ hk
theorem fs_icmp {cd : Jvm.ClassFile.Cond} {off : Int} : fx_Ok (fx_icmp cd off (fx_o (.if_icmp cd off) a b)) (.if_icmp cd off) a b := by
  intro nL pc d env h ls st hk
  unfold fx_icmp
  split
  next y x r =>
    cases ht : mx_tg pc off with
    | none => (try simp only [cond_true]); exact fx_slow _ a b nL pc d env h _ _ hk
    | some t =>
      refine ⟨?_, fun q hq => by cases hq⟩
      rw [mx_o_2 (q := [(env, (if mx_cmp cd x y then t else pc + 3), r)]) rfl rfl (by simp [mx_s2, ht])]
      simp only [fO, fz_cmp_eq]
      cases mx_cmp cd x y <;> rfl
  next => exact fx_slow _ a b nL pc d env h _ _ hk
theorem fs_get {x : Nat} : fx_Ok (fx_get a b (fx_o (.getfield x) a b)) (.getfield x) a b := by
  intro nL pc d env h ls st hk
  unfold fx_get
  split
  next k r =>
    split
    next q hq =>
      rw [fh_nth_eq h hk] at hq
      cases hc : Nat.beq q.1 a with
      | false => simp only [cond_false]; exact fx_slow _ a b nL pc d env h _ _ hk
      | true =>
        try simp only [cond_true]
        have ha := Nat.eq_of_beq_eq_true hc
        cases hv : fz_nth q.2 b with
        | none => (try simp only [cond_true]); exact fx_slow _ a b nL pc d env h _ _ hk
        | some v =>
          rw [fz_nth_eq] at hv
          refine ⟨?_, fun q hq => by cases hq; exact hk⟩
          rw [mx_o_3 (q := (h.flatten, v :: r)) rfl rfl rfl (by simp [mx_s3, hq, ha, hv])]; rfl
    next => exact fx_slow _ a b nL pc d env h _ _ hk
  next => exact fx_slow _ a b nL pc d env h _ _ hk
theorem fs_put {x : Nat} : fx_Ok (fx_put a b (fx_o (.putfield x) a b)) (.putfield x) a b := by
  intro nL pc d env h ls st hk
  unfold fx_put
  split
  next v k r =>
    split
    next q hq =>
      rw [fh_nth_eq h hk] at hq
      cases hc : (Nat.beq q.1 a && Nat.blt b q.2.length && mx_fit (mz_ft a b) v) with
      | false => simp only [cond_false]; exact fx_slow _ a b nL pc d env h _ _ hk
      | true =>
        try simp only [cond_true]
        simp only [Bool.and_eq_true, Nat.blt_eq] at hc
        have ha := Nat.eq_of_beq_eq_true hc.1.1
        have hft : mx_fit (mx_ft mz_P a b) v = true := hc.2
        obtain ⟨s1, s2, -⟩ := fh_set_eq h hk (.inr (q.1, fz_set q.2 v b)) k
        refine ⟨?_, fun q hq => by cases hq; exact s2⟩
        rw [mx_o_3 (q := (h.flatten.set k (.inr (q.1, q.2.set b v)), r)) rfl rfl rfl (by simp [mx_s3, hq, ha, hc.1.2, hft])]
        simp only [fO]
        rw [s1, fz_set_eq]
    next => exact fx_slow _ a b nL pc d env h _ _ hk
  next => exact fx_slow _ a b nL pc d env h _ _ hk
theorem fs_aload {ins : Instr} {tc : Nat} {ty : FieldType} (hty : mx_isTy mz_P tc ty = true) (h0 : ∀ env x k r, mx_s0 ins env (.int x :: .ref k :: r) = none) (h1 : ∀ nL ls st, mx_s1 nL ins ls st = none) (h2 : ∀ pc env st, mx_s2 ins pc env st = none) (h3 : ∀ d a b env h st q, mx_aload mz_P ty h st = some q → mx_s3 mz_P d ins a b env h st = some q) : fx_Ok (fx_aload tc (fx_o ins a b)) ins a b := by
  intro nL pc d env h ls st hk
  unfold fx_aload
  split
  next x k r =>
    split
    next q hq =>
      rw [fh_nth_eq h hk] at hq
      cases hc : Nat.beq q.1 tc with
      | false => simp only [cond_false]; exact fx_slow _ a b nL pc d env h _ _ hk
      | true =>
        try simp only [cond_true]
        have ha := Nat.eq_of_beq_eq_true hc
        cases hj : fz_idx q.2.1 x with
        | none => (try simp only [cond_true]); exact fx_slow _ a b nL pc d env h _ _ hk
        | some j =>
          have hj2 := fz_idx_eq hj
          refine ⟨?_, fun q hq => by cases hq; exact hk⟩
          rw [mx_o_3 (q := (h.flatten, mx_at q.2.2.1 q.2.2.2 j :: r)) (h0 _ _ _ _) (h1 _ _ _) (h2 _ _ _) (h3 _ _ _ _ _ _ _ (by simp [mx_aload, hq, ha, hty, hj2]))]; rfl
    next => exact fx_slow _ a b nL pc d env h _ _ hk
  next => exact fx_slow _ a b nL pc d env h _ _ hk
theorem fs_len : fx_Ok (fx_len (fx_o .arraylength a b)) .arraylength a b := by
  intro nL pc d env h ls st hk
  unfold fx_len
  split
  next k r =>
    split
    next q hq =>
      rw [fh_nth_eq h hk] at hq
      refine ⟨?_, fun q hq => by cases hq; exact hk⟩
      rw [mx_o_3 (q := (h.flatten, .int (Int32.ofNat q.2.1) :: r)) rfl rfl rfl (by simp [mx_s3, hq])]; rfl
    next => exact fx_slow _ a b nL pc d env h _ _ hk
  next => exact fx_slow _ a b nL pc d env h _ _ hk
theorem fs_astore {ins : Instr} {tc : Nat} {ty : FieldType} {ok : Value → Bool} (hty : mx_isTy mz_P tc ty = true) (h0 : ∀ env v x k r, mx_s0 ins env (.int v :: .int x :: .ref k :: r) = none) (h1 : ∀ nL ls st, mx_s1 nL ins ls st = none) (h2 : ∀ pc env st, mx_s2 ins pc env st = none) (h3 : ∀ d a b env h st q, mx_astore mz_P ty ok h st = some q → mx_s3 mz_P d ins a b env h st = some q) : fx_Ok (fx_astore tc ok (fx_o ins a b)) ins a b := by
  intro nL pc d env h ls st hk
  unfold fx_astore
  split
  next v x k r =>
    split
    next q hq =>
      rw [fh_nth_eq h hk] at hq
      cases hc : (Nat.beq q.1 tc && ok (.int v)) with
      | false => simp only [cond_false]; exact fx_slow _ a b nL pc d env h _ _ hk
      | true =>
        try simp only [cond_true]
        simp only [Bool.and_eq_true] at hc
        have ha := Nat.eq_of_beq_eq_true hc.1
        cases hj : fz_idx q.2.1 x with
        | none => (try simp only [cond_true]); exact fx_slow _ a b nL pc d env h _ _ hk
        | some j =>
          have hj2 := fz_idx_eq hj
          obtain ⟨s1, s2, -⟩ := fh_set_eq h hk (.inl (q.1, q.2.1, q.2.2.1, mx_up q.2.2.1 q.2.2.2 j (.int v))) k
          refine ⟨?_, fun q hq => by cases hq; exact s2⟩
          rw [mx_o_3 (q := (h.flatten.set k (.inl (q.1, q.2.1, q.2.2.1, mx_up q.2.2.1 q.2.2.2 j (.int v))), r)) (h0 _ _ _ _ _) (h1 _ _ _) (h2 _ _ _) (h3 _ _ _ _ _ _ _ (by simp [mx_astore, hq, ha, hty, hj2, hc.2]))]
          simp only [cond_true, fO, s1]
    next => exact fx_slow _ a b nL pc d env h _ _ hk
  next => exact fx_slow _ a b nL pc d env h _ _ hk
theorem fs_new {x : Nat} : fx_Ok (fx_new a) (.new x) a b := by
  intro nL pc d env h ls st hk
  obtain ⟨s1, s2, -⟩ := fh_push_eq h hk (.inr (a, mz_fd a))
  refine ⟨?_, fun q hq => by cases hq; exact s2⟩
  rw [mx_o_3 (q := (h.flatten ++ [.inr (a, mz_fd a)], .ref h.flatten.length :: st)) rfl rfl rfl rfl]
  simp only [fx_new, fO, s1, fh_len_eq]
theorem fs_n100 {n : Int32} (h : Nat.blt (fz_n n) 100001 = true) : ¬ (n < 0 ∨ 100000 < n.toNatClampNeg) ∧ n.toNatClampNeg = fz_n n := by
  have h1 := Nat.blt_eq.mp h
  obtain ⟨c1, c2⟩ := fz_clamp h1 (by omega)
  exact ⟨by rw [c2]; intro q; rcases q with q | q; exact c1 q; omega, c2⟩
theorem fs_newa {ty : ArrayType} : fx_Ok (fx_newa a (mx_df ty) (fx_o (.newarray ty) a b)) (.newarray ty) a b := by
  intro nL pc d env h ls st hk
  unfold fx_newa
  split
  next n r =>
    cases hc : Nat.blt (fz_n n) 100001 with
    | false => simp only [cond_false]; exact fx_slow _ a b nL pc d env h _ _ hk
    | true =>
      try simp only [cond_true]
      obtain ⟨c1, c2⟩ := fs_n100 hc
      obtain ⟨s1, s2, -⟩ := fh_push_eq h hk (.inl (a, fz_n n, mx_df ty, []))
      refine ⟨?_, fun q hq => by cases hq; exact s2⟩
      rw [mx_o_3 (q := (h.flatten ++ [.inl (a, n.toNatClampNeg, mx_df ty, [])], .ref h.flatten.length :: r)) rfl rfl rfl (by simp only [mx_s3]; rw [if_neg c1])]
      simp only [cond_true, fO, s1, fh_len_eq, c2]
  next => exact fx_slow _ a b nL pc d env h _ _ hk
theorem fs_newq {x : Nat} : fx_Ok (fx_newa a .null (fx_o (.anewarray x) a b)) (.anewarray x) a b := by
  intro nL pc d env h ls st hk
  unfold fx_newa
  split
  next n r =>
    cases hc : Nat.blt (fz_n n) 100001 with
    | false => simp only [cond_false]; exact fx_slow _ a b nL pc d env h _ _ hk
    | true =>
      try simp only [cond_true]
      obtain ⟨c1, c2⟩ := fs_n100 hc
      obtain ⟨s1, s2, -⟩ := fh_push_eq h hk (.inl (a, fz_n n, .null, []))
      refine ⟨?_, fun q hq => by cases hq; exact s2⟩
      rw [mx_o_3 (q := (h.flatten ++ [.inl (a, n.toNatClampNeg, .null, [])], .ref h.flatten.length :: r)) rfl rfl rfl (by simp only [mx_s3]; rw [if_neg c1])]
      simp only [cond_true, fO, s1, fh_len_eq, c2]
  next => exact fx_slow _ a b nL pc d env h _ _ hk
theorem fs_oi {x : Nat} (ha : a = 0) : fx_Ok (fx_oi (fx_o (.invokespecial x) a b)) (.invokespecial x) a b := by
  intro nL pc d env h ls st hk
  unfold fx_oi
  cases d with
  | zero => exact fx_slow _ a b nL pc 0 env h _ _ hk
  | succ d =>
    dsimp only
    split
    next k r =>
      cases hc : Nat.ble ((r.map mx_cat).sum) 8 with
      | false => simp only [cond_false]; exact fx_slow _ a b nL pc _ env h _ _ hk
      | true =>
        try simp only [cond_true]
        have := Nat.le_of_ble_eq_true hc
        refine ⟨?_, fun q hq => by cases hq; exact hk⟩
        subst ha
        rw [mx_o_3 (q := (h.flatten, r)) rfl rfl rfl (by simp [mx_s3, this])]; rfl
    next => exact fx_slow _ a b nL pc _ env h _ _ hk
theorem fs_cv {ins : Instr} (h0 : ∀ env st, mx_s0 ins env st = none) (h1 : ∀ nL ls st, mx_s1 nL ins ls st = none) (h2 : ∀ pc env st, mx_s2 ins pc env st = none) (h3 : ∀ d env h st, mx_s3 mz_P d ins a b env h st = none)
    (h4 : ∀ (h : mx_H) (st : List Value) (k ci : Nat) (fs r : List Value), st.drop (mz_mt b).2.2.2.2.1 = .ref k :: r → h[k]? = some (.inr (ci, fs)) → ci = (mz_mt b).2.2.2.2.2 → (r.map mx_cat).sum ≤ 8 → 1 + ((st.take (mz_mt b).2.2.2.2.1).map mx_cat).sum ≤ (mz_mt b).2.2.1 → mx_s4 mz_P ins a b h st = some (.ref k :: (st.take (mz_mt b).2.2.2.2.1).reverse, r)) :
    fx_Ok (fx_cv (mz_mt b).2.2.2.2.1 (mz_mt b).2.2.2.2.2 (mz_mt b).2.2.1 (fx_o ins a b)) ins a b := by
  intro nL pc d env h ls st hk
  unfold fx_cv
  split
  next k r hd =>
    split
    next q hq =>
      rw [fh_nth_eq h hk] at hq
      cases hc : (Nat.beq q.1 (mz_mt b).2.2.2.2.2 && Nat.ble ((r.map mx_cat).sum) 8 && Nat.ble (1 + ((st.take (mz_mt b).2.2.2.2.1).map mx_cat).sum) (mz_mt b).2.2.1) with
      | false => simp only [cond_false]; exact fx_slow _ a b nL pc d env h _ _ hk
      | true =>
        try simp only [cond_true]
        simp only [Bool.and_eq_true] at hc
        have e1 := Nat.eq_of_beq_eq_true hc.1.1
        have e2 := Nat.le_of_ble_eq_true hc.1.2
        have e3 := Nat.le_of_ble_eq_true hc.2
        refine ⟨?_, fun q hq => by cases hq⟩
        rw [mx_o_4 (h0 _ _) (h1 _ _ _) (h2 _ _ _) (h3 _ _ _ _) (h4 _ _ k q.1 q.2 r hd hq e1 e2 e3)]; rfl
    next => exact fx_slow _ a b nL pc d env h _ _ hk
  next => exact fx_slow _ a b nL pc d env h _ _ hk
theorem fs_cs {x : Nat} (ha : 0 < a) : fx_Ok (fx_cs (mz_mt b).2.2.2.2.1 (mz_mt b).2.2.1 (fx_o (.invokestatic x) a b)) (.invokestatic x) a b := by
  intro nL pc d env h ls st hk
  unfold fx_cs
  cases hc : (Nat.ble (mz_mt b).2.2.2.2.1 st.length && Nat.ble (((st.drop (mz_mt b).2.2.2.2.1).map mx_cat).sum) 8 && Nat.ble (((st.take (mz_mt b).2.2.2.2.1).map mx_cat).sum) (mz_mt b).2.2.1) with
  | false => simp only [cond_false]; exact fx_slow _ a b nL pc d env h _ _ hk
  | true =>
    try simp only [cond_true]
    simp only [Bool.and_eq_true] at hc
    have e1 := Nat.le_of_ble_eq_true hc.1.1
    have e2 := Nat.le_of_ble_eq_true hc.1.2
    have e3 := Nat.le_of_ble_eq_true hc.2
    refine ⟨?_, fun q hq => by cases hq⟩
    rw [mx_o_4 (q := ((st.take (mz_mt b).2.2.2.2.1).reverse, st.drop (mz_mt b).2.2.2.2.1)) rfl rfl rfl (by cases d <;> cases a <;> first | rfl | (exact absurd ha (by omega))) (by
      show (if 0 < a ∧ (mz_mt b).2.2.2.2.1 ≤ st.length ∧ ((st.drop (mz_mt b).2.2.2.2.1).map mx_cat).sum ≤ 8 ∧ ((st.take (mz_mt b).2.2.2.2.1).map mx_cat).sum ≤ (mz_mt b).2.2.1 then some ((st.take (mz_mt b).2.2.2.2.1).reverse, st.drop (mz_mt b).2.2.2.2.1) else none) = _
      rw [if_pos ⟨ha, e1, e2, e3⟩])]; rfl
theorem fs_s0 {ins : Instr} {env : mx_E} {st : List Value} (hT : mx_sT ins env st = none) (h : ∀ k ∈ mx_need ins, mx_small env st k = none) : mx_s0 ins env st = none := by
  unfold mx_s0
  have : (mx_need ins).find? (fun k => (mx_small env st k).isSome) = none := by
    rw [List.find?_eq_none]
    intro k hk
    rw [h k hk]; simp
  rw [this]
  exact hT
theorem fs_of (ins : Instr) (a b : Nat) : fx_Ok (fx_of ins a b) ins a b := by
  have k2 : ∀ (env : mx_E) (x y : Int32) (r : List Value) (k : Nat), k ∈ [0, 1] → mx_small env (.int y :: .int x :: r) k = none := by
    intro env x y r k hk
    simp only [List.mem_cons, List.not_mem_nil, or_false] at hk
    rcases hk with rfl | rfl <;> rfl
  have k0 : ∀ (env : mx_E) (x : Int32) (r : List Value) (k : Nat), k ∈ [0] → mx_small env (.int x :: r) k = none := by
    intro env x r k hk
    simp only [List.mem_cons, List.not_mem_nil, or_false] at hk
    rcases hk with rfl; rfl
  have k1 : ∀ (env : mx_E) (v : Value) (x : Int32) (r : List Value) (k : Nat), k ∈ [1] → mx_small env (v :: .int x :: r) k = none := by
    intro env v x r k hk
    simp only [List.mem_cons, List.not_mem_nil, or_false] at hk
    rcases hk with rfl; rfl
  cases ins
  case iconst n => exact fs_c (fun _ _ => rfl) (fun _ _ _ => rfl)
  case bipush n => exact fs_c (fun _ _ => rfl) (fun _ _ _ => rfl)
  case sipush n => exact fs_c (fun _ _ => rfl) (fun _ _ _ => rfl)
  case ldc2_w x => exact fs_l2
  case iload k => exact fs_ld (fun _ _ => rfl) (fun _ _ _ => rfl)
  case iload_n k => exact fs_ld (fun _ _ => rfl) (fun _ _ _ => rfl)
  case aload k => exact fs_ld (fun _ _ => rfl) (fun _ _ _ => rfl)
  case aload_n k => exact fs_ld (fun _ _ => rfl) (fun _ _ _ => rfl)
  case istore k => exact fs_st (fun _ _ => rfl) (fun _ _ _ => rfl)
  case istore_n k => exact fs_st (fun _ _ => rfl) (fun _ _ _ => rfl)
  case astore k => exact fs_st (fun _ _ => rfl) (fun _ _ _ => rfl)
  case astore_n k => exact fs_st (fun _ _ => rfl) (fun _ _ _ => rfl)
  case iinc k n => exact fs_iinc
  case iadd => exact fs_bin (fun env x y r => fs_s0 rfl (k2 env x y r)) (fun _ _ _ _ _ => rfl)
  case isub => exact fs_bin (fun env x y r => fs_s0 rfl (k2 env x y r)) (fun _ _ _ _ _ => rfl)
  case imul => exact fs_bin (fun env x y r => fs_s0 rfl (k2 env x y r)) (fun _ _ _ _ _ => rfl)
  case dup => exact fs_dup
  case goto off => exact fs_goto
  case ifCond cd off => exact fs_if
  case if_icmp cd off => exact fs_icmp
  case getfield x => exact fs_get
  case putfield x => exact fs_put
  case iaload => exact fs_aload (ty := .int) rfl (fun env x k r => fs_s0 rfl (k0 env x _)) (fun _ _ _ => rfl) (fun _ _ _ => rfl) (fun d a b env h st q hq => by simp only [mx_s3, hq])
  case baload => exact fs_aload (ty := .boolean) rfl (fun env x k r => fs_s0 rfl (k0 env x _)) (fun _ _ _ => rfl) (fun _ _ _ => rfl) (fun d a b env h st q hq => by simp only [mx_s3, hq])
  case arraylength => exact fs_len
  case iastore => exact fs_astore (ty := .int) rfl (fun env v x k r => fs_s0 rfl (k1 env _ x _)) (fun _ _ _ => rfl) (fun _ _ _ => rfl) (fun d a b env h st q hq => by simp only [mx_s3, hq])
  case bastore => exact fs_astore (ty := .boolean) rfl (fun env v x k r => fs_s0 rfl (k2 env x v _)) (fun _ _ _ => rfl) (fun _ _ _ => rfl) (fun d a b env h st q hq => by simp only [mx_s3, hq])
  case new x => exact fs_new
  case newarray ty => exact fs_newa
  case anewarray x => exact fs_newq
  case invokevirtual x =>
    show fx_Ok (bif Nat.beq a 0 then _ else _) _ a b
    cases ha : Nat.beq a 0 with
    | true => exact fx_slow (.invokevirtual x) a b
    | false =>
      have ha2 : 0 < a := Nat.pos_of_ne_zero (fun q => by rw [q] at ha; cases ha)
      exact fs_cv (fun _ _ => rfl) (fun _ _ _ => rfl) (fun _ _ _ => rfl) (fun _ _ _ _ => rfl) (fun h st k ci fs r q1 q2 q3 q4 q5 => by
        show (match st.drop (mz_mt b).2.2.2.2.1 with
          | .ref k :: r => (match h[k]? with
            | some (.inr (ci, _)) => if 0 < a ∧ ci = (mz_mt b).2.2.2.2.2 ∧ (r.map mx_cat).sum ≤ 8 ∧ 1 + ((st.take (mz_mt b).2.2.2.2.1).map mx_cat).sum ≤ (mz_mt b).2.2.1 then some (Value.ref k :: (st.take (mz_mt b).2.2.2.2.1).reverse, r) else none
            | _ => none)
          | _ => none) = _
        simp only [q1, q2]
        rw [if_pos ⟨ha2, q3, q4, q5⟩])
  case invokespecial x =>
    show fx_Ok (bif Nat.beq a 0 then _ else _) _ a b
    cases ha : Nat.beq a 0 with
    | true => exact fs_oi (Nat.eq_of_beq_eq_true ha)
    | false =>
      have ha2 : 0 < a := Nat.pos_of_ne_zero (fun q => by rw [q] at ha; cases ha)
      refine fs_cv (fun _ _ => rfl) (fun _ _ _ => rfl) (fun _ _ _ => rfl) (fun d env h st => ?_) (fun h st k ci fs r q1 q2 q3 q4 q5 => ?_)
      · cases a with
        | zero => exact absurd ha2 (Nat.lt_irrefl 0)
        | succ a => simp only [mx_s3]
      · show (match st.drop (mz_mt b).2.2.2.2.1 with
          | .ref k :: r => (match h[k]? with
            | some (.inr (ci, _)) => if 0 < a ∧ ci = (mz_mt b).2.2.2.2.2 ∧ (r.map mx_cat).sum ≤ 8 ∧ 1 + ((st.take (mz_mt b).2.2.2.2.1).map mx_cat).sum ≤ (mz_mt b).2.2.1 then some (Value.ref k :: (st.take (mz_mt b).2.2.2.2.1).reverse, r) else none
            | _ => none)
          | _ => none) = _
        simp only [q1, q2]
        rw [if_pos ⟨ha2, q3, q4, q5⟩]
  case invokestatic x =>
    show fx_Ok (bif Nat.beq a 0 then _ else _) _ a b
    cases ha : Nat.beq a 0 with
    | true => exact fx_slow (.invokestatic x) a b
    | false => exact fs_cs (Nat.pos_of_ne_zero (fun q => by rw [q] at ha; cases ha))
  all_goals (simp only [fx_of]; exact fx_slow _ a b)
/-- the program with other code tables -/
noncomputable def mz_Q (pg : mf_P) : mx_P := (mz_mt, pg, mz_ft, mz_fd, mz_TY, mz_ec, mz_cl)
theorem mz_Q3 (pg : mf_P) (d : Nat) (ins : Instr) (a b : Nat) (env : mx_E) (h : mx_H) (st : List Value) : mx_s3 (mz_Q pg) d ins a b env h st = mx_s3 mz_P d ins a b env h st := by cases ins <;> rfl
theorem mz_Q4 (pg : mf_P) (ins : Instr) (a b : Nat) (h : mx_H) (st : List Value) : mx_s4 (mz_Q pg) ins a b h st = mx_s4 mz_P ins a b h st := by cases ins <;> rfl
theorem mx_run_o (pg : mf_P) (n d : Nat) (env : mx_E) (h : mx_H) (m pc : Nat) (ls : mx_L) (st : List Value) (K : mx_E → mx_H → Nat → mx_L → List Value → Bool) : mx (mz_Q pg) (n + 1) d env h m pc ls st K = (match pg m pc with
    | none => K env h pc ls st
    | some i => bif mx_isR i.1 then K env h pc ls st else (match mx_o i.1 i.2.1 i.2.2.1 (mz_mt m).2.2.1 pc d env h ls st with
      | .inl q => mx (mz_Q pg) n d env q.1 m (pc + mx_len i.1) q.2.1 q.2.2 K
      | .inr (.inl fs) => fs.all (fun q => mx (mz_Q pg) n d q.1 h m q.2.1 ls q.2.2 K)
      | .inr (.inr (.inl q)) => (match d with
        | 0 => false
        | d' + 1 => mx (mz_Q pg) n d' env h i.2.2.1 0 (mx_args 0 q.1) [] (fun env' h' pc' _ st' => match pg i.2.2.1 pc' with
          | none => false
          | some (ins', _) => match mx_rv ins' (mz_mt i.2.2.1).2.2.2.1 st' with
            | none => false
            | some v => mx (mz_Q pg) n (d' + 1) env' h' m (pc + 3) ls (v.toList ++ q.2) K))
      | .inr (.inr (.inr _)) => false)) := by
  rw [mx]
  show (match pg m pc with
    | none => K env h pc ls st
    | some (ins, a, b, _) => _) = _
  cases hpg : pg m pc with
  | none => rfl
  | some i =>
    obtain ⟨ins, a, b, w⟩ := i
    dsimp only
    cases mx_isR ins with
    | true => rfl
    | false =>
      simp only [cond_false, mz_Q3, mz_Q4]
      unfold mx_o
      cases h0 : mx_s0 ins env st with
      | some fs => simp only [List.all_map]; rfl
      | none =>
        dsimp only
        show (match mx_s1 (mz_mt m).2.2.1 ins ls st with
          | some q => _
          | none => _) = _
        cases h1 : mx_s1 (mz_mt m).2.2.1 ins ls st with
        | some q => rfl
        | none =>
          dsimp only
          cases h2 : mx_s2 ins pc env st with
          | some q => rfl
          | none =>
            dsimp only
            cases h3 : mx_s3 mz_P d ins a b env h st with
            | some q => rfl
            | none =>
              dsimp only
              cases h4 : mx_s4 mz_P ins a b h st with
              | some q => rfl
              | none => rfl
theorem mf_mx (pg : mf_P) : ∀ (n d : Nat) (env : mx_E) (h : mf_H) (m pc : Nat) (ls : mx_L) (st : List Value) (Kf : mf_K) (Kx : mx_E → mx_H → Nat → mx_L → List Value → Bool), fh_ok h →
    (∀ (env' : mx_E) (h' : mf_H) (pc' : Nat) (ls' : mx_L) (st' : List Value), fh_ok h' → Kf env' h' pc' ls' st' = true → Kx env' h'.flatten pc' ls' st' = true) →
    mf pg n d env h m pc ls st Kf = true → mx (mz_Q pg) n d env h.flatten m pc ls st Kx = true := by
  intro n
  induction n with
  | zero => intro d env h m pc ls st Kf Kx hk hK hr; cases hr
  | succ n ih =>
    intro d env h m pc ls st Kf Kx hk hK hr
    have hr : mf_step pg (mf pg n) d env h m pc ls st Kf = true := hr
    rw [mx_run_o]
    unfold mf_step at hr
    cases hpg : pg m pc with
    | none => rw [hpg] at hr; exact hK _ _ _ _ _ hk hr
    | some i =>
      rw [hpg] at hr
      dsimp only at hr ⊢
      cases hR : mx_isR i.1 with
      | true => rw [hR] at hr; exact hK _ _ _ _ _ hk hr
      | false =>
        rw [hR] at hr
        simp only [cond_false] at hr ⊢
        obtain ⟨e1, e2⟩ := fs_of i.1 i.2.1 i.2.2.1 (mz_mt m).2.2.1 pc d env h ls st hk
        generalize fx_of i.1 i.2.1 i.2.2.1 (mz_mt m).2.2.1 pc d env h ls st = o at hr e1 e2
        rw [← e1]
        unfold mf_out at hr
        match o, hr, e2 with
        | .inl q, hr, e2 => exact ih _ _ _ _ _ _ _ _ _ (e2 q rfl) hK hr
        | .inr (.inl fs), hr, _ =>
          refine List.all_eq_true.mpr (fun q hq => ?_)
          exact ih _ _ _ _ _ _ _ _ _ hk hK (List.all_eq_true.mp hr q hq)
        | .inr (.inr (.inl q)), hr, _ =>
          cases d with
          | zero => cases hr
          | succ d' =>
            refine ih _ _ _ _ _ _ _ _ _ hk (fun env' h' pc' ls' st' hk' hk2 => ?_) hr
            unfold mf_ret at hk2
            try dsimp only
            cases hp2 : pg i.2.2.1 pc' with
            | none => rw [hp2] at hk2; cases hk2
            | some j =>
              rw [hp2] at hk2
              dsimp only at hk2 ⊢
              cases hrv : mx_rv j.1 (mz_mt i.2.2.1).2.2.2.1 st' with
              | none => rw [hrv] at hk2; cases hk2
              | some v =>
                rw [hrv] at hk2
                exact ih _ _ _ _ _ _ _ _ _ hk' hK hk2
        | .inr (.inr (.inr _)), hr, _ => cases hr
end MXH
