/-! the law's own walk: rules (printed by wip/gen/mk60.py) -/
section MRA
/-- from here the law comes to its end, with at most k exceptions so far -/
def lwp (p : Program) (l : Launch) (e : Env) (s : State) (m : MethodId) (below : List Frame) (meth : Method) (c : Code) (b : Nat) (D : va_G) (tys : List (ClassId × FieldType)) (sg : Nat → Nat) (rho : Nat → Int32) (pc : Nat) (ls st : List my_V) (h : my_H) (k : Nat) : Prop :=
  my_all ls → my_all st → ∀ (L : mx_L) (H : mx_H) (Hh : Heap) (locs : List Loc) (cells slots : Nat) (sl : Array Slot) (stk : List Value) (ws : va_W),
    mx_Fr mz_P mz_G mz_tb s.heap.size D tys sg rho p room_1 s m #[Value.ref b] meth c 30 0 → k ≤ 512 → my_LR ls L → my_HR H h → cells ≤ 600000 + k → slots ≤ 7000000 + 6 * k →
    mx_In mz_P s.heap.size D tys sg rho s Hh locs 0 ws H L (st.map my_val) sl stk →
    W p l e room_1 s m #[Value.ref b] below meth c Hh locs cells slots (lw_Z below #[Value.ref b] s) (F0 m pc sl stk)
variable {p : Program} {l : Launch} {e : Env} {s : State} {m : MethodId} {below : List Frame} {meth : Method} {c : Code} {b : Nat} {D : va_G} {tys : List (ClassId × FieldType)} {sg : Nat → Nat} {rho : Nat → Int32}
variable {pc pc' : Nat} {ls ls' st st' r as ls0 : List my_V} {h h' : my_H} {kn : Nat} {ins : Instr} {a0 b0 w0 nL np ci : Nat} {rt : Option FieldType}
theorem lw_seg (sgm : my_all ls → my_all st → ∀ (L : mx_L) (H : mx_H), my_LR ls L → my_HR H h → ∃ (L' : mx_L) (H' : mx_H), mx_Ok l mz_P mz_G mz_tb rho 30 0 pc L (st.map my_val) H pc' L' (st'.map my_val) H' 0 0 ∧ my_all ls' ∧ my_all st' ∧ my_LR ls' L' ∧ my_HR H' h') (kk : lwp p l e s m below meth c b D tys sg rho pc' ls' st' h' kn) : lwp p l e s m below meth c b D tys sg rho pc ls st h kn := by
  intro a1 a2 L H Hh locs cells slots sl stk ws hFr hk b1 b2 b4 b5 hI
  obtain ⟨L', H', ok, c1, c2, c3, c4⟩ := sgm a1 a2 L H b1 b2
  exact ok p e room_1 s m _ below meth c Hh locs cells slots _ sl stk ws _ D tys sg hFr hI (by show cells + 0 ≤ 601024; omega) (by show slots + 0 ≤ 7293034; omega) (fun H2 locs2 sl2 stk2 ws2 pre hI2 => kk c1 c2 L' H' H2 locs2 _ _ sl2 stk2 ws2 hFr hk c3 c4 b4 b5 hI2)
theorem lw_s1 (hpg : mz_pg 0 pc = some (ins, a0, b0, w0)) (h1 : my_all ls → my_all st → ∀ L, my_LR ls L → my_all ls' ∧ my_all st' ∧ ∃ L', mx_s1 (mz_mt 0).2.2.1 ins L (st.map my_val) = some (L', st'.map my_val) ∧ my_LR ls' L') (k : lwp p l e s m below meth c b D tys sg rho (pc + mx_len ins) ls' st' h kn) : lwp p l e s m below meth c b D tys sg rho pc ls st h kn :=
  lw_seg (fun a1 a2 L H a3 a4 => by
    obtain ⟨g1, g2, L', g3, g4⟩ := h1 a1 a2 L a3
    exact ⟨L', H, ok_s1 hpg g3 mx_Ok.rf, g1, g2, g4, a4⟩) k
theorem lw_st (hpg : mz_pg 0 pc = some (ins, a0, b0, w0)) (h1 : my_all st → my_all st' ∧ ∀ L, mx_s1 (mz_mt 0).2.2.1 ins L (st.map my_val) = some (L, st'.map my_val)) (k : lwp p l e s m below meth c b D tys sg rho (pc + mx_len ins) ls st' h kn) : lwp p l e s m below meth c b D tys sg rho pc ls st h kn :=
  lw_s1 hpg (fun a1 a2 L a3 => ⟨a1, (h1 a2).1, L, (h1 a2).2 L, a3⟩) k
theorem lw_br {t : Nat} (hpg : mz_pg 0 pc = some (ins, a0, b0, w0)) (hb : my_all st → mx_s2 ins pc [] (st.map my_val) = some [([], t, r.map my_val)] ∧ my_all r) (k : lwp p l e s m below meth c b D tys sg rho t ls r h kn) : lwp p l e s m below meth c b D tys sg rho pc ls st h kn :=
  lw_seg (fun a1 a2 L H a3 a4 => ⟨L, H, ok_br hpg (hb a2).1 mx_Ok.rf, a1, (hb a2).2, a3, a4⟩) k
theorem lw_goto {off : Int} {t : Nat} (hpg : mz_pg 0 pc = some (.goto off, a0, b0, w0)) (ht : mx_tg pc off = some t) (k : lwp p l e s m below meth c b D tys sg rho t ls st h kn) : lwp p l e s m below meth c b D tys sg rho pc ls st h kn :=
  lw_br hpg (fun a2 => ⟨by simp only [mx_s2, ht, Option.map_some], a2⟩) k
theorem lw_if {cd : Jvm.ClassFile.Cond} {off : Int} {t : Nat} {x : Int} (hpg : mz_pg 0 pc = some (.ifCond cd off, a0, b0, w0)) (ht : mx_tg pc off = some t) (k1 : my_in (0, x) → mx_cmp cd (Int32.ofInt x) 0 = true → lwp p l e s m below meth c b D tys sg rho t ls r h kn) (k2 : my_in (0, x) → mx_cmp cd (Int32.ofInt x) 0 = false → lwp p l e s m below meth c b D tys sg rho (pc + 3) ls r h kn) : lwp p l e s m below meth c b D tys sg rho pc ls ((0, x) :: r) h kn := by
  intro a1 a2
  obtain ⟨c1, c2⟩ := a2.c
  cases hc : mx_cmp cd (Int32.ofInt x) 0 with
  | true => exact lw_br hpg (fun _ => ⟨by simp only [mx_s2, ht, List.map_cons, my_val, hc, if_true], c2⟩) (k1 c1 hc) a1 a2
  | false => exact lw_br hpg (fun _ => ⟨by simp [mx_s2, ht, my_val, hc], c2⟩) (k2 c1 hc) a1 a2
theorem lw_ic {cd : Jvm.ClassFile.Cond} {off : Int} {t : Nat} {x y : Int} (hpg : mz_pg 0 pc = some (.if_icmp cd off, a0, b0, w0)) (ht : mx_tg pc off = some t) (k1 : my_in (0, x) → my_in (0, y) → mx_cmp cd (Int32.ofInt x) (Int32.ofInt y) = true → lwp p l e s m below meth c b D tys sg rho t ls r h kn) (k2 : my_in (0, x) → my_in (0, y) → mx_cmp cd (Int32.ofInt x) (Int32.ofInt y) = false → lwp p l e s m below meth c b D tys sg rho (pc + 3) ls r h kn) : lwp p l e s m below meth c b D tys sg rho pc ls ((0, y) :: (0, x) :: r) h kn := by
  intro a1 a2
  obtain ⟨c1, c2⟩ := a2.c
  obtain ⟨c3, c4⟩ := c2.c
  cases hc : mx_cmp cd (Int32.ofInt x) (Int32.ofInt y) with
  | true => exact lw_br hpg (fun _ => ⟨by simp only [mx_s2, ht, List.map_cons, my_val, hc, if_true], c4⟩) (k1 c3 c1 hc) a1 a2
  | false => exact lw_br hpg (fun _ => ⟨by simp [mx_s2, ht, my_val, hc], c4⟩) (k2 c3 c1 hc) a1 a2
theorem lw_iconst {n : Int} (hpg : mz_pg 0 pc = some (.iconst n, a0, b0, w0)) (hn : -2147483648 ≤ n ∧ n ≤ 2147483647) (k : lwp p l e s m below meth c b D tys sg rho (pc + 1) ls ((0, n) :: st) h kn) : lwp p l e s m below meth c b D tys sg rho pc ls st h kn :=
  lw_st (st' := (0, n) :: st) hpg (fun a2 => ⟨a2.p hn, fun _ => rfl⟩) k
theorem lw_bipush {n : Int} (hpg : mz_pg 0 pc = some (.bipush n, a0, b0, w0)) (hn : -128 ≤ n ∧ n ≤ 127) (k : lwp p l e s m below meth c b D tys sg rho (pc + 2) ls ((0, n) :: st) h kn) : lwp p l e s m below meth c b D tys sg rho pc ls st h kn :=
  lw_st (st' := (0, n) :: st) hpg (fun a2 => ⟨a2.p (v := (0, n)) ⟨by show -2147483648 ≤ n; omega, by show n ≤ 2147483647; omega⟩, fun _ => by
    have e : (Int8.ofInt n).toInt32 = Int32.ofInt n := by
      apply Int32.toInt_inj.mp
      rw [Int8.toInt_toInt32, Int8.toInt_ofInt_of_le (by omega) (by omega), Int32.toInt_ofInt_of_le (by omega) (by omega)]
    simp only [mx_s1, List.map_cons, my_val, e]⟩) k
theorem lw_iload {i : Nat} {x : Int} (hpg : mz_pg 0 pc = some (.iload i, a0, b0, w0)) (hi : ls[i]? = some (0, x)) (k : lwp p l e s m below meth c b D tys sg rho (pc + 2) ls ((0, x) :: st) h kn) : lwp p l e s m below meth c b D tys sg rho pc ls st h kn :=
  lw_s1 (ls' := ls) (st' := (0, x) :: st) hpg (fun a1 a2 L a3 => ⟨a1, a2.p (a1.g hi), L, my_ld (t := mx_isI) a3 hi (Nat.blt_eq.mp rfl) rfl, a3⟩) k
theorem lw_aload_n {i : Fin 4} {x : Int} (hpg : mz_pg 0 pc = some (.aload_n i, a0, b0, w0)) (hi : ls[i.val]? = some (2, x)) (k : lwp p l e s m below meth c b D tys sg rho (pc + 1) ls ((2, x) :: st) h kn) : lwp p l e s m below meth c b D tys sg rho pc ls st h kn :=
  lw_s1 (ls' := ls) (st' := (2, x) :: st) hpg (fun a1 a2 L a3 => ⟨a1, a2.p (a1.g hi), L, my_ld (t := mx_isA) a3 hi (Nat.blt_eq.mp rfl) rfl, a3⟩) k
theorem lw_aload3_n {i : Fin 4} {x : Int} (hpg : mz_pg 0 pc = some (.aload_n i, a0, b0, w0)) (hi : ls[i.val]? = some (3, x)) (k : lwp p l e s m below meth c b D tys sg rho (pc + 1) ls ((3, x) :: st) h kn) : lwp p l e s m below meth c b D tys sg rho pc ls st h kn :=
  lw_s1 (ls' := ls) (st' := (3, x) :: st) hpg (fun a1 a2 L a3 => ⟨a1, a2.p (a1.g hi), L, my_ld (t := mx_isA) a3 hi (Nat.blt_eq.mp rfl) rfl, a3⟩) k
theorem lw_iadd {x y : Int} (hpg : mz_pg 0 pc = some (.iadd, a0, b0, w0)) (hr : -2147483648 ≤ x + y ∧ x + y ≤ 2147483647) (k : lwp p l e s m below meth c b D tys sg rho (pc + 1) ls ((0, x + y) :: r) h kn) : lwp p l e s m below meth c b D tys sg rho pc ls ((0, y) :: (0, x) :: r) h kn :=
  lw_st (st' := (0, x + y) :: r) hpg (fun a2 => ⟨a2.c.2.c.2.p hr, fun L => by
    show (mx_b2 .iadd (((0, y) :: (0, x) :: r : List my_V).map my_val)).map (fun q => (L, q)) = _
    exact my_b2 (by simp only [mx_ar, Int32.ofInt_add])⟩) k
theorem lw_isub {x y : Int} (hpg : mz_pg 0 pc = some (.isub, a0, b0, w0)) (hr : -2147483648 ≤ x - y ∧ x - y ≤ 2147483647) (k : lwp p l e s m below meth c b D tys sg rho (pc + 1) ls ((0, x - y) :: r) h kn) : lwp p l e s m below meth c b D tys sg rho pc ls ((0, y) :: (0, x) :: r) h kn :=
  lw_st (st' := (0, x - y) :: r) hpg (fun a2 => ⟨a2.c.2.c.2.p hr, fun L => by
    show (mx_b2 .isub (((0, y) :: (0, x) :: r : List my_V).map my_val)).map (fun q => (L, q)) = _
    exact my_b2 (by simp only [mx_ar, Int32.ofInt_sub])⟩) k
theorem lw_istore {i : Nat} {x : Int} (hpg : mz_pg 0 pc = some (.istore i, a0, b0, w0)) (hm : my_mm 0 nL rt np ci) (hi : Nat.blt i nL = true) (hn : my_nl ls i = true) (e9 : ls' = ls.set i (0, x)) (k : lwp p l e s m below meth c b D tys sg rho (pc + 2) ls' st h kn) : lwp p l e s m below meth c b D tys sg rho pc ls ((0, x) :: st) h kn := by
  subst e9
  exact lw_s1 hpg (fun a1 a2 L a3 => ⟨a1.s a2.c.1, a2.c.2, _, my_st (t := mx_isI) rfl (by rw [hm.1]; exact Nat.blt_eq.mp hi), a3.put hn⟩) k
theorem lw_iinc {i : Nat} {n x : Int} (hpg : mz_pg 0 pc = some (.iinc i n, a0, b0, w0)) (hx : ls[i]? = some (0, x)) (hm : my_mm 0 nL rt np ci) (hi : Nat.blt i nL = true) (hn : my_nl ls i = true) (e9 : ls' = ls.set i (0, x + n)) (hr : -2147483648 ≤ x + n ∧ x + n ≤ 2147483647) (k : lwp p l e s m below meth c b D tys sg rho (pc + 3) ls' st h kn) : lwp p l e s m below meth c b D tys sg rho pc ls st h kn := by
  subst e9
  refine lw_s1 hpg (fun a1 a2 L a3 => ⟨a1.s (v := (0, x + n)) hr, a2, mx_put1 L i (my_val (0, x + n)), ?_, a3.put hn⟩) k
  have e1 : mx_look L i = some (.int (Int32.ofInt x)) := a3 i _ hx (Nat.blt_eq.mp rfl)
  have hi2 : i < (mz_mt 0).2.2.1 := by rw [hm.1]; exact Nat.blt_eq.mp hi
  simp only [mx_s1, e1, hi2, if_true, my_val, Int32.ofInt_add]
theorem lw_pop {v : my_V} (hpg : mz_pg 0 pc = some (.pop, a0, b0, w0)) (hv : mx_isJ (my_val v) = false) (k : lwp p l e s m below meth c b D tys sg rho (pc + 1) ls r h kn) : lwp p l e s m below meth c b D tys sg rho pc ls (v :: r) h kn :=
  lw_st (st' := r) hpg (fun a2 => ⟨a2.c.2, fun L => by simp [mx_s1, hv]⟩) k
theorem lw_i2l {x : Int} (hpg : mz_pg 0 pc = some (.i2l, a0, b0, w0)) (k : lwp p l e s m below meth c b D tys sg rho (pc + 1) ls ((1, x) :: r) h kn) : lwp p l e s m below meth c b D tys sg rho pc ls ((0, x) :: r) h kn :=
  lw_st (st' := (1, x) :: r) hpg (fun a2 => by
    have hx : -2147483648 ≤ x ∧ x ≤ 2147483647 := a2.c.1
    refine ⟨a2.c.2.p (v := (1, x)) ⟨by show -9223372036854775808 ≤ x; omega, by show x ≤ 9223372036854775807; omega⟩, fun L => ?_⟩
    have e : (Int32.ofInt x).toInt64 = Int64.ofInt x := by
      apply Int64.toInt_inj.mp
      rw [Int32.toInt_toInt64, my_toInt a2.c.1, Int64.toInt_ofInt_of_le (by omega) (by omega)]
    simp [mx_s1, my_val, e]) k
theorem lw_jany2 {x y : Int} (hpg : mz_pg 0 pc = some (ins, a0, b0, w0)) (hs : ∀ L, mx_s1 (mz_mt 0).2.2.1 ins L (((1, y) :: (1, x) :: r : List my_V).map my_val) = (mx_b2L ins (((1, y) :: (1, x) :: r : List my_V).map my_val)).map (fun q => (L, q))) (hd : (mx_arL ins (Int64.ofInt x) (Int64.ofInt y)).isSome = true) (k : ∀ z : Int, my_in (1, z) → lwp p l e s m below meth c b D tys sg rho (pc + mx_len ins) ls ((1, z) :: r) h kn) : lwp p l e s m below meth c b D tys sg rho pc ls ((1, y) :: (1, x) :: r) h kn := by
  obtain ⟨z, hz⟩ := Option.isSome_iff_exists.mp hd
  have hf := my_fullJ z
  exact lw_st hpg (st' := (1, z.toInt) :: r) (fun a2 => ⟨a2.c.2.c.2.p hf, fun L => by rw [hs L]; exact my_b2L (by rw [hz, Int64.ofInt_toInt])⟩) (k _ hf)
theorem lw_jshf {x y : Int} (hpg : mz_pg 0 pc = some (ins, a0, b0, w0)) (hs : ∀ L, mx_s1 (mz_mt 0).2.2.1 ins L (((0, y) :: (1, x) :: r : List my_V).map my_val) = (mx_b2S ins (((0, y) :: (1, x) :: r : List my_V).map my_val)).map (fun q => (L, q))) (hd : (mx_arS ins (Int64.ofInt x) (Int32.ofInt y)).isSome = true) (k : ∀ z : Int, my_in (1, z) → lwp p l e s m below meth c b D tys sg rho (pc + mx_len ins) ls ((1, z) :: r) h kn) : lwp p l e s m below meth c b D tys sg rho pc ls ((0, y) :: (1, x) :: r) h kn := by
  obtain ⟨z, hz⟩ := Option.isSome_iff_exists.mp hd
  have hf := my_fullJ z
  exact lw_st hpg (st' := (1, z.toInt) :: r) (fun a2 => ⟨a2.c.2.c.2.p hf, fun L => by rw [hs L]; exact my_b2S (by rw [hz, Int64.ofInt_toInt])⟩) (k _ hf)
theorem lw_iandM {x c9 : Int} (hpg : mz_pg 0 pc = some (.iand, a0, b0, w0)) (hc : 0 ≤ c9) (k : ∀ z : Int, 0 ≤ z → z ≤ c9 → lwp p l e s m below meth c b D tys sg rho (pc + 1) ls ((0, z) :: r) h kn) : lwp p l e s m below meth c b D tys sg rho pc ls ((0, c9) :: (0, x) :: r) h kn := by
  intro a1 a2
  have hcr : (Int32.ofInt c9).toInt = c9 := my_toInt a2.c.1
  obtain ⟨q1, q2⟩ := my_iand (x := Int32.ofInt x) (y := Int32.ofInt c9) (by rw [hcr]; exact hc)
  rw [hcr] at q2
  exact lw_st (st' := (0, (Int32.ofInt x &&& Int32.ofInt c9).toInt) :: r) hpg (fun a2 => ⟨a2.c.2.c.2.p (my_fullI _), fun L => by
    show (mx_b2 .iand (((0, c9) :: (0, x) :: r : List my_V).map my_val)).map (fun q => (L, q)) = _
    exact my_b2 (by simp only [mx_ar, Int32.ofInt_toInt])⟩) (k _ q1 q2) a1 a2
theorem lw_ifeq {off : Int} {t : Nat} {x : Int} (hpg : mz_pg 0 pc = some (.ifCond .eq off, a0, b0, w0)) (ht : mx_tg pc off = some t) (k1 : x = 0 → lwp p l e s m below meth c b D tys sg rho t ls r h kn) (k2 : ¬ x = 0 → lwp p l e s m below meth c b D tys sg rho (pc + 3) ls r h kn) : lwp p l e s m below meth c b D tys sg rho pc ls ((0, x) :: r) h kn :=
  lw_if hpg ht (fun q1 e => k1 (by rw [my_zero] at e; simp only [mx_cmp, decide_eq_true_eq, decide_eq_false_iff_not, Bool.not_eq_true', Bool.not_eq_false', (my_eqI q1 my_in0)] at e; omega)) (fun q1 e => k2 (by rw [my_zero] at e; simp only [mx_cmp, decide_eq_true_eq, decide_eq_false_iff_not, Bool.not_eq_true', Bool.not_eq_false', (my_eqI q1 my_in0)] at e; omega))
theorem lw_ifne {off : Int} {t : Nat} {x : Int} (hpg : mz_pg 0 pc = some (.ifCond .ne off, a0, b0, w0)) (ht : mx_tg pc off = some t) (k1 : ¬ x = 0 → lwp p l e s m below meth c b D tys sg rho t ls r h kn) (k2 : x = 0 → lwp p l e s m below meth c b D tys sg rho (pc + 3) ls r h kn) : lwp p l e s m below meth c b D tys sg rho pc ls ((0, x) :: r) h kn :=
  lw_if hpg ht (fun q1 e => k1 (by rw [my_zero] at e; simp only [mx_cmp, decide_eq_true_eq, decide_eq_false_iff_not, Bool.not_eq_true', Bool.not_eq_false', (my_eqI q1 my_in0)] at e; omega)) (fun q1 e => k2 (by rw [my_zero] at e; simp only [mx_cmp, decide_eq_true_eq, decide_eq_false_iff_not, Bool.not_eq_true', Bool.not_eq_false', (my_eqI q1 my_in0)] at e; omega))
theorem lw_icgt {off : Int} {t : Nat} {x y : Int} (hpg : mz_pg 0 pc = some (.if_icmp .gt off, a0, b0, w0)) (ht : mx_tg pc off = some t) (k1 : y < x → lwp p l e s m below meth c b D tys sg rho t ls r h kn) (k2 : x ≤ y → lwp p l e s m below meth c b D tys sg rho (pc + 3) ls r h kn) : lwp p l e s m below meth c b D tys sg rho pc ls ((0, y) :: (0, x) :: r) h kn :=
  lw_ic hpg ht (fun q1 q2 e => k1 (by simp only [mx_cmp, decide_eq_true_eq, decide_eq_false_iff_not, Bool.not_eq_true', Bool.not_eq_false', (my_ltI q2 q1)] at e; omega)) (fun q1 q2 e => k2 (by simp only [mx_cmp, decide_eq_true_eq, decide_eq_false_iff_not, Bool.not_eq_true', Bool.not_eq_false', (my_ltI q2 q1)] at e; omega))
theorem lw_iceq {off : Int} {t : Nat} {x y : Int} (hpg : mz_pg 0 pc = some (.if_icmp .eq off, a0, b0, w0)) (ht : mx_tg pc off = some t) (k1 : x = y → lwp p l e s m below meth c b D tys sg rho t ls r h kn) (k2 : ¬ x = y → lwp p l e s m below meth c b D tys sg rho (pc + 3) ls r h kn) : lwp p l e s m below meth c b D tys sg rho pc ls ((0, y) :: (0, x) :: r) h kn :=
  lw_ic hpg ht (fun q1 q2 e => k1 (by simp only [mx_cmp, decide_eq_true_eq, decide_eq_false_iff_not, Bool.not_eq_true', Bool.not_eq_false', (my_eqI q1 q2)] at e; omega)) (fun q1 q2 e => k2 (by simp only [mx_cmp, decide_eq_true_eq, decide_eq_false_iff_not, Bool.not_eq_true', Bool.not_eq_false', (my_eqI q1 q2)] at e; omega))
theorem lw_icne {off : Int} {t : Nat} {x y : Int} (hpg : mz_pg 0 pc = some (.if_icmp .ne off, a0, b0, w0)) (ht : mx_tg pc off = some t) (k1 : ¬ x = y → lwp p l e s m below meth c b D tys sg rho t ls r h kn) (k2 : x = y → lwp p l e s m below meth c b D tys sg rho (pc + 3) ls r h kn) : lwp p l e s m below meth c b D tys sg rho pc ls ((0, y) :: (0, x) :: r) h kn :=
  lw_ic hpg ht (fun q1 q2 e => k1 (by simp only [mx_cmp, decide_eq_true_eq, decide_eq_false_iff_not, Bool.not_eq_true', Bool.not_eq_false', (my_eqI q1 q2)] at e; omega)) (fun q1 q2 e => k2 (by simp only [mx_cmp, decide_eq_true_eq, decide_eq_false_iff_not, Bool.not_eq_true', Bool.not_eq_false', (my_eqI q1 q2)] at e; omega))
theorem lw_tswE {dflt lo hi off x c0 : Int} {offs : Array Int} {t : Nat} (hpg : mz_pg 0 pc = some (.tableswitch dflt lo hi offs, a0, b0, w0)) (hx : x = c0) (h1 : lo ≤ c0) (h2 : c0 ≤ hi) (ho : offs[(c0 - lo).toNat]? = some off) (ht : mx_tg pc off = some t) (k : lwp p l e s m below meth c b D tys sg rho t ls r h kn) : lwp p l e s m below meth c b D tys sg rho pc ls ((0, x) :: r) h kn := by
  subst hx
  exact lw_br hpg (fun a2 => ⟨by
    simp only [mx_s2, List.map_cons, my_val, my_toInt a2.c.1, ho, ht, Option.map_some]
    rw [if_neg (by omega)], a2.c.2⟩) k
theorem lw_tswD {dflt lo hi x : Int} {offs : Array Int} {t : Nat} (hpg : mz_pg 0 pc = some (.tableswitch dflt lo hi offs, a0, b0, w0)) (hx : x < lo ∨ hi < x) (ht : mx_tg pc dflt = some t) (k : lwp p l e s m below meth c b D tys sg rho t ls r h kn) : lwp p l e s m below meth c b D tys sg rho pc ls ((0, x) :: r) h kn :=
  lw_br hpg (fun a2 => ⟨by
    simp only [mx_s2, List.map_cons, my_val, my_toInt a2.c.1, ht, Option.map_some]
    rw [if_pos (by omega)], a2.c.2⟩) k
theorem lw_ldc2A {q : Nat} (hpg : mz_pg 0 pc = some (.ldc2_w q, a0, b0, w0)) (k : ∀ z : Int, my_in (1, z) → lwp p l e s m below meth c b D tys sg rho (pc + 3) ls ((1, z) :: st) h kn) : lwp p l e s m below meth c b D tys sg rho pc ls st h kn := by
  have hf := my_fullJ (Int64.ofNat a0)
  exact lw_seg (fun a1 a2 L H a3 a4 => ⟨L, H, ok_s3 hpg (by simp only [mx_s3, List.map_cons, my_val, Int64.ofInt_toInt]) rfl rfl mx_Ok.rf, a1, a2.p hf, a3, a4⟩) (k _ hf)
theorem lw_inv {q ρ cx kz : Nat} {fl : List my_E} {x : Int} (hpg : mz_pg 0 pc = some (.invokevirtual q, a0, b0, w0)) (hm : my_mm b0 nL rt np cx) (est : st = as ++ (2, x) :: r) (hx : my_is ρ x) (hD : my_rd ρ = .inr (cx, fl)) (ha : Nat.blt 0 a0 = true) (hnp : as.length = np) (hr8 : Nat.ble (r.map my_cat).sum 8 = true) (hnl : Nat.ble (1 + (as.map my_cat).sum) nL = true) (e0 : ls0 = my_lay ((2, x) :: as.reverse) ++ List.replicate kz (9, 0))
    (kk : wp l rho 29 b0 0 ls0 [] h (fun h' v => lwp p l e s m below meth c b D tys sg rho (pc + 3) ls (my_push v r) h' kn)) : lwp p l e s m below meth c b D tys sg rho pc ls st h kn := by
  intro a1 a2 L H Hh locs cells slots sl stk ws hFr hk b1 b2 b4 b5 hI
  subst est; subst e0
  obtain ⟨fs, g1, g2, g3⟩ := b2.obj hx hD
  obtain ⟨c1, c2⟩ := a2.app
  obtain ⟨c3, c4⟩ := c2.c
  obtain ⟨pc1, L1, st1, H1, h1, ⟨i1, i2, i3, i4⟩, v1, d1, d2, d3, d4, d5, d6, d7⟩ := kk (my_lay_all _ _ (c1.rev.p c3)) (fun _ hv => by cases hv) _ H (my_lay_LR _ _) b2
  have ok : mx_Ok l mz_P mz_G mz_tb rho 30 0 pc L ((as ++ (2, x) :: r).map my_val) H (pc + 3) L ((my_push v1 r).map my_val) H1 0 0 := by
    refine ok_call (mc1 := 0) (ms1 := 0) (mc := 0) (ms := 0) hpg (as := ((2, x) :: as.reverse).map my_val) (r := r.map my_val) ?_ d1 d2 d3 (by rw [my_push_map]; exact mx_Ok.rf)
    have f1 : (((as ++ (2, x) :: r).map my_val).drop np) = .ref x.toNat :: r.map my_val := by
      rw [List.map_append, ← hnp, ← List.length_map (as := as) my_val, List.drop_left]; rfl
    have f2 : (((as ++ (2, x) :: r).map my_val).take np) = as.map my_val := by
      rw [List.map_append, ← hnp, ← List.length_map (as := as) my_val, List.take_left]
    simp only [mx_s4]
    rw [show (mx_mt mz_P b0).2.2.2.2.1 = np from hm.2.2.1, f1, f2]
    simp only [g1]
    rw [if_pos ⟨Nat.blt_eq.mp ha, hm.2.2.2.symm, by rw [my_cats]; exact Nat.le_of_ble_eq_true hr8, by rw [my_cats, show (mx_mt mz_P b0).2.2.1 = nL from hm.1]; exact Nat.le_of_ble_eq_true hnl⟩]
    rw [List.map_cons, List.map_reverse]; rfl
  exact ok p e room_1 s m _ below meth c Hh locs cells slots _ sl stk ws _ D tys sg hFr hI (by show cells + 0 ≤ 601024; omega) (by show slots + 0 ≤ 7293034; omega) (fun H2 locs2 sl2 stk2 ws2 pre hI2 => d7 a1 (my_push_all d4 c4) L H1 H2 locs2 _ _ sl2 stk2 ws2 hFr hk b1 d6 b4 b5 hI2)
theorem mj_oi2 {j : Nat} (h : j ≤ 4096) : Int32.ofInt (j : Int) = Int32.ofNat j := by
  apply Int32.toInt_inj.mp
  rw [my_toInt (mj_in (by omega) (by omega)), Int32.toInt_ofNat_of_lt (by omega)]
theorem lw_sl {i : Int} {L4 : Nat} (hpg : mz_pg 0 pc = some (.iaload, a0, b0, w0)) (hL4 : L4 ≤ 4096) (hL : rho 4096 = Int32.ofNat L4) (h0 : 0 ≤ i) (hn : i < L4) (kk : ∀ z : Int, z = (rho i.toNat).toInt → -2147483648 ≤ z → z ≤ 2147483647 → lwp p l e s m below meth c b D tys sg rho (pc + 1) ls ((0, z) :: r) h kn) : lwp p l e s m below meth c b D tys sg rho pc ls ((0, i) :: (3, 0) :: r) h kn := by
  intro a1 a2
  have hf := my_fullI (rho i.toNat)
  refine lw_seg (st' := (0, (rho i.toNat).toInt) :: r) (fun _ _ L H a3 a4 => ⟨L, H, ?_, a1, a2.c.2.c.2.p hf, a3, a4⟩) (kk _ rfl hf.1 hf.2) a1 a2
  have e1 : my_val (0, (rho i.toNat).toInt) = .int (rho i.toNat) := by
    show Value.int (Int32.ofInt (rho i.toNat).toInt) = _
    rw [Int32.ofInt_toInt]
  rw [List.map_cons, List.map_cons, List.map_cons, e1]
  exact ok_sl hpg hL4 hL (my_idx a2.c.1 h0 hn) mx_Ok.rf
theorem lw_slen {L4 : Nat} (hpg : mz_pg 0 pc = some (.arraylength, a0, b0, w0)) (hL4 : L4 ≤ 4096) (hL : rho 4096 = Int32.ofNat L4) (kk : lwp p l e s m below meth c b D tys sg rho (pc + 1) ls ((0, (L4 : Int)) :: r) h kn) : lwp p l e s m below meth c b D tys sg rho pc ls ((3, 0) :: r) h kn := by
  refine lw_seg (st' := (0, (L4 : Int)) :: r) (fun a1 a2 L H a3 a4 => ⟨L, H, ?_, a1, a2.c.2.p (mj_in (by omega) (by omega)), a3, a4⟩) kk
  have e1 : my_val (0, (L4 : Int)) = .int (Int32.ofNat L4) := by
    show Value.int (Int32.ofInt (L4 : Int)) = _
    rw [mj_oi2 hL4]
  rw [List.map_cons, List.map_cons, e1]
  exact ok_slen hpg hL mx_Ok.rf
theorem lw_w56 {x y : my_V} {i : Int} (kk : lwp p l e s m below meth c b D tys sg rho pc [(3, 0), (2, 0), (2, 151), (2, 203), (0, i), (9, 0), (9, 0)] st h kn) : lwp p l e s m below meth c b D tys sg rho pc [(3, 0), (2, 0), (2, 151), (2, 203), (0, i), x, y] st h kn := by
  intro a1 a2 L H Hh locs cells slots sl stk ws hFr hk b1
  refine kk (fun v hv => ?_) a2 L H Hh locs cells slots sl stk ws hFr hk (fun j v hv h9 => ?_)
  · simp only [List.mem_cons, List.not_mem_nil, or_false] at hv
    rcases hv with rfl | rfl | rfl | rfl | rfl | rfl | rfl
    · exact a1 _ (by simp)
    · exact a1 _ (by simp)
    · exact a1 _ (by simp)
    · exact a1 _ (by simp)
    · exact a1 _ (by simp)
    · show (0 : Int) ≤ 0
      decide
    · show (0 : Int) ≤ 0
      decide
  · match j, hv with
    | 0, hv => exact b1 0 v hv h9
    | 1, hv => exact b1 1 v hv h9
    | 2, hv => exact b1 2 v hv h9
    | 3, hv => exact b1 3 v hv h9
    | 4, hv => exact b1 4 v hv h9
    | 5, hv => cases hv; exact absurd h9 (by decide)
    | 6, hv => cases hv; exact absurd h9 (by decide)
    | n + 7, hv => simp at hv
/-- what holds whenever the law's loop begins anew -/
def LInv (h : my_H) : Prop := Ln h ∧ Mw h ∧ Mw3 h ∧ Rws h ∧ Wrd h ∧ Ceq h ∧ Wd9 h ∧ Teq h ∧ Wnq h ∧ Hed h ∧ Sim h
theorem LInv.pLn {h : my_H} (I : LInv h) : Ln h := I.1
theorem LInv.pMw {h : my_H} (I : LInv h) : Mw h := I.2.1
theorem LInv.pMw3 {h : my_H} (I : LInv h) : Mw3 h := I.2.2.1
theorem LInv.pRws {h : my_H} (I : LInv h) : Rws h := I.2.2.2.1
theorem LInv.pWrd {h : my_H} (I : LInv h) : Wrd h := I.2.2.2.2.1
theorem LInv.pCeq {h : my_H} (I : LInv h) : Ceq h := I.2.2.2.2.2.1
theorem LInv.pWd9 {h : my_H} (I : LInv h) : Wd9 h := I.2.2.2.2.2.2.1
theorem LInv.pTeq {h : my_H} (I : LInv h) : Teq h := I.2.2.2.2.2.2.2.1
theorem LInv.pWnq {h : my_H} (I : LInv h) : Wnq h := I.2.2.2.2.2.2.2.2.1
theorem LInv.pHed {h : my_H} (I : LInv h) : Hed h := I.2.2.2.2.2.2.2.2.2.1
theorem LInv.pSim {h : my_H} (I : LInv h) : Sim h := I.2.2.2.2.2.2.2.2.2.2
/-- the invariant but for what is compared -/
def LBas (h : my_H) : Prop := Ln h ∧ Mw h ∧ Mw3 h ∧ Rws h ∧ Wrd h
theorem LBas.pLn {h : my_H} (I : LBas h) : Ln h := I.1
theorem LBas.pMw {h : my_H} (I : LBas h) : Mw h := I.2.1
theorem LBas.pMw3 {h : my_H} (I : LBas h) : Mw3 h := I.2.2.1
theorem LBas.pRws {h : my_H} (I : LBas h) : Rws h := I.2.2.2.1
theorem LBas.pWrd {h : my_H} (I : LBas h) : Wrd h := I.2.2.2.2
def my_j2 (ins : Instr) (x y : Int) : Int := ((mx_arL ins (Int64.ofInt x) (Int64.ofInt y)).getD 0).toInt
theorem lw_jany2E {x y : Int} (hpg : mz_pg 0 pc = some (ins, a0, b0, w0)) (hs : ∀ L, mx_s1 (mz_mt 0).2.2.1 ins L (((1, y) :: (1, x) :: r : List my_V).map my_val) = (mx_b2L ins (((1, y) :: (1, x) :: r : List my_V).map my_val)).map (fun q => (L, q))) (hd : (mx_arL ins (Int64.ofInt x) (Int64.ofInt y)).isSome = true) (k : ∀ z : Int, z = my_j2 ins x y → my_in (1, z) → lwp p l e s m below meth c b D tys sg rho (pc + mx_len ins) ls ((1, z) :: r) h kn) : lwp p l e s m below meth c b D tys sg rho pc ls ((1, y) :: (1, x) :: r) h kn := by
  obtain ⟨z, hz⟩ := Option.isSome_iff_exists.mp hd
  have hf := my_fullJ z
  exact lw_st hpg (st' := (1, z.toInt) :: r) (fun a2 => ⟨a2.c.2.c.2.p hf, fun L => by rw [hs L]; exact my_b2L (by rw [hz, Int64.ofInt_toInt])⟩) (k _ (by unfold my_j2; rw [hz]; rfl) hf)
theorem lw_jshfE {x y : Int} (hpg : mz_pg 0 pc = some (ins, a0, b0, w0)) (hs : ∀ L, mx_s1 (mz_mt 0).2.2.1 ins L (((0, y) :: (1, x) :: r : List my_V).map my_val) = (mx_b2S ins (((0, y) :: (1, x) :: r : List my_V).map my_val)).map (fun q => (L, q))) (hd : (mx_arS ins (Int64.ofInt x) (Int32.ofInt y)).isSome = true) (k : ∀ z : Int, z = my_shf ins x y → my_in (1, z) → lwp p l e s m below meth c b D tys sg rho (pc + mx_len ins) ls ((1, z) :: r) h kn) : lwp p l e s m below meth c b D tys sg rho pc ls ((0, y) :: (1, x) :: r) h kn := by
  obtain ⟨z, hz⟩ := Option.isSome_iff_exists.mp hd
  have hf := my_fullJ z
  exact lw_st hpg (st' := (1, z.toInt) :: r) (fun a2 => ⟨a2.c.2.c.2.p hf, fun L => by rw [hs L]; exact my_b2S (by rw [hz, Int64.ofInt_toInt])⟩) (k _ (by unfold my_shf; rw [hz]; rfl) hf)
theorem lw_ldc2E {q : Nat} (hpg : mz_pg 0 pc = some (.ldc2_w q, a0, b0, w0)) (k : ∀ z : Int, z = (Int64.ofNat a0).toInt → my_in (1, z) → lwp p l e s m below meth c b D tys sg rho (pc + 3) ls ((1, z) :: st) h kn) : lwp p l e s m below meth c b D tys sg rho pc ls st h kn := by
  have hf := my_fullJ (Int64.ofNat a0)
  exact lw_seg (fun a1 a2 L H a3 a4 => ⟨L, H, ok_s3 hpg (by simp only [mx_s3, List.map_cons, my_val, Int64.ofInt_toInt]) rfl rfl mx_Ok.rf, a1, a2.p hf, a3, a4⟩) (k _ rfl hf)
/-- the law's end -/
theorem lw_fin (hpg : mz_pg 0 pc = some (.ireturn, a0, b0, w0)) : lwp p l e s m below meth c b D tys sg rho pc ls [(0, 1)] h kn := by
  intro a1 a2 L H Hh locs cells slots sl stk ws hFr hk b1 b2 b4 b5 hI
  obtain ⟨hdc, -⟩ := mz_hPg 0 pc _ hpg
  obtain ⟨hP, hD, hS, hM, hl, hst⟩ := hI
  obtain ⟨w, rr, e1, hw, hr⟩ := mx_F2.c (a := Value.int 1) (as := []) hst
  have e2 := hr.n
  subst e2; subst e1
  have e3 : w = .int 1 := hw
  subst e3
  refine va_forget hS.2.2 ?_
  refine W.widen (k := 601024) (n := 7293034) (by omega) (by omega) ?_
  exact lw_ret hFr.1 hFr.2.1 hFr.2.2.1 hFr.2.2.2.2.2.2.2.1 (hdc.of rfl)
end MRA
