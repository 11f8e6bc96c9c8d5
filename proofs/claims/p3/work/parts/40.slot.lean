/-! slots and heaps in plain ints, and what a method comes to.
 A slot is a tag and an int: 0 an int, 1 a long, 2 an object by its number, 3 an object that was there before, 9 nothing. A heap says of an object's number and a place what lies there. -/
section MYA
abbrev my_V : Type := Nat × Int
abbrev my_H : Type := Int → Int → Int
def my_val (v : my_V) : Value := match v.1 with
  | 0 => .int (Int32.ofInt v.2)
  | 1 => .long (Int64.ofInt v.2)
  | 2 => .ref v.2.toNat
  | _ => .float (UInt32.ofNat v.2.toNat)
def my_in (v : my_V) : Prop := match v.1 with
  | 0 => -2147483648 ≤ v.2 ∧ v.2 ≤ 2147483647
  | 1 => -9223372036854775808 ≤ v.2 ∧ v.2 ≤ 9223372036854775807
  | _ => 0 ≤ v.2
def my_is (r : Nat) (x : Int) : Prop := 0 ≤ x ∧ x.toNat < my_N ∧ my_ot x.toNat = r
def my_el (e : my_E) (o x : Int) : Prop := match e.1 with
  | 0 => e.2.1 ≤ x ∧ x ≤ e.2.2 ∧ -2147483648 ≤ x ∧ x ≤ 2147483647
  | 1 => -9223372036854775808 ≤ x ∧ x ≤ 9223372036854775807
  | _ => my_is e.2.1.toNat x ∧ (e.2.2 = 0 ∨ x = o + e.2.2)
def my_HC (c : mx_C) (D : my_D) (o : Int) (f : Int → Int) : Prop := match D with
  | .inl q => ∃ (d : Value) (us : List (Nat × Value)), c = .inl (q.1, q.2.1, d, us) ∧ ∀ (j : Nat) (e : my_E), j < q.2.1 → q.2.2[j % q.2.2.length]? = some e → mx_at d us j = my_val (e.1, f j) ∧ my_el e o (f j)
  | .inr q => ∃ fs : List Value, c = .inr (q.1, fs) ∧ fs.length = q.2.length ∧ ∀ (j : Nat) (e : my_E), q.2[j]? = some e → fs[j]? = some (my_val (e.1, f j)) ∧ my_el e o (f j)
def my_HR (H : mx_H) (h : my_H) : Prop := ∀ k : Nat, k < my_N → ∃ c : mx_C, H[k]? = some c ∧ my_HC c (my_rd (my_ot k)) k (h k)
def my_LR (ls : List my_V) (L : mx_L) : Prop := ∀ (i : Nat) (v : my_V), ls[i]? = some v → v.1 < 9 → mx_look L i = some (my_val v)
def my_all (vs : List my_V) : Prop := ∀ v ∈ vs, my_in v
def my_ret (v : my_V) : Option Value := if v.1 = 9 then none else some (my_val v)
def my_push (v : my_V) (r : List my_V) : List my_V := match v.1 with
  | 9 => r
  | _ => v :: r
def my_up (h : my_H) (k j v : Int) : my_H := fun a b => if a = k ∧ b = j then v else h a b
/-- from this point the method comes to its end, and Q holds there -/
def wp (l : Launch) (rho : Nat → Int32) (d m pc : Nat) (ls st : List my_V) (h : my_H) (Q : my_H → my_V → Prop) : Prop :=
  my_all ls → my_all st → ∀ (L : mx_L) (H : mx_H), my_LR ls L → my_HR H h →
    ∃ (pc' : Nat) (L' : mx_L) (st' : List Value) (H' : mx_H) (h' : my_H) (i : mx_I) (v : my_V), mx_Ok l mz_P mz_G mz_tb rho d m pc L (st.map my_val) H pc' L' st' H' 0 0 ∧ mz_pg m pc' = some i ∧ mx_rv i.1 (mz_mt m).2.2.2.1 st' = some (my_ret v) ∧ my_in v ∧ H'.length = H.length ∧ my_HR H' h' ∧ Q h' v
theorem wp.imp {l : Launch} {rho : Nat → Int32} {d m pc : Nat} {ls st : List my_V} {h : my_H} {Q Q' : my_H → my_V → Prop} (hw : wp l rho d m pc ls st h Q) (hQ : ∀ h' v, Q h' v → Q' h' v) : wp l rho d m pc ls st h Q' := by
  intro a1 a2 L H a3 a4
  obtain ⟨pc', L', st', H', h', i, v, b1, b2, b3, b4, b5, b6, b7⟩ := hw a1 a2 L H a3 a4
  exact ⟨pc', L', st', H', h', i, v, b1, b2, b3, b4, b5, b6, hQ _ _ b7⟩
theorem my_all.c {v : my_V} {r : List my_V} (h : my_all (v :: r)) : my_in v ∧ my_all r := ⟨h v (List.mem_cons_self ..), fun w hw => h w (List.mem_cons_of_mem _ hw)⟩
theorem my_all.p {v : my_V} {r : List my_V} (h1 : my_in v) (h2 : my_all r) : my_all (v :: r) := by
  intro w hw
  rcases List.mem_cons.mp hw with rfl | hw
  · exact h1
  · exact h2 w hw
theorem my_all.g {ls : List my_V} {i : Nat} {v : my_V} (h : my_all ls) (hv : ls[i]? = some v) : my_in v := h v (List.mem_of_getElem? hv)
theorem my_all.s {ls : List my_V} {i : Nat} {v : my_V} (h : my_all ls) (hv : my_in v) : my_all (ls.set i v) := by
  intro w hw
  rcases List.mem_or_eq_of_mem_set hw with h1 | h1
  · exact h w h1
  · rw [h1]; exact hv
/-- a method's numbers: its locals, what it answers, how many values it takes, its class -/
def my_mm (m nL : Nat) (rt : Option FieldType) (np ci : Nat) : Prop := (mz_mt m).2.2.1 = nL ∧ (mz_mt m).2.2.2.1 = rt ∧ (mz_mt m).2.2.2.2.1 = np ∧ (mz_mt m).2.2.2.2.2 = ci
variable {l : Launch} {rho : Nat → Int32} {d m pc : Nat} {ls ls' st st' r : List my_V} {h : my_H} {Q : my_H → my_V → Prop} {ins : Instr} {a b w nL np ci : Nat} {rt : Option FieldType}
/-- a step that touches stack and locals alone -/
theorem w_s1 (hpg : mz_pg m pc = some (ins, a, b, w)) (h1 : my_all ls → my_all st → ∀ L, my_LR ls L → my_all ls' ∧ my_all st' ∧ ∃ L', mx_s1 (mz_mt m).2.2.1 ins L (st.map my_val) = some (L', st'.map my_val) ∧ my_LR ls' L') (k : wp l rho d m (pc + mx_len ins) ls' st' h Q) : wp l rho d m pc ls st h Q := by
  intro a1 a2 L H a3 a4
  obtain ⟨g1, g2, L', g3, g4⟩ := h1 a1 a2 L a3
  obtain ⟨pc', L2, st2, H', h', i, v, b1, b2⟩ := k g1 g2 L' H g4 a4
  exact ⟨pc', L2, st2, H', h', i, v, ok_s1 hpg g3 b1, b2⟩
/-- a step that touches the stack alone -/
theorem w_st (hpg : mz_pg m pc = some (ins, a, b, w)) (h1 : my_all st → my_all st' ∧ ∀ L, mx_s1 (mz_mt m).2.2.1 ins L (st.map my_val) = some (L, st'.map my_val)) (k : wp l rho d m (pc + mx_len ins) ls st' h Q) : wp l rho d m pc ls st h Q :=
  w_s1 hpg (fun a1 a2 L a3 => ⟨a1, (h1 a2).1, L, (h1 a2).2 L, a3⟩) k
theorem w_iconst {n : Int} (hpg : mz_pg m pc = some (.iconst n, a, b, w)) (hn : -2147483648 ≤ n ∧ n ≤ 2147483647) (k : wp l rho d m (pc + 1) ls ((0, n) :: st) h Q) : wp l rho d m pc ls st h Q :=
  w_st (st' := (0, n) :: st) hpg (fun a2 => ⟨a2.p hn, fun _ => rfl⟩) k
theorem w_bipush {n : Int} (hpg : mz_pg m pc = some (.bipush n, a, b, w)) (hn : -128 ≤ n ∧ n ≤ 127) (k : wp l rho d m (pc + 2) ls ((0, n) :: st) h Q) : wp l rho d m pc ls st h Q :=
  w_st (st' := (0, n) :: st) hpg (fun a2 => ⟨a2.p (v := (0, n)) ⟨by show -2147483648 ≤ n; omega, by show n ≤ 2147483647; omega⟩, fun _ => by
    have e : (Int8.ofInt n).toInt32 = Int32.ofInt n := by
      apply Int32.toInt_inj.mp
      rw [Int8.toInt_toInt32, Int8.toInt_ofInt_of_le (by omega) (by omega), Int32.toInt_ofInt_of_le (by omega) (by omega)]
    simp only [mx_s1, List.map_cons, my_val, e]⟩) k
theorem w_sipush {n : Int} (hpg : mz_pg m pc = some (.sipush n, a, b, w)) (hn : -32768 ≤ n ∧ n ≤ 32767) (k : wp l rho d m (pc + 3) ls ((0, n) :: st) h Q) : wp l rho d m pc ls st h Q :=
  w_st (st' := (0, n) :: st) hpg (fun a2 => ⟨a2.p (v := (0, n)) ⟨by show -2147483648 ≤ n; omega, by show n ≤ 2147483647; omega⟩, fun _ => by
    have e : (Int16.ofInt n).toInt32 = Int32.ofInt n := by
      apply Int32.toInt_inj.mp
      rw [Int16.toInt_toInt32, Int16.toInt_ofInt_of_le (by omega) (by omega), Int32.toInt_ofInt_of_le (by omega) (by omega)]
    simp only [mx_s1, List.map_cons, my_val, e]⟩) k
theorem w_lconst {n : Fin 2} (hpg : mz_pg m pc = some (.lconst n, a, b, w)) (k : wp l rho d m (pc + 1) ls ((1, (n.val : Int)) :: st) h Q) : wp l rho d m pc ls st h Q :=
  w_st (st' := (1, (n.val : Int)) :: st) hpg (fun a2 => ⟨a2.p (v := (1, (n.val : Int))) ⟨by show -9223372036854775808 ≤ (n.val : Int); omega, by show (n.val : Int) ≤ 9223372036854775807; omega⟩, fun _ => by
    have e : Int64.ofNat n.val = Int64.ofInt (n.val : Int) := (Int64.ofInt_eq_ofNat ..).symm
    simp only [mx_s1, List.map_cons, my_val, e]⟩) k
theorem my_ld {t : Value → Bool} {v : my_V} {i : Nat} {L : mx_L} (hL : my_LR ls L) (hi : ls[i]? = some v) (h9 : v.1 < 9) (ht : t (my_val v) = true) : mx_ld t L i (st.map my_val) = some (L, (v :: st).map my_val) := by
  simp only [mx_ld, hL i v hi h9, ht, if_true, List.map_cons]
theorem w_iload {i : Nat} {x : Int} (hpg : mz_pg m pc = some (.iload i, a, b, w)) (hi : ls[i]? = some (0, x)) (k : wp l rho d m (pc + 2) ls ((0, x) :: st) h Q) : wp l rho d m pc ls st h Q :=
  w_s1 (ls' := ls) (st' := (0, x) :: st) hpg (fun a1 a2 L a3 => ⟨a1, a2.p (a1.g hi), L, my_ld (t := mx_isI) a3 hi (Nat.blt_eq.mp rfl) rfl, a3⟩) k
theorem w_iload_n {i : Fin 4} {x : Int} (hpg : mz_pg m pc = some (.iload_n i, a, b, w)) (hi : ls[i.val]? = some (0, x)) (k : wp l rho d m (pc + 1) ls ((0, x) :: st) h Q) : wp l rho d m pc ls st h Q :=
  w_s1 (ls' := ls) (st' := (0, x) :: st) hpg (fun a1 a2 L a3 => ⟨a1, a2.p (a1.g hi), L, my_ld (t := mx_isI) a3 hi (Nat.blt_eq.mp rfl) rfl, a3⟩) k
theorem w_lload {i : Nat} {x : Int} (hpg : mz_pg m pc = some (.lload i, a, b, w)) (hi : ls[i]? = some (1, x)) (k : wp l rho d m (pc + 2) ls ((1, x) :: st) h Q) : wp l rho d m pc ls st h Q :=
  w_s1 (ls' := ls) (st' := (1, x) :: st) hpg (fun a1 a2 L a3 => ⟨a1, a2.p (a1.g hi), L, my_ld (t := mx_isJ) a3 hi (Nat.blt_eq.mp rfl) rfl, a3⟩) k
theorem w_lload_n {i : Fin 4} {x : Int} (hpg : mz_pg m pc = some (.lload_n i, a, b, w)) (hi : ls[i.val]? = some (1, x)) (k : wp l rho d m (pc + 1) ls ((1, x) :: st) h Q) : wp l rho d m pc ls st h Q :=
  w_s1 (ls' := ls) (st' := (1, x) :: st) hpg (fun a1 a2 L a3 => ⟨a1, a2.p (a1.g hi), L, my_ld (t := mx_isJ) a3 hi (Nat.blt_eq.mp rfl) rfl, a3⟩) k
theorem w_aload {i : Nat} {x : Int} (hpg : mz_pg m pc = some (.aload i, a, b, w)) (hi : ls[i]? = some (2, x)) (k : wp l rho d m (pc + 2) ls ((2, x) :: st) h Q) : wp l rho d m pc ls st h Q :=
  w_s1 (ls' := ls) (st' := (2, x) :: st) hpg (fun a1 a2 L a3 => ⟨a1, a2.p (a1.g hi), L, my_ld (t := mx_isA) a3 hi (Nat.blt_eq.mp rfl) rfl, a3⟩) k
theorem w_aload_n {i : Fin 4} {x : Int} (hpg : mz_pg m pc = some (.aload_n i, a, b, w)) (hi : ls[i.val]? = some (2, x)) (k : wp l rho d m (pc + 1) ls ((2, x) :: st) h Q) : wp l rho d m pc ls st h Q :=
  w_s1 (ls' := ls) (st' := (2, x) :: st) hpg (fun a1 a2 L a3 => ⟨a1, a2.p (a1.g hi), L, my_ld (t := mx_isA) a3 hi (Nat.blt_eq.mp rfl) rfl, a3⟩) k
theorem w_aload3 {i : Nat} {x : Int} (hpg : mz_pg m pc = some (.aload i, a, b, w)) (hi : ls[i]? = some (3, x)) (k : wp l rho d m (pc + 2) ls ((3, x) :: st) h Q) : wp l rho d m pc ls st h Q :=
  w_s1 (ls' := ls) (st' := (3, x) :: st) hpg (fun a1 a2 L a3 => ⟨a1, a2.p (a1.g hi), L, my_ld (t := mx_isA) a3 hi (Nat.blt_eq.mp rfl) rfl, a3⟩) k
theorem w_aload3_n {i : Fin 4} {x : Int} (hpg : mz_pg m pc = some (.aload_n i, a, b, w)) (hi : ls[i.val]? = some (3, x)) (k : wp l rho d m (pc + 1) ls ((3, x) :: st) h Q) : wp l rho d m pc ls st h Q :=
  w_s1 (ls' := ls) (st' := (3, x) :: st) hpg (fun a1 a2 L a3 => ⟨a1, a2.p (a1.g hi), L, my_ld (t := mx_isA) a3 hi (Nat.blt_eq.mp rfl) rfl, a3⟩) k
/-- no long lies just below a place -/
def my_nl (ls : List my_V) (i : Nat) : Bool := match i with
  | 0 => true
  | j + 1 => match ls[j]? with
    | some v => !(v.1 == 1)
    | none => true
theorem my_cat1 {v : my_V} (h : mx_cat (my_val v) = 2) : v.1 = 1 := by
  obtain ⟨t, x⟩ := v
  match t, h with
  | 0, h => simp [my_val, mx_cat] at h
  | 1, _ => rfl
  | 2, h => simp [my_val, mx_cat] at h
  | t + 3, h => simp [my_val, mx_cat] at h
theorem my_LR.put {L : mx_L} {i : Nat} {v : my_V} (hL : my_LR ls L) (hn : my_nl ls i = true) : my_LR (ls.set i v) (mx_put1 L i (my_val v)) := by
  intro j u hu h9
  rw [List.getElem?_set] at hu
  split at hu
  next hij =>
    subst hij
    split at hu
    next => cases hu; exact mx_look_self
    next => cases hu
  next hij =>
    refine mx_look_put (fun e => hij e.symm) (fun hc e => ?_) (hL j u hu h9)
    subst e
    have := my_cat1 hc
    simp only [my_nl, hu, this] at hn
    cases hn
theorem my_st {t : Value → Bool} {v : my_V} {i nL : Nat} {L : mx_L} (ht : t (my_val v) = true) (hi : i < nL) : mx_st1 t nL L i ((v :: st).map my_val) = some (mx_put1 L i (my_val v), st.map my_val) := by
  simp only [mx_st1, List.map_cons, ht, hi, decide_true, Bool.and_self, if_true]
theorem w_istore {i : Nat} {x : Int} (hpg : mz_pg m pc = some (.istore i, a, b, w)) (hm : my_mm m nL rt np ci) (hi : Nat.blt i nL = true) (hn : my_nl ls i = true) (e : ls' = ls.set i (0, x)) (k : wp l rho d m (pc + 2) ls' st h Q) : wp l rho d m pc ls ((0, x) :: st) h Q := by
  subst e
  exact w_s1 hpg (fun a1 a2 L a3 => ⟨a1.s a2.c.1, a2.c.2, _, my_st (t := mx_isI) rfl (by rw [hm.1]; exact Nat.blt_eq.mp hi), a3.put hn⟩) k
theorem w_istore_n {i : Fin 4} {x : Int} (hpg : mz_pg m pc = some (.istore_n i, a, b, w)) (hm : my_mm m nL rt np ci) (hi : Nat.blt i.val nL = true) (hn : my_nl ls i.val = true) (e : ls' = ls.set i.val (0, x)) (k : wp l rho d m (pc + 1) ls' st h Q) : wp l rho d m pc ls ((0, x) :: st) h Q := by
  subst e
  exact w_s1 hpg (fun a1 a2 L a3 => ⟨a1.s a2.c.1, a2.c.2, _, my_st (t := mx_isI) rfl (by rw [hm.1]; exact Nat.blt_eq.mp hi), a3.put hn⟩) k
theorem w_astore {i : Nat} {x : Int} (hpg : mz_pg m pc = some (.astore i, a, b, w)) (hm : my_mm m nL rt np ci) (hi : Nat.blt i nL = true) (hn : my_nl ls i = true) (e : ls' = ls.set i (2, x)) (k : wp l rho d m (pc + 2) ls' st h Q) : wp l rho d m pc ls ((2, x) :: st) h Q := by
  subst e
  exact w_s1 hpg (fun a1 a2 L a3 => ⟨a1.s a2.c.1, a2.c.2, _, my_st (t := mx_isA) rfl (by rw [hm.1]; exact Nat.blt_eq.mp hi), a3.put hn⟩) k
theorem w_astore_n {i : Fin 4} {x : Int} (hpg : mz_pg m pc = some (.astore_n i, a, b, w)) (hm : my_mm m nL rt np ci) (hi : Nat.blt i.val nL = true) (hn : my_nl ls i.val = true) (e : ls' = ls.set i.val (2, x)) (k : wp l rho d m (pc + 1) ls' st h Q) : wp l rho d m pc ls ((2, x) :: st) h Q := by
  subst e
  exact w_s1 hpg (fun a1 a2 L a3 => ⟨a1.s a2.c.1, a2.c.2, _, my_st (t := mx_isA) rfl (by rw [hm.1]; exact Nat.blt_eq.mp hi), a3.put hn⟩) k
theorem w_iinc {i : Nat} {n x : Int} (hpg : mz_pg m pc = some (.iinc i n, a, b, w)) (hx : ls[i]? = some (0, x)) (hm : my_mm m nL rt np ci) (hi : Nat.blt i nL = true) (hn : my_nl ls i = true) (e : ls' = ls.set i (0, x + n)) (hr : -2147483648 ≤ x + n ∧ x + n ≤ 2147483647) (k : wp l rho d m (pc + 3) ls' st h Q) : wp l rho d m pc ls st h Q := by
  subst e
  refine w_s1 hpg (fun a1 a2 L a3 => ⟨a1.s (v := (0, x + n)) hr, a2, mx_put1 L i (my_val (0, x + n)), ?_, a3.put hn⟩) k
  have e1 : mx_look L i = some (.int (Int32.ofInt x)) := a3 i _ hx (Nat.blt_eq.mp rfl)
  have hi2 : i < (mz_mt m).2.2.1 := by rw [hm.1]; exact Nat.blt_eq.mp hi
  simp only [mx_s1, e1, hi2, if_true, my_val, Int32.ofInt_add]
theorem my_b2 {x y z : Int} {i2 : Instr} {L : mx_L} (hz : mx_ar i2 (Int32.ofInt x) (Int32.ofInt y) = some (Int32.ofInt z)) : (mx_b2 i2 (((0, y) :: (0, x) :: r : List my_V).map my_val)).map (fun q => (L, q)) = some (L, ((0, z) :: r : List my_V).map my_val) := by
  simp only [List.map_cons, my_val, mx_b2, hz, Option.map_some]
theorem w_iadd {x y : Int} (hpg : mz_pg m pc = some (.iadd, a, b, w)) (hr : -2147483648 ≤ x + y ∧ x + y ≤ 2147483647) (k : wp l rho d m (pc + 1) ls ((0, x + y) :: r) h Q) : wp l rho d m pc ls ((0, y) :: (0, x) :: r) h Q :=
  w_st (st' := (0, x + y) :: r) hpg (fun a2 => ⟨a2.c.2.c.2.p hr, fun L => by
    show (mx_b2 .iadd (((0, y) :: (0, x) :: r : List my_V).map my_val)).map (fun q => (L, q)) = _
    exact my_b2 (by simp only [mx_ar, Int32.ofInt_add])⟩) k
theorem w_isub {x y : Int} (hpg : mz_pg m pc = some (.isub, a, b, w)) (hr : -2147483648 ≤ x - y ∧ x - y ≤ 2147483647) (k : wp l rho d m (pc + 1) ls ((0, x - y) :: r) h Q) : wp l rho d m pc ls ((0, y) :: (0, x) :: r) h Q :=
  w_st (st' := (0, x - y) :: r) hpg (fun a2 => ⟨a2.c.2.c.2.p hr, fun L => by
    show (mx_b2 .isub (((0, y) :: (0, x) :: r : List my_V).map my_val)).map (fun q => (L, q)) = _
    exact my_b2 (by simp only [mx_ar, Int32.ofInt_sub])⟩) k
theorem w_imul {x y : Int} (hpg : mz_pg m pc = some (.imul, a, b, w)) (hr : -2147483648 ≤ x * y ∧ x * y ≤ 2147483647) (k : wp l rho d m (pc + 1) ls ((0, x * y) :: r) h Q) : wp l rho d m pc ls ((0, y) :: (0, x) :: r) h Q :=
  w_st (st' := (0, x * y) :: r) hpg (fun a2 => ⟨a2.c.2.c.2.p hr, fun L => by
    show (mx_b2 .imul (((0, y) :: (0, x) :: r : List my_V).map my_val)).map (fun q => (L, q)) = _
    exact my_b2 (by simp only [mx_ar, Int32.ofInt_mul])⟩) k
theorem my_fullI (x : Int32) : my_in (0, x.toInt) := by
  have h1 := x.toInt_lt
  have h2 := x.le_toInt
  exact ⟨by omega, by omega⟩
theorem my_fullJ (x : Int64) : my_in (1, x.toInt) := by
  have h1 := x.toInt_lt
  have h2 := x.le_toInt
  exact ⟨by omega, by omega⟩
/-- a sum, product .. of which nothing is asked -/
theorem w_any2 {x y : Int} (hpg : mz_pg m pc = some (ins, a, b, w)) (hs : ∀ L, mx_s1 (mz_mt m).2.2.1 ins L (((0, y) :: (0, x) :: r : List my_V).map my_val) = (mx_b2 ins (((0, y) :: (0, x) :: r : List my_V).map my_val)).map (fun q => (L, q))) (hd : (mx_ar ins (Int32.ofInt x) (Int32.ofInt y)).isSome = true) (k : ∀ z : Int, -2147483648 ≤ z → z ≤ 2147483647 → wp l rho d m (pc + mx_len ins) ls ((0, z) :: r) h Q) : wp l rho d m pc ls ((0, y) :: (0, x) :: r) h Q := by
  obtain ⟨z, hz⟩ := Option.isSome_iff_exists.mp hd
  have hf := my_fullI z
  exact w_st hpg (st' := (0, z.toInt) :: r) (fun a2 => ⟨a2.c.2.c.2.p hf, fun L => by rw [hs L]; exact my_b2 (by rw [hz, Int32.ofInt_toInt])⟩) (k _ hf.1 hf.2)
end MYA
