/-! rules: switches, longs in locals, constants, bytes, objects written, arrays copied -/
section MYX
variable {l : Launch} {rho : Nat → Int32} {d m pc : Nat} {ls ls' ls0 st st' r as : List my_V} {h : my_H} {Q : my_H → my_V → Prop} {ins : Instr} {a b w nL np ci : Nat} {rt : Option FieldType}
theorem w_tswE {dflt lo hi off x c : Int} {offs : Array Int} {t : Nat} (hpg : mz_pg m pc = some (.tableswitch dflt lo hi offs, a, b, w)) (hx : x = c) (h1 : lo ≤ c) (h2 : c ≤ hi) (ho : offs[(c - lo).toNat]? = some off) (ht : mx_tg pc off = some t) (k : wp l rho d m t ls r h Q) : wp l rho d m pc ls ((0, x) :: r) h Q := by
  subst hx
  intro a1 a2 L H a3 a4
  obtain ⟨pc', L2, st2, H', h', i, v, b1, b2⟩ := k a1 a2.c.2 L H a3 a4
  refine ⟨pc', L2, st2, H', h', i, v, ok_br hpg ?_ b1, b2⟩
  simp only [mx_s2, List.map_cons, my_val, my_toInt a2.c.1, ho, ht, Option.map_some]
  rw [if_neg (by omega)]
theorem w_tswD {dflt lo hi x : Int} {offs : Array Int} {t : Nat} (hpg : mz_pg m pc = some (.tableswitch dflt lo hi offs, a, b, w)) (hx : x < lo ∨ hi < x) (ht : mx_tg pc dflt = some t) (k : wp l rho d m t ls r h Q) : wp l rho d m pc ls ((0, x) :: r) h Q := by
  intro a1 a2 L H a3 a4
  obtain ⟨pc', L2, st2, H', h', i, v, b1, b2⟩ := k a1 a2.c.2 L H a3 a4
  refine ⟨pc', L2, st2, H', h', i, v, ok_br hpg ?_ b1, b2⟩
  simp only [mx_s2, List.map_cons, my_val, my_toInt a2.c.1, ht, Option.map_some]
  rw [if_pos hx]
theorem mx_look_put2 {i j : Nat} {x : Value} : ∀ {ls : mx_L} {v : Value}, j ≠ i → j ≠ i + 1 → (mx_cat v = 2 → j + 1 ≠ i) → mx_look ls j = some v → mx_look (mx_put2 ls i x) j = some v := by
  intro ls v hne hne2 hcat hL
  have hb : Nat.beq i j = false := by
    cases hq : Nat.beq i j with
    | false => rfl
    | true => exact absurd (Nat.eq_of_beq_eq_true hq).symm hne
  unfold mx_put2
  simp only [mx_look, hb, cond_false]
  induction ls with
  | nil => simp [mx_look] at hL
  | cons q r ih =>
    simp only [mx_look] at hL
    cases hq : Nat.beq q.1 j with
    | true =>
      rw [hq] at hL
      simp only [cond_true, Option.some.injEq] at hL
      have e1 := Nat.eq_of_beq_eq_true hq
      have hkeep : (!(q.1 == i) && (!(q.1 == i + 1) && !(q.1 + 1 == i && mx_cat q.2 == 2))) = true := by
        rw [e1, hL]
        by_cases hc : mx_cat v = 2
        · have h1 := hcat hc
          simp [hne, hne2, h1]
        · simp [hne, hne2, hc]
      rw [List.filter_cons, if_pos hkeep]
      simp only [mx_look, hq, cond_true, hL]
    | false =>
      rw [hq] at hL
      simp only [cond_false] at hL
      rw [List.filter_cons]
      split
      · simp only [mx_look, hq, cond_false]; exact ih hL
      · exact ih hL
theorem my_LR.put2 {L : mx_L} {i : Nat} {x : Int} (hL : my_LR ls L) (hn : my_nl ls i = true) : my_LR ((ls.set i (1, x)).set (i + 1) (9, 0)) (mx_put2 L i (my_val (1, x))) := by
  intro j u hu h9
  rw [List.getElem?_set] at hu
  split at hu
  next hij =>
    split at hu
    next => cases hu; exact absurd h9 (by simp)
    next => cases hu
  next hij =>
    rw [List.getElem?_set] at hu
    split at hu
    next hij2 =>
      subst hij2
      split at hu
      next =>
        cases hu
        simp only [mx_put2, mx_look, Nat.beq_refl, cond_true]
      next => cases hu
    next hij2 =>
      refine mx_look_put2 (fun e => hij2 e.symm) (fun e => hij e.symm) (fun hc e => ?_) (hL j u hu h9)
      subst e
      have := my_cat1 hc
      simp only [my_nl, hu, this] at hn
      cases hn
theorem w_lst {i : Nat} {x : Int} (hpg : mz_pg m pc = some (ins, a, b, w)) (hs : ∀ L, mx_s1 (mz_mt m).2.2.1 ins L (((1, x) :: r : List my_V).map my_val) = mx_st2 (mz_mt m).2.2.1 L i (((1, x) :: r : List my_V).map my_val)) (hm : my_mm m nL rt np ci) (hi : Nat.blt (i + 1) nL = true) (hn : my_nl ls i = true) (e : ls' = (ls.set i (1, x)).set (i + 1) (9, 0)) (k : wp l rho d m (pc + mx_len ins) ls' r h Q) : wp l rho d m pc ls ((1, x) :: r) h Q := by
  subst e
  refine w_s1 hpg (fun a1 a2 L a3 => ⟨(a1.s a2.c.1).s (v := (9, 0)) (by decide : (0 : Int) ≤ 0), a2.c.2, mx_put2 L i (my_val (1, x)), ?_, a3.put2 hn⟩) k
  rw [hs L]
  have hi2 : i + 1 < (mz_mt m).2.2.1 := by rw [hm.1]; exact Nat.blt_eq.mp hi
  simp only [mx_st2, List.map_cons, my_val, mx_isJ, hi2, decide_true, Bool.and_self, if_true]
theorem w_lstore {i : Nat} {x : Int} (hpg : mz_pg m pc = some (.lstore i, a, b, w)) (hm : my_mm m nL rt np ci) (hi : Nat.blt (i + 1) nL = true) (hn : my_nl ls i = true) (e : ls' = (ls.set i (1, x)).set (i + 1) (9, 0)) (k : wp l rho d m (pc + 2) ls' r h Q) : wp l rho d m pc ls ((1, x) :: r) h Q :=
  w_lst hpg (fun _ => rfl) hm hi hn e k
theorem w_lstore_n {i : Fin 4} {x : Int} (hpg : mz_pg m pc = some (.lstore_n i, a, b, w)) (hm : my_mm m nL rt np ci) (hi : Nat.blt (i.val + 1) nL = true) (hn : my_nl ls i.val = true) (e : ls' = (ls.set i.val (1, x)).set (i.val + 1) (9, 0)) (k : wp l rho d m (pc + 1) ls' r h Q) : wp l rho d m pc ls ((1, x) :: r) h Q :=
  w_lst hpg (fun _ => rfl) hm hi hn e k
theorem w_ldc2 {q : Nat} (hpg : mz_pg m pc = some (.ldc2_w q, a, b, w)) (ha : Nat.blt a 9223372036854775808 = true) (k : wp l rho d m (pc + 3) ls ((1, (a : Int)) :: st) h Q) : wp l rho d m pc ls st h Q := by
  intro a1 a2 L H a3 a4
  have ha2 := Nat.blt_eq.mp ha
  obtain ⟨pc', L2, st2, H', h', i, v, b1, b2⟩ := k a1 (a2.p (v := (1, (a : Int))) ⟨by show -9223372036854775808 ≤ (a : Int); omega, by show (a : Int) ≤ 9223372036854775807; omega⟩) L H a3 a4
  refine ⟨pc', L2, st2, H', h', i, v, ok_s3 hpg ?_ rfl rfl b1, b2⟩
  have e : Int64.ofNat a = Int64.ofInt (a : Int) := (Int64.ofInt_eq_ofNat ..).symm
  simp only [mx_s3, List.map_cons, my_val, e]
theorem w_yast {ρ n : Nat} {lo hi x i y : Int} (hpg : mz_pg m pc = some (.bastore, a, b, w)) (hx : my_is ρ x) (hD : my_rd ρ = .inl (3, n, [(0, lo, hi)])) (h0 : 0 ≤ i) (hn : i < n) (hl : lo ≤ y) (hh : y ≤ hi) (hy1 : -128 ≤ y) (hy2 : y ≤ 127) (k : ∀ h', h' = my_up h x i y → wp l rho d m (pc + 1) ls r h' Q) : wp l rho d m pc ls ((0, y) :: (0, i) :: (2, x) :: r) h Q := fun a1 a2 =>
  w_ast (e := (0, lo, hi)) hx hD h0 hn (by simp [Nat.mod_one]) ⟨hl, hh, a2.c.1⟩ hpg (fun H dd us g1 hj => by
    have ht : mx_isTy mz_P 3 .byte = true := rfl
    have ht2 : mx_isTy mz_P 3 .boolean = false := rfl
    have e : (Int32.ofInt y).toInt8.toInt32 = Int32.ofInt y := by
      apply Int32.toInt_inj.mp
      rw [Int8.toInt_toInt32, Int32.toInt_toInt8, my_toInt a2.c.1, Int.bmod_eq_of_le (by omega) (by omega)]
    simp only [mx_s3, mx_astore, List.map_cons, my_val, g1, ht, ht2, Bool.false_and, mx_okB, e, decide_true, Bool.and_self, if_true, hj, Option.map_some]
    simp) k a1 a2
theorem w_putR {q ρ : Nat} {fl : List my_E} {ρ' x y : Int} {C : String} (hpg : mz_pg m pc = some (.putfield q, a, b, w)) (hx : my_is ρ x) (hD : my_rd ρ = .inr (a, fl)) (hb : fl[b]? = some (2, ρ', 0)) (hy : my_is ρ'.toNat y) (ht : mz_ft a b = .object C) (k : ∀ h', h' = my_up h x b y → wp l rho d m (pc + 3) ls r h' Q) : wp l rho d m pc ls ((2, y) :: (2, x) :: r) h Q :=
  w_put (e := (2, ρ', 0)) hpg hx hD hb ⟨hy, Or.inl rfl⟩ (by rw [ht]; rfl) k
theorem w_aast {ρ n t co : Nat} {C : String} {ρ' x i y : Int} {fl : List my_E} (hpg : mz_pg m pc = some (.aastore, a, b, w)) (hx : my_is ρ x) (hD : my_rd ρ = .inl (t, n, [(2, ρ', 0)])) (hT : mz_TY[t]? = some (.object C)) (hy : my_is ρ'.toNat y) (hO : my_rd ρ'.toNat = .inr (co, fl)) (hc : mz_ec t = co) (h0 : 0 ≤ i) (hn : i < n) (k : ∀ h', h' = my_up h x i y → wp l rho d m (pc + 1) ls r h' Q) : wp l rho d m pc ls ((2, y) :: (0, i) :: (2, x) :: r) h Q := by
  intro a1 a2 L H a3 a4
  obtain ⟨fs, o1, -, -⟩ := a4.obj hy hO
  obtain ⟨dd, us, g1, g3⟩ := a4.arr hx hD
  have hj := my_idx (n := n) a2.c.2.c.1 h0 hn
  have hR := a4.upA (i := i.toNat) (e := (2, ρ', 0)) hx hD g1 (by simp [Nat.mod_one]) ⟨hy, Or.inl rfl⟩
  rw [Int.toNat_of_nonneg h0] at hR
  obtain ⟨pc', L2, st2, H', h', i2, v, b1, b2, b3, b4, b5, b6⟩ := k _ rfl a1 a2.c.2.c.2.c.2 L _ a3 hR
  refine ⟨pc', L2, st2, H', h', i2, v, ok_s3 (h' := H.set x.toNat (.inl (t, n, dd, mx_up dd us i.toNat (my_val (2, y))))) hpg ?_ (by rw [List.length_set]) (mx_sz_set g1 rfl) b1, b2, b3, b4, by rw [b5, List.length_set], b6⟩
  have ht : (mx_TY mz_P)[t]? = some (.object C) := hT
  have hc2 : mx_ec mz_P t = co := hc
  simp [mx_s3, mx_qstore, my_val, g1, o1, ht, hc2, hj]
/-- a stretch of one array is copied into another -/
def my_cp (h : my_H) (k0 sp k1 dp n : Int) : my_H := fun a b => if a = k1 ∧ dp ≤ b ∧ b < dp + n then h k0 (sp + (b - dp)) else h a b
theorem my_HR.setA {H : mx_H} {ρ n : Nat} {es : List my_E} {dd : Value} {us : List (Nat × Value)} {x : Int} {h' : my_H} {c : mx_C} (hR : my_HR H h) (hx : my_is ρ x) (hD : my_rd ρ = .inl (0, n, es)) (hH : H[x.toNat]? = some c) (hne : ∀ y : Int, y ≠ x → h' y = h y) (hel : ∀ (j : Nat) (e : my_E), j < n → es[j % es.length]? = some e → mx_at dd us j = my_val (e.1, h' x j) ∧ my_el e x (h' x j)) : my_HR (H.set x.toNat (.inl (0, n, dd, us))) h' := by
  intro k hk
  by_cases hkx : k = x.toNat
  · subst hkx
    refine ⟨_, List.getElem?_set_self (List.getElem?_eq_some_iff.mp hH).1, ?_⟩
    rw [hx.2.2, hD, Int.toNat_of_nonneg hx.1]
    exact ⟨_, _, rfl, hel⟩
  · obtain ⟨c, c1, c2⟩ := hR k hk
    refine ⟨c, by rw [List.getElem?_set_ne (fun q => hkx q.symm)]; exact c1, ?_⟩
    rw [hne (k : Int) (fun q => hkx (by have := hx.1; omega))]
    exact c2
theorem my_cpat (d0 d1 : Value) (u0 u1 : List (Nat × Value)) (sp dp n j : Nat) : mx_at d1 (((List.range n).map (fun i => (dp + i, mx_at d0 u0 (sp + i)))) ++ u1) j = if dp ≤ j ∧ j < dp + n then mx_at d0 u0 (sp + (j - dp)) else mx_at d1 u1 j := by
  show (match mx_look _ j with
    | some v => v
    | none => d1) = _
  rw [mx_look_app, mx_look_rng (fun i => mx_at d0 u0 (sp + i)) dp j n]
  by_cases q : dp ≤ j ∧ j < dp + n
  · rw [if_pos q, if_pos q]
  · rw [if_neg q, if_neg q]; rfl
theorem my_clamp {x : Int} (hx : my_in (0, x)) : (Int32.ofInt x).toNatClampNeg = x.toNat := by
  show (Int32.ofInt x).toInt.toNat = x.toNat
  rw [my_toInt hx]
theorem my_notneg {x : Int} (hx : my_in (0, x)) (h0 : 0 ≤ x) : decide (Int32.ofInt x < 0) = false := by
  rw [decide_eq_false_iff_not, my_zero, my_ltI hx my_in0]
  omega
set_option maxHeartbeats 1000000 in
theorem w_cp {q ρ0 ρ1 n0 n1 : Nat} {es0 es1 : List my_E} {k0 sp k1 dp n : Int} (hpg : mz_pg m pc = some (.invokestatic q, 0, b, w)) (hx0 : my_is ρ0 k0) (hD0 : my_rd ρ0 = .inl (0, n0, es0)) (hx1 : my_is ρ1 k1) (hD1 : my_rd ρ1 = .inl (0, n1, es1)) (hs : 0 ≤ sp) (hd : 0 ≤ dp) (hn : 0 ≤ n) (h0 : sp + n ≤ n0) (h1 : dp + n ≤ n1) (hr8 : Nat.ble (r.map my_cat).sum 8 = true) (hex : ∀ j : Nat, ∃ e, es0[j % es0.length]? = some e)
    (hel : ∀ (j : Nat) (e0 e1 : my_E), (j : Int) < n → es0[(sp.toNat + j) % es0.length]? = some e0 → es1[(dp.toNat + j) % es1.length]? = some e1 → my_el e0 k0 (h k0 (sp + j)) → e0.1 = e1.1 ∧ my_el e1 k1 (h k0 (sp + j)))
    (k : ∀ h', h' = my_cp h k0 sp k1 dp n → wp l rho (d + 1) m (pc + 3) ls r h' Q) : wp l rho (d + 1) m pc ls ((0, n) :: (0, dp) :: (2, k1) :: (0, sp) :: (2, k0) :: r) h Q := by
  intro a1 a2 L H a3 a4
  obtain ⟨i1, a2⟩ := a2.c
  obtain ⟨i2, a2⟩ := a2.c
  obtain ⟨-, a2⟩ := a2.c
  obtain ⟨i3, a2⟩ := a2.c
  obtain ⟨-, a2⟩ := a2.c
  obtain ⟨d0, u0, g0, e0s⟩ := a4.arr hx0 hD0
  obtain ⟨d1, u1, g1, e1s⟩ := a4.arr hx1 hD1
  have key : ∃ (D' : Value) (U' : List (Nat × Value)), mx_copy mz_P H (((0, n) :: (0, dp) :: (2, k1) :: (0, sp) :: (2, k0) :: r : List my_V).map my_val) = some (H.set k1.toNat (.inl (0, n1, D', U')), r.map my_val) ∧ ∀ j : Nat, j < n1 → mx_at D' U' j = if dp.toNat ≤ j ∧ j < dp.toNat + n.toNat then mx_at d0 u0 (sp.toNat + (j - dp.toNat)) else mx_at d1 u1 j := by
    have ht : mx_isTy mz_P 0 .int = true := rfl
    have c1 : decide (sp.toNat + n.toNat ≤ n0) = true := by rw [decide_eq_true_eq]; omega
    have c2 : decide (dp.toNat + n.toNat ≤ n1) = true := by rw [decide_eq_true_eq]; omega
    have c3 : decide (((r.map my_val).map mx_cat).sum ≤ 8) = true := by rw [decide_eq_true_eq, my_cats]; exact Nat.le_of_ble_eq_true hr8
    by_cases hf : sp.toNat = 0 ∧ dp.toNat = 0 ∧ n.toNat = n1
    · refine ⟨d0, u0, ?_, fun j hj => ?_⟩
      · simp only [mx_copy, List.map_cons, my_val, g0, g1, ht, my_clamp i1, my_clamp i2, my_clamp i3, my_notneg i1 hn, my_notneg i2 hd, my_notneg i3 hs, c1, c2, c3, Bool.not_false, Bool.and_self, if_true, if_pos hf]
      · rw [if_pos (by omega), show sp.toNat + (j - dp.toNat) = j by omega]
    · refine ⟨d1, ((List.range n.toNat).map (fun i => (dp.toNat + i, mx_at d0 u0 (sp.toNat + i)))) ++ u1, ?_, fun j _ => my_cpat ..⟩
      simp only [mx_copy, List.map_cons, my_val, g0, g1, ht, my_clamp i1, my_clamp i2, my_clamp i3, my_notneg i1 hn, my_notneg i2 hd, my_notneg i3 hs, c1, c2, c3, Bool.not_false, Bool.and_self, if_true, if_neg hf]
  obtain ⟨D', U', k1e, k2e⟩ := key
  have hR : my_HR (H.set k1.toNat (.inl (0, n1, D', U'))) (my_cp h k0 sp k1 dp n) := by
    refine a4.setA hx1 hD1 g1 (fun y hy => ?_) (fun j e hj he => ?_)
    · funext z
      exact if_neg (fun q => hy q.1)
    · rw [k2e j hj]
      by_cases hc : dp.toNat ≤ j ∧ j < dp.toNat + n.toNat
      · rw [if_pos hc, show my_cp h k0 sp k1 dp n k1 (j : Int) = h k0 (sp + ((j : Int) - dp)) from if_pos ⟨rfl, by omega, by omega⟩]
        obtain ⟨e0, q0⟩ := hex (sp.toNat + (j - dp.toNat))
        obtain ⟨s1, s2⟩ := e0s (sp.toNat + (j - dp.toNat)) e0 (by omega) q0
        have ej : ((sp.toNat + (j - dp.toNat) : Nat) : Int) = sp + ((j : Int) - dp) := by omega
        rw [ej] at s1 s2
        have ej2 : sp + ((j - dp.toNat : Nat) : Int) = sp + ((j : Int) - dp) := by omega
        obtain ⟨t1, t2⟩ := hel (j - dp.toNat) e0 e (by omega) q0 (by rw [show dp.toNat + (j - dp.toNat) = j by omega]; exact he) (by rw [ej2]; exact s2)
        rw [ej2] at t2
        rw [s1, t1]
        exact ⟨rfl, t2⟩
      · rw [if_neg hc, show my_cp h k0 sp k1 dp n k1 (j : Int) = h k1 (j : Int) from if_neg (fun q => hc (by omega))]
        exact e1s j e hj he
  obtain ⟨pc', L2, st2, H', h', i2', v, b1, b2, b3, b4, b5, b6⟩ := k _ rfl a1 a2 L _ a3 hR
  exact ⟨pc', L2, st2, H', h', i2', v, ok_s3 (h' := H.set k1.toNat (.inl (0, n1, D', U'))) (st' := r.map my_val) hpg (by simp only [mx_s3]; exact k1e) (by rw [List.length_set]) (mx_sz_set g1 rfl) b1, b2, b3, b4, by rw [b5, List.length_set], b6⟩
/-- both arrays of one kind of elements each -/
theorem w_cpU {q ρ0 ρ1 n0 n1 : Nat} {lo0 hi0 lo1 hi1 k0 sp k1 dp n : Int} (hpg : mz_pg m pc = some (.invokestatic q, 0, b, w)) (hx0 : my_is ρ0 k0) (hD0 : my_rd ρ0 = .inl (0, n0, [(0, lo0, hi0)])) (hx1 : my_is ρ1 k1) (hD1 : my_rd ρ1 = .inl (0, n1, [(0, lo1, hi1)])) (hs : 0 ≤ sp) (hd : 0 ≤ dp) (hn : 0 ≤ n) (h0 : sp + n ≤ n0) (h1 : dp + n ≤ n1) (hr8 : Nat.ble (r.map my_cat).sum 8 = true) (hlo : lo1 ≤ lo0) (hhi : hi0 ≤ hi1)
    (k : ∀ h', h' = my_cp h k0 sp k1 dp n → wp l rho (d + 1) m (pc + 3) ls r h' Q) : wp l rho (d + 1) m pc ls ((0, n) :: (0, dp) :: (2, k1) :: (0, sp) :: (2, k0) :: r) h Q :=
  w_cp hpg hx0 hD0 hx1 hD1 hs hd hn h0 h1 hr8 (fun j => ⟨(0, lo0, hi0), by simp [Nat.mod_one]⟩) (fun j e0 e1 _ q0 q1 q2 => by
    simp only [List.length_cons, List.length_nil, Nat.zero_add, Nat.mod_one, List.getElem?_cons_zero, Option.some.injEq] at q0 q1
    subst q0; subst q1
    exact ⟨rfl, Int.le_trans hlo q2.1, Int.le_trans q2.2.1 hhi, q2.2.2⟩) k
theorem my_fr.cp {T : List (Nat × Int)} {h h' h2 : my_H} {ρ : Nat} {k0 sp k1 dp n : Int} (p : my_fr T h h') (hx : my_is ρ k1) (e : h2 = my_cp h' k0 sp k1 dp n) (hT : T.any (fun q => ρ == q.1 && q.2 == -1) = true) : my_fr T h h2 := by
  subst e
  intro k i hk
  rw [← p k i hk]
  refine if_neg (fun q => ?_)
  obtain ⟨rfl, -⟩ := q
  have : my_md T k i = true := by
    unfold my_md
    rw [hx.2.2]
    obtain ⟨u, u1, u2⟩ := List.any_eq_true.mp hT
    refine List.any_eq_true.mpr ⟨u, u1, ?_⟩
    simp only [Bool.and_eq_true] at u2
    simp [u2.1, u2.2]
  rw [hk] at this
  cases this
theorem my_cp_role {h h' : my_H} {ρ ρ' : Nat} {x i k0 sp k1 dp n : Int} (e : h' = my_cp h k0 sp k1 dp n) (hx : my_is ρ x) (ha : my_is ρ' k1) (hr : Nat.beq ρ ρ' = false) : h' x i = h x i := by
  subst e
  refine if_neg (fun q => ?_)
  have e1 := hx.2.2
  rw [q.1, ha.2.2] at e1
  rw [e1, Nat.beq_refl] at hr
  cases hr
end MYX
