/-! sayings for show, and rules more -/
section MPD
theorem Lst_ne {h h' : my_H} {a j y : Int} (e : h' = my_up h a j y) (hne : a ≠ 112) (p : Lst h) : Lst h' := by
  have e1 : ∀ i : Int, h' 112 i = h 112 i := fun i => my_up_ne e (fun q => hne q.1.symm)
  unfold Lst at p ⊢
  rw [e1, e1, e1, e1, e1]
  exact p
/-- the chain of windows, so far -/
def Sc (h g : my_H) (c dp w x2 : Int) : Prop := w ≤ 5 - dp ∧ (w ≠ -1 → 0 ≤ w ∧ h (h 27 w) 0 = 1 ∧ h (h 27 w) 3 = h (h 27 x2) 3) ∧ (∀ j : Int, 0 ≤ j → j < dp → 0 ≤ g c j ∧ g c j ≤ 5 ∧ h (h 27 (g c j)) 0 = 1 ∧ h (h 27 (g c j)) 3 = h (h 27 x2) 3 ∧ h (h 27 (g c j)) 1 = (if j + 1 = dp then w else g c (j + 1))) ∧ (dp = 0 → w = x2)
theorem Sc_0 {h : my_H} {c x2 : Int} (ht : h (h 27 x2) 0 = 1) (h0 : 0 ≤ x2) (h5 : x2 ≤ 5) : Sc h h c 0 x2 x2 :=
  ⟨by omega, fun _ => ⟨h0, ht, rfl⟩, fun j a b => absurd a (by omega), fun _ => rfl⟩
theorem Sc_s {h g g' : my_H} {c dp w x2 : Int} (p : Sc h g c dp w x2) (hw : w ≠ -1) (hd : 0 ≤ dp) (L : Ln h) (e : g' = my_up g c dp w) : Sc h g' c (dp + 1) (h (h 27 w) 1) x2 := by
  obtain ⟨s1, s2, s3, s4⟩ := p
  obtain ⟨w0, wt, w3⟩ := s2 hw
  obtain ⟨q1, q2, q3, -, -⟩ := L.2.2.2.2 w w0 (by omega) wt
  have ed : g' c dp = w := my_up_self e
  have ne : ∀ j : Int, j ≠ dp → g' c j = g c j := fun j hj => my_up_ne e (fun q => hj q.2)
  refine ⟨by omega, fun hu => ⟨by omega, (q3 hu).1, by rw [← (q3 hu).2]; exact w3⟩, fun j a b => ?_, fun q => by omega⟩
  by_cases hj : j = dp
  · subst hj
    rw [ed, if_pos rfl]
    exact ⟨w0, by omega, wt, w3, rfl⟩
  · obtain ⟨t1, t2, t3, t4, t5⟩ := s3 j a (by omega)
    rw [ne j hj]
    refine ⟨t1, t2, t3, t4, ?_⟩
    rw [t5, if_neg (by omega : ¬ j + 1 = dp + 1)]
    by_cases hj2 : j + 1 = dp
    · rw [if_pos hj2, hj2, ed]
    · rw [if_neg hj2, ne _ hj2]
theorem Sc_cg {h g g' : my_H} {c dp w x2 : Int} (e : ∀ j : Int, g' c j = g c j) (p : Sc h g c dp w x2) : Sc h g' c dp w x2 := by
  obtain ⟨s1, s2, s3, s4⟩ := p
  refine ⟨s1, s2, fun j a b => ?_, s4⟩
  rw [e, e]
  exact s3 j a b
theorem Sc_bot {h g : my_H} {c dp x2 : Int} (p : Sc h g c dp (-1) x2) (hd : 0 < dp) : ln_s h (h 27 (g c (dp - 1))) = h (h 27 x2) 3 := by
  obtain ⟨t1, t2, t3, t4, t5⟩ := p.2.2.1 (dp - 1) (by omega) (by omega)
  rw [if_pos (by omega)] at t5
  unfold ln_s
  rw [if_pos t5, t4]
theorem Sc_up {h g : my_H} {c dp x2 lv : Int} (p : Sc h g c dp (-1) x2) (h0 : 0 ≤ lv) (h1 : lv + 1 < dp) : ln_s h (h 27 (g c lv)) = h (h 27 (g c (lv + 1))) 4 := by
  obtain ⟨t1, t2, t3, t4, t5⟩ := p.2.2.1 lv h0 (by omega)
  obtain ⟨u1, -⟩ := p.2.2.1 (lv + 1) (by omega) h1
  rw [if_neg (by omega)] at t5
  unfold ln_s
  rw [if_neg (by omega), t5]
theorem Sc_L {h g : my_H} {c dp x2 lv : Int} (L : Ln h) (p : Sc h g c dp (-1) x2) (h0 : 0 ≤ lv) (h1 : lv < dp) : LnL h (h 27 (g c lv)) (g c lv) := by
  obtain ⟨t1, t2, t3, t4, t5⟩ := p.2.2.1 lv h0 h1
  exact L.2.2.2.2 _ t1 t2 t3
theorem ln_ok_at {h : my_H} {L c n s : Int} (p : ln_ok h L c n.toNat) (h0 : 0 ≤ s) (h1 : s < n) : (h (L + 1) s = 4 → h (L + 3) s ≤ 2 ∧ 1 ≤ h (L + 4) s ∧ h (L + 4) s ≤ 4 ∧ ln_f h L c s.toNat + h (L + 4) s ≤ 9) ∧ (h (L + 1) s = 5 → h (L + 3) s ≤ 7) := by
  have := p s.toNat (by omega)
  rwa [Int.toNat_of_nonneg h0] at this
theorem ln_f_at {h : my_H} {L c s : Int} (h0 : 0 ≤ s) : ln_f h L c (s + 1).toNat = ln_st (h (L + 1) s) (h (L + 4) s) (ln_f h L c s.toNat) := by
  rw [show (s + 1).toNat = s.toNat + 1 by omega, ln_f, Int.toNat_of_nonneg h0]
theorem ln_st3 {t c : Int} : ln_st 3 t c = t := by simp [ln_st]
theorem ln_st4 {t c : Int} : ln_st 4 t c = c + t - 1 := by simp [ln_st]
theorem ln_st5 {t c : Int} : ln_st 5 t c = 2 := by simp [ln_st]
theorem ln_stN {k t c : Int} (h3 : k ≠ 3) (h4 : k ≠ 4) (h5 : k ≠ 5) : ln_st k t c = c := by simp [ln_st, h3, h4, h5]
end MPD
section MPE
variable {l : Launch} {rho : Nat → Int32} {d m pc : Nat} {ls st : List my_V} {r : List my_V} {h : my_H} {Q : my_H → my_V → Prop} {a b w : Nat}
theorem w_ldc2A {q : Nat} (hpg : mz_pg m pc = some (.ldc2_w q, a, b, w)) (k : ∀ z : Int, my_in (1, z) → wp l rho d m (pc + 3) ls ((1, z) :: st) h Q) : wp l rho d m pc ls st h Q := by
  intro a1 a2 L H a3 a4
  have hf := my_fullJ (Int64.ofNat a)
  obtain ⟨pc', L2, st2, H', h', i, v, b1, b2⟩ := k _ hf a1 (a2.p hf) L H a3 a4
  refine ⟨pc', L2, st2, H', h', i, v, ok_s3 hpg ?_ rfl rfl b1, b2⟩
  simp only [mx_s3, List.map_cons, my_val, Int64.ofInt_toInt]
/-- a text that was there before -/
theorem w_ldcS {q : Nat} (hpg : mz_pg m pc = some (.ldc q, a, b, w)) (hb : b ≠ 0) (k : wp l rho d m (pc + 2) ls ((3, (a : Int)) :: st) h Q) : wp l rho d m pc ls st h Q := by
  intro a1 a2 L H a3 a4
  obtain ⟨pc', L2, st2, H', h', i, v, b1, b2⟩ := k a1 (a2.p (v := (3, (a : Int))) (Int.natCast_nonneg a)) L H a3 a4
  refine ⟨pc', L2, st2, H', h', i, v, ok_s3 hpg ?_ rfl rfl b1, b2⟩
  simp [mx_s3, my_val, hb]
/-- an int of the constant pool, by a wide index -/
theorem w_ldcw {ix : Nat} {v : Int} (hdec : decode (mz_mt m).2.1 pc = .ok (.ldc_w ix, 3)) (hc : Cond.constant (mz_mt m).1.cls ix (Int32.ofInt v) ∈ mz_tb) (hv : -2147483648 ≤ v ∧ v ≤ 2147483647) (k : wp l rho d m (pc + 3) ls ((0, v) :: st) h Q) : wp l rho d m pc ls st h Q := by
  intro a1 a2 L H a3 a4
  obtain ⟨pc', L2, st2, H', h', i, v2, b1, b2⟩ := k a1 (a2.p (v := (0, v)) hv) L H a3 a4
  refine ⟨pc', L2, st2, H', h', i, v2, ?_, b2⟩
  intro p e R s mm args below meth c H locs cells slots Q sl stk ws n0 D tys sg hFr hI hc' hs hk
  obtain ⟨hP, hD, hS, hM, hl, hst⟩ := id hI
  exact lv_ldcw hFr.1 hFr.2.1 hFr.2.2.2.2.1 (hFr.2.2.2.2.2.1 _ hc) hdec (b1 p e R s mm args below meth c H locs cells slots Q sl _ ws n0 D tys sg hFr ⟨hP, hD, hS, hM, hl, rfl, hst⟩ hc' hs hk)
end MPE
section MPF
theorem dcw_123_4 : decode (mz_mt 123).2.1 4 = .ok (.ldc_w 265, 3) := by decide +kernel
theorem dcw_123_11 : decode (mz_mt 123).2.1 11 = .ok (.ldc_w 266, 3) := by decide +kernel
theorem dcw_123_18 : decode (mz_mt 123).2.1 18 = .ok (.ldc_w 266, 3) := by decide +kernel
theorem dcw_123_29 : decode (mz_mt 123).2.1 29 = .ok (.ldc_w 267, 3) := by decide +kernel
theorem cw_265 : Cond.constant (mz_mt 123).1.cls 265 (Int32.ofInt 1431655765) ∈ mz_tb := by decide +kernel
theorem cw_266 : Cond.constant (mz_mt 123).1.cls 266 (Int32.ofInt 858993459) ∈ mz_tb := by decide +kernel
theorem cw_267 : Cond.constant (mz_mt 123).1.cls 267 (Int32.ofInt 252645135) ∈ mz_tb := by decide +kernel
end MPF
section MPG
abbrev AgF : List (Nat × Int) := [(32, -1), (34, -1), (35, -1), (4, 1), (4, 3), (4, 9), (4, 4)]
theorem my_ag.rf {F : List (Nat × Int)} {h : my_H} : my_ag F h h := fun _ _ _ => rfl
theorem AgL_ag {h h1 h2 : my_H} (g : my_ag AgF h1 h2) (p : my_ag AgF h h1) : my_ag AgF h h2 := p.tr g
end MPG
section MPH
variable {l : Launch} {rho : Nat → Int32} {d m pc : Nat} {ls ls' st : List my_V} {r : List my_V} {h : my_H} {Q : my_H → my_V → Prop} {a b w nL np ci : Nat} {rt : Option FieldType}
theorem w_iaddB {x y : Int} (hpg : mz_pg m pc = some (.iadd, a, b, w)) (hr : -2147483648 ≤ x → x ≤ 2147483647 → -2147483648 ≤ y → y ≤ 2147483647 → -2147483648 ≤ x + y ∧ x + y ≤ 2147483647) (k : wp l rho d m (pc + 1) ls ((0, x + y) :: r) h Q) : wp l rho d m pc ls ((0, y) :: (0, x) :: r) h Q := fun a1 a2 =>
  w_iadd hpg (hr a2.c.2.c.1.1 a2.c.2.c.1.2 a2.c.1.1 a2.c.1.2) k a1 a2
theorem w_isubB {x y : Int} (hpg : mz_pg m pc = some (.isub, a, b, w)) (hr : -2147483648 ≤ x → x ≤ 2147483647 → -2147483648 ≤ y → y ≤ 2147483647 → -2147483648 ≤ x - y ∧ x - y ≤ 2147483647) (k : wp l rho d m (pc + 1) ls ((0, x - y) :: r) h Q) : wp l rho d m pc ls ((0, y) :: (0, x) :: r) h Q := fun a1 a2 =>
  w_isub hpg (hr a2.c.2.c.1.1 a2.c.2.c.1.2 a2.c.1.1 a2.c.1.2) k a1 a2
theorem w_imulB {x y : Int} (hpg : mz_pg m pc = some (.imul, a, b, w)) (hr : -2147483648 ≤ x → x ≤ 2147483647 → -2147483648 ≤ y → y ≤ 2147483647 → -2147483648 ≤ x * y ∧ x * y ≤ 2147483647) (k : wp l rho d m (pc + 1) ls ((0, x * y) :: r) h Q) : wp l rho d m pc ls ((0, y) :: (0, x) :: r) h Q := fun a1 a2 =>
  w_imul hpg (hr a2.c.2.c.1.1 a2.c.2.c.1.2 a2.c.1.1 a2.c.1.2) k a1 a2
theorem w_iincB {i : Nat} {n x : Int} (hpg : mz_pg m pc = some (.iinc i n, a, b, w)) (hx : ls[i]? = some (0, x)) (hm : my_mm m nL rt np ci) (hi : Nat.blt i nL = true) (hn : my_nl ls i = true) (e : ls' = ls.set i (0, x + n)) (hr : -2147483648 ≤ x → x ≤ 2147483647 → -2147483648 ≤ x + n ∧ x + n ≤ 2147483647) (k : wp l rho d m (pc + 3) ls' st h Q) : wp l rho d m pc ls st h Q := fun a1 a2 =>
  w_iinc hpg hx hm hi hn e (hr (a1.g hx).1 (a1.g hx).2) k a1 a2
/-- a window that is told -/
def Td (h : my_H) (w : Int) : Prop := 0 ≤ w ∧ w ≤ 5 ∧ h (h 27 w) 0 = 1
theorem Td_ag {h h' : my_H} {w : Int} (g : my_ag [(22, -1), (4, 0)] h h') (L : Ln h) (p : Td h w) : Td h' w := by
  obtain ⟨p1, p2, p3⟩ := p
  have e1 : h' 27 w = h 27 w := g.at pis_27 rfl
  refine ⟨p1, p2, ?_⟩
  rw [e1, g.at (L.2.2.1 w p1 p2) rfl]
  exact p3
/-- the last of the spare lens's steps: it becomes a window, the old one spare -/
theorem Ln_swap {h h1 h2 h3 : my_H} {w S O : Int} (L : Ln h) (p : Sp h w) (w0 : 0 ≤ w) (w5 : w ≤ 5) (hu : ∀ v : Int, 0 ≤ v → v ≤ 5 → h (h 27 v) 0 = 1 → h (h 27 v) 1 ≠ w) (eS : S = h 82 2) (eO : O = h 27 w) (f1 : h1 = my_up h S 0 1) (f2 : h2 = my_up h1 27 w S) (f3 : h3 = my_up h2 82 2 O) : Ln h3 := by
  obtain ⟨p1, p2, p3, p4, p5⟩ := L
  have far : ∀ {x : Int}, my_is 4 x → 28 ≤ x ∧ (x = 83 ∨ x ≤ 73) := ln_far
  have fS := far p4
  subst eS; subst eO
  have e82 : h3 82 2 = h 27 w := my_up_self f3
  have e27w : h3 27 w = h 82 2 := by rw [my_up_ne f3 (by omega)]; exact my_up_self f2
  have e27 : ∀ v : Int, v ≠ w → h3 27 v = h 27 v := fun v hv => by rw [my_up_ne f3 (by omega), my_up_ne f2 (fun q => hv q.2), my_up_ne f1 (by omega)]
  -- any cell of a lens but the told-mark of the spare one
  have eL : ∀ (x k j : Int), my_is 4 x → 0 ≤ k → k ≤ 8 → ¬ (x + k = h 82 2 ∧ j = 0) → h3 (x + k) j = h (x + k) j := fun x k j hx k0 k8 hn => by
    have fx := far hx
    rw [my_up_ne f3 (by omega), my_up_ne f2 (by omega), my_up_ne f1 hn]
  have eL0 : ∀ (x j : Int), my_is 4 x → ¬ (x = h 82 2 ∧ j = 0) → h3 x j = h x j := fun x j hx hn => by
    have := eL x 0 j hx (by decide) (by decide) (by rw [Int.add_zero]; exact hn)
    rwa [Int.add_zero] at this
  have hOS : h 27 w ≠ h 82 2 := p2 w w0 w5
  have eS0 : h3 (h 82 2) 0 = 1 := by rw [my_up_ne f3 (by omega), my_up_ne f2 (by omega)]; exact my_up_self f1
  have lensU : ∀ v : Int, 0 ≤ v → v ≤ 5 → v ≠ w → h3 27 v = h 27 v ∧ ∀ j : Int, h3 (h 27 v) j = h (h 27 v) j := fun v a b hv => ⟨e27 v hv, fun j => eL0 _ _ (p3 v a b) (fun q => p2 v a b q.1)⟩
  refine ⟨fun v u a b c d e => ?_, fun v a b => ?_, fun v a b => ?_, by rw [e82]; exact p3 w w0 w5, fun v a b c => ?_⟩
  · by_cases hv : v = w
    · by_cases hu2 : u = w
      · omega
      · subst hv
        rw [e27w, e27 u hu2] at e
        exact absurd e.symm (p2 u c d)
    · by_cases hu2 : u = w
      · subst hu2
        rw [e27w, e27 v hv] at e
        exact absurd e (p2 v a b)
      · rw [e27 v hv, e27 u hu2] at e
        exact p1 v u a b c d e
  · rw [e82]
    by_cases hv : v = w
    · subst hv
      rw [e27w]
      exact fun q => hOS q.symm
    · rw [e27 v hv]
      exact fun q => hv (p1 v w a b w0 w5 q)
  · by_cases hv : v = w
    · subst hv; rw [e27w]; exact p4
    · rw [e27 v hv]; exact p3 v a b
  · by_cases hv : v = w
    · subst hv
      rw [e27w]
      refine LnL_cg (h := h) p (eL0 _ _ p4 (by omega)) (eL0 _ _ p4 (by omega)) (eL0 _ _ p4 (by omega)) (eL0 _ _ p4 (by omega)) (fun hn => ?_) (fun k => ⟨eL _ _ _ p4 (by decide) (by decide) (by omega), eL _ _ _ p4 (by decide) (by decide) (by omega), eL _ _ _ p4 (by decide) (by decide) (by omega)⟩)
      obtain ⟨u1, u2⟩ := lensU (h (h 82 2) 1) (by have := p.1; omega) (by have := p.2.1; omega) (by have := p.2.1; omega)
      exact ⟨u1, u2 _, u2 _, u2 _⟩
    · obtain ⟨l1, l2⟩ := lensU v a b hv
      rw [l1] at c ⊢
      rw [l2] at c
      have q := p5 v a b c
      have hvS := p2 v a b
      refine LnL_cg q (l2 _) (l2 _) (l2 _) (l2 _) (fun hn => ?_) (fun k => ⟨eL _ _ _ (p3 v a b) (by decide) (by decide) ?_, eL _ _ _ (p3 v a b) (by decide) (by decide) ?_, eL _ _ _ (p3 v a b) (by decide) (by decide) ?_⟩)
      · obtain ⟨u1, u2⟩ := lensU (h (h 27 v) 1) (by have := q.1; omega) (by have := q.2.1; omega) (hu v a b c)
        exact ⟨u1, u2 _, u2 _, u2 _⟩
      all_goals
        have := ln_apart (p3 v a b) p4 hvS
        omega
end MPH
