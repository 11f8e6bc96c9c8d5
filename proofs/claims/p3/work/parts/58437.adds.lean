/-! going through the ways: the row that comes -/
section ZSK
/-- the first of n columns that shows t -/
def zqFo (og : Int → Int) (t : Int) (D : Int → Int) : Nat → Option Int
  | 0 => none
  | n + 1 => match zqFo og t D n with
    | some v => some v
    | none => if og (n : Int) = t then some (D n) else none
theorem zqFo_no {og D : Int → Int} {t : Int} : ∀ n : Nat, (∀ k : Int, 0 ≤ k → k < n → og k ≠ t) → zqFo og t D n = none
  | 0, _ => rfl
  | n + 1, h => by rw [zqFo, zqFo_no n (fun k a b => h k a (by omega))]; exact if_neg (h n (by omega) (by omega))
theorem zqFo_yes {og D : Int → Int} {t y : Int} (y0 : 0 ≤ y) (e : og y = t) (h : ∀ k : Int, 0 ≤ k → k < y → og k ≠ t) : ∀ n : Nat, y < n → zqFo og t D n = some (D y)
  | 0, hn => by omega
  | n + 1, hn => by
    by_cases z : y = n
    · subst z
      rw [zqFo, zqFo_no n h]
      exact if_pos e
    · rw [zqFo, zqFo_yes y0 e h n (by omega)]
theorem zqFo_cg {og og' D : Int → Int} {t : Int} : ∀ n : Nat, (∀ k : Int, 0 ≤ k → k < n → og k = og' k) → zqFo og t D n = zqFo og' t D n
  | 0, _ => rfl
  | n + 1, h => by rw [zqFo, zqFo, zqFo_cg n (fun k a b => h k a (by omega)), h n (by omega) (by omega)]
/-- the row that comes: what is drafted where the base's column is seen, else what fills it -/
def zqCm (og : Int → Int) (b : Int) (n : Nat) (D F : Int → Int) (c : Int) : Int := (zqFo og (4 * b + c) D n).getD (F c)
theorem FrP_cm {h : my_H} {L c v : Int} (p : FrP h L c v) : v = zqCm (h (L + 6)) (h L 2) (h L 4).toNat (h 93) (h (L + 7)) c := by
  unfold zqCm
  rcases p with ⟨y, y0, y1, e, n, ev⟩ | ⟨n, ev⟩
  · rw [zqFo_yes y0 e n _ (by omega)]; exact ev
  · rw [zqFo_no _ (fun k a b => n k a (by omega))]; exact ev
/-- of a window -/
def cmR (h : my_H) (w c : Int) : Int := zqCm (zqOg (h (h 27 w) 2) (h (h 27 w) 3) (zqCW h w)) (h (h 27 w) 2) (zqW (h (h 27 w) 3) (zqCW h w)).toNat (h 93) (h (h 27 w + 7)) c
theorem FrP_R {h : my_H} {w c v : Int} (D : LwD1 h w) (p : FrP h (h 27 w) c v) : v = cmR h w c := by
  obtain ⟨d1, d2, -⟩ := D
  rw [FrP_cm p]
  unfold cmR zqCm
  rw [← d1, zqFo_cg _ (fun k a b => d2 k a (by omega))]
theorem zqOg_at {b m j : Int} (b0 : 0 ≤ b) : ∀ P : List zqP, (∀ p ∈ P, p.1 = 4 → 0 ≤ p.2.2.1) → zqOg b m P j = -1 ∨ (∃ i : Int, 0 ≤ i ∧ i < m ∧ zqOg b m P j = 4 * b + i) ∨ 16 ≤ zqOg b m P j
  | [], _ => by
    show (if 0 ≤ j ∧ j < m then 4 * b + j else -1) = -1 ∨ (∃ i : Int, 0 ≤ i ∧ i < m ∧ (if 0 ≤ j ∧ j < m then 4 * b + j else -1) = 4 * b + i) ∨ 16 ≤ (if 0 ≤ j ∧ j < m then 4 * b + j else -1)
    by_cases z : 0 ≤ j ∧ j < m
    · rw [if_pos z]; exact Or.inr (Or.inl ⟨j, z.1, z.2, rfl⟩)
    · rw [if_neg z]; exact Or.inl rfl
  | p :: t, h => by
    have ih := fun i => zqOg_at (b := b) (m := m) (j := i) b0 t (fun q hq => h q (List.mem_cons_of_mem _ hq))
    have hp := h p (List.mem_cons_self ..)
    have e : zqOg b m (p :: t) j = if p.1 = 3 then (if 0 ≤ j ∧ j < p.2.2.2.1 then zqOg b m t (p.2.2.2.2 j) else -1) else if p.1 = 4 then (if zqW m t ≤ j ∧ j < zqW m t + p.2.2.2.1 - 1 then 16 + 4 * p.2.2.1 + (j - zqW m t + 1) else zqOg b m t j) else if p.1 = 5 then -1 else zqOg b m t j := rfl
    rw [e]
    by_cases k3 : p.1 = 3
    · rw [if_pos k3]
      by_cases z : 0 ≤ j ∧ j < p.2.2.2.1
      · rw [if_pos z]; exact ih _
      · rw [if_neg z]; exact Or.inl rfl
    · rw [if_neg k3]
      by_cases k4 : p.1 = 4
      · rw [if_pos k4]
        by_cases z : zqW m t ≤ j ∧ j < zqW m t + p.2.2.2.1 - 1
        · rw [if_pos z]
          have := hp k4
          exact Or.inr (Or.inr (by omega))
        · rw [if_neg z]; exact ih _
      · rw [if_neg k4]
        by_cases k5 : p.1 = 5
        · rw [if_pos k5]; exact Or.inl rfl
        · rw [if_neg k5]; exact ih _
/-- nothing comes behind the base's columns -/
theorem cmR_z {h : my_H} {w c : Int} (w0 : 0 ≤ w) (w5 : w ≤ 5) (t : h (h 27 w) 0 = 1) (D : LwD1 h w) (L : Lw h) (c0 : h (h 27 w) 3 ≤ c) (c3 : c ≤ 3) : cmR h w c = 0 := by
  obtain ⟨wf, b0, b2, m0, m4⟩ := L w w0 w5 t
  unfold cmR zqCm
  rw [zqFo_no _ (fun k a b => by
    rcases zqOg_at (m := h (h 27 w) 3) (j := k) b0 (zqCW h w) (fun p hp k4 => by
      obtain ⟨n, q⟩ := zqWf_mem wf hp
      have := q.2.1 k4
      omega) with z | ⟨i, i0, i1, z⟩ | z
    · omega
    · omega
    · omega)]
  exact D.2.2.2.2.2.2.2 c c0 c3
/-- that it comes is a way -/
def zqQ3 (A : zqA) (S : Int → Int) (b m : Int) (P : List zqP) (W : List zqR) (f : Int → Int) : Prop :=
  zqCn S b 20 < 10 ∧ S (80 * b + 4 * f 0) = -1 ∧ zqLf A (zqAdd S b (f 0) f) ∧ (zqRun (zqAdd S b (f 0) f) m ((zqLd (zqAdd S b (f 0) f) b m 20).map Prod.snd) P).Perm W
theorem zqAdd_cg {S : Int → Int} {b k : Int} {f f' : Int → Int} (e : ∀ c : Int, 0 ≤ c → c ≤ 3 → f c = f' c) : zqAdd S b k f = zqAdd S b k f' := funext fun j => by
  unfold zqAdd
  by_cases z : 80 * b + 4 * k ≤ j ∧ j < 80 * b + 4 * k + 4
  · rw [if_pos z, if_pos z]; exact e _ (by omega) (by omega)
  · rw [if_neg z, if_neg z]
theorem zqAdd_k {S : Int → Int} {w k u q : Int} {f : Int → Int} (k0 : 0 ≤ k) (k9 : k ≤ 19) (q0 : 0 ≤ q) (q9 : q ≤ 19) : zqAdd S w k f (80 * u + 4 * q) = if u = w ∧ q = k then f 0 else S (80 * u + 4 * q) := by
  unfold zqAdd
  by_cases z : u = w ∧ q = k
  · rw [if_pos z, if_pos (by omega)]
    congr 1
    omega
  · rw [if_neg z, if_neg (by omega)]
theorem zqAdd_c {S : Int → Int} {w k u q c : Int} {f : Int → Int} (k0 : 0 ≤ k) (k9 : k ≤ 19) (q0 : 0 ≤ q) (q9 : q ≤ 19) (c1 : 0 ≤ c) (c3 : c ≤ 3) : zqAdd S w k f (80 * u + 4 * q + c) = if u = w ∧ q = k then f c else S (80 * u + 4 * q + c) := by
  unfold zqAdd
  by_cases z : u = w ∧ q = k
  · rw [if_pos z, if_pos (by omega)]
    congr 1
    omega
  · rw [if_neg z, if_neg (by omega)]
theorem zqCn_one {S S' : Int → Int} {w k : Int} : ∀ n : Nat, (∀ q : Int, 0 ≤ q → q < n → q ≠ k → S (80 * w + 4 * q) = -1 → S' (80 * w + 4 * q) = -1) → zqCn S' w n ≤ zqCn S w n + (if k < n then 1 else 0)
  | 0, _ => by show (0 : Int) ≤ 0 + _; split <;> omega
  | n + 1, h => by
    by_cases e : (n : Int) = k
    · have q := zqCn_le (S := S) (S' := S') (w := w) n (fun q q0 q1 => h q q0 (by omega) (by omega))
      rw [zqCn, zqCn, if_pos (show k < ((n + 1 : Nat) : Int) by omega)]
      split <;> split <;> omega
    · have ih := zqCn_one (S := S) (S' := S') (w := w) (k := k) n (fun q q0 q1 => h q q0 (by omega))
      have i2 : (if k < (n : Int) then (1 : Int) else 0) ≤ (if k < ((n + 1 : Nat) : Int) then 1 else 0) := by split <;> split <;> omega
      have hn := h n (by omega) (by omega) e
      rw [zqCn, zqCn]
      by_cases q : S (80 * w + 4 * (n : Int)) = -1
      · rw [if_pos q, if_pos (hn q)]; omega
      · rw [if_neg q]
        split <;> omega
theorem zqGd_add {S : Int → Int} {w k : Int} {f : Int → Int} (k0 : 0 ≤ k) (k9 : k ≤ 19) (G : zqGd S) (n : zqCn S w 20 < 10) (hf : ∀ c : Int, 0 ≤ c → c ≤ 3 → 0 ≤ f c ∧ f c ≤ 19) : zqGd (zqAdd S w k f) := by
  refine ⟨fun u q u0 u2 hq => ?_, fun u u0 u2 => ?_⟩
  · obtain ⟨q0, q9, h⟩ := hq
    have e := zqAdd_k (S := S) (w := w) (u := u) (f := f) k0 k9 q0 q9
    have ec := fun c c1 c3 => zqAdd_c (S := S) (w := w) (u := u) (c := c) (f := f) k0 k9 q0 q9 c1 c3
    by_cases z : u = w ∧ q = k
    · rw [if_pos z] at e
      refine ⟨by rw [e]; exact (hf 0 (by omega) (by omega)).1, by rw [e]; exact (hf 0 (by omega) (by omega)).2, fun c c1 c3 => ?_⟩
      rw [ec c (by omega) c3, if_pos z]
      exact hf c (by omega) c3
    · rw [if_neg z] at e
      obtain ⟨g1, g2, g3⟩ := G.1 u q u0 u2 ⟨q0, q9, by rw [← e]; exact h⟩
      refine ⟨by rw [e]; exact g1, by rw [e]; exact g2, fun c c1 c3 => ?_⟩
      rw [ec c (by omega) c3, if_neg z]
      exact g3 c c1 c3
  · by_cases z : u = w
    · have := zqCn_one (S := S) (S' := zqAdd S w k f) (w := u) (k := k) 20 (fun q q0 q1 ne hq => by
        rw [zqAdd_k k0 k9 q0 (by omega), if_neg (fun y => ne y.2)]; exact hq)
      rw [z] at this ⊢
      have i : (if k < ((20 : Nat) : Int) then (1 : Int) else 0) ≤ 1 := by split <;> omega
      omega
    · have := zqCn_le (S := S) (S' := zqAdd S w k f) (w := u) 20 (fun q q0 q1 hq => by
        rw [zqAdd_k k0 k9 q0 (by omega), if_neg (fun y => z y.1)]; exact hq)
      have := G.2 u u0 u2
      omega
theorem zqSt_add {A : zqA} {S : Int → Int} {w k : Int} {f : Int → Int} (k0 : 0 ≤ k) (k9 : k ≤ 19) (T : zqSt A S) (a1 : 1 ≤ A.1 w) (fk : f 0 = k) (hf : ∀ c : Int, 0 ≤ c → c ≤ 3 → 0 ≤ f c ∧ f c ≤ 19) (fz : ∀ c : Int, A.1 w ≤ c → c ≤ 3 → f c = 0) : zqSt A (zqAdd S w k f) := fun u q u0 u2 q0 q9 => by
  have e := zqAdd_k (S := S) (w := w) (u := u) (f := f) k0 k9 q0 q9
  have ec := fun c c1 c3 => zqAdd_c (S := S) (w := w) (u := u) (c := c) (f := f) k0 k9 q0 q9 c1 c3
  by_cases z : u = w ∧ q = k
  · rw [if_pos z] at e
    obtain ⟨z1, z2⟩ := z
    subst z1; subst z2
    refine Or.inr ⟨e.trans fk, a1, fun c c1 c3 => ?_⟩
    rw [ec c (by omega) c3, if_pos ⟨rfl, rfl⟩]
    exact ⟨(hf c (by omega) c3).1, (hf c (by omega) c3).2, fun y => fz c y c3⟩
  · rw [if_neg z] at e
    have f' := fun c c1 c3 => (ec c c1 c3).trans (if_neg z)
    rcases T u q u0 u2 q0 q9 with ⟨t0, t1, t2, t3⟩ | ⟨t0, t1, t2⟩
    · exact Or.inl ⟨e.trans t0, (f' 1 (by omega) (by omega)).trans t1, (f' 2 (by omega) (by omega)).trans t2, (f' 3 (by omega) (by omega)).trans t3⟩
    · exact Or.inr ⟨e.trans t0, t1, fun c c1 c3 => by rw [f' c (by omega) c3]; exact t2 c c1 c3⟩
def Q3h (h : my_H) (w : Int) : Prop := zqQ3 (zqCA h) (h 96) (h (h 27 w) 2) (h (h 27 w) 3) (zqCW h w) (WLs h) (cmR h w)
noncomputable def LGh (h : my_H) (w : Int) : List zqY := zqV3 (Q2h h w) 60 ++ LLh h w
/-- all ways -/
noncomputable def LAh (h : my_H) (w : Int) : List zqY := zqIf (Q3h h w) [(3, h (h 27 w) 2, cmR h w 0, -1, -1)] [] ++ LGh h w
theorem LGh_k {h : my_H} {w : Int} {y : zqY} (hy : y ∈ LGh h w) : y.1 ≤ 2 := by
  unfold LGh LLh L0h at hy
  rcases List.mem_append.mp hy with q | q
  · have := (zqV3_k q).1; omega
  · rcases List.mem_append.mp q with q | q
    · have := zqV2_k q; omega
    · by_cases z : h 94 14 ≠ 0
      · rw [zqIf_t z] at q
        rcases List.mem_cons.mp q with e | e
        · rw [e]; show (0 : Int) ≤ 2; omega
        · cases e
      · rw [zqIf_f z] at q; cases q
/-- the row that came lies ready, where the least of the ways wants it -/
def FrOk (h g : my_H) (w : Int) : Prop := (∀ c : Int, 0 ≤ c → c ≤ 3 → g 110 c = cmR h w c) ∨ ∃ b : zqY, zqLe (h 2) (LAh h w) = some b ∧ b.1 ≠ 3
theorem zqPr_3 {C : Int → Int} {b k : Int} : zqPr C (3, b, k, -1, -1) = C b := by
  unfold zqPr
  rw [if_neg (show ¬ (3 : Int) ≤ 1 by decide)]
theorem Cm_e {h g : my_H} {w : Int} (K : SrC h w) (D : DkE g (h 2) (LGh h w)) (en : g 94 13 ≠ 0) (p0 : g 112 0 ≠ -1) (p1 : g 112 0 ≤ 1) : DkE g (h 2) (LAh h w) ∧ FrOk h g w := by
  have hM : ∀ y ∈ zqIf (Q3h h w) [(3, h (h 27 w) 2, cmR h w 0, -1, -1)] [], 1 ≤ zqPr (h 2) y := fun y hy => by
    by_cases z : Q3h h w
    · rw [zqIf_t z] at hy
      rcases List.mem_cons.mp hy with e | e
      · rw [e, zqPr_3]
        have := K.2.1.2.2.2.2.2.1
        have := K.2.1.2.2.2.2.2.2.1
        omega
      · cases e
    · rw [zqIf_f z] at hy; cases hy
  refine ⟨DkE_en D en p0 p1 hM, Or.inr ?_⟩
  rcases D.2 with ⟨d1, d2, d3⟩ | ⟨d1, b, d2, d3, d4⟩
  · cases e : zqLe (h 2) (LGh h w) with
    | none => rw [e] at d2; exact absurd d2.1 p0
    | some b =>
      rw [e] at d2
      have q : zqPr (h 2) b ≤ 1 := by have := d2.1; omega
      have := LGh_k (zqLe_mem e)
      exact ⟨b, zqLe_stop e q _ hM, by omega⟩
  · have := LGh_k (zqLe_mem d2)
    exact ⟨b, zqLe_stop d2 d3 _ hM, by omega⟩
theorem Cm_n {h g : my_H} {w : Int} (D : DkE g (h 2) (LGh h w)) (n : ¬ Q3h h w) : DkE g (h 2) (LAh h w) := by
  unfold LAh
  rw [zqIf_f n]
  exact D
theorem Cm_y {h g g1 g2 : my_H} {w pr : Int} (D : DkE g (h 2) (LGh h w)) (no : g 94 13 = 0 ∨ g 112 0 = -1 ∨ 1 < g 112 0) (S : KpS g g1) (P : KpP g1 g2 3 pr) (q : Q3h h w) (h2 : g1 111 2 = h (h 27 w) 2) (h3 : g1 111 3 = cmR h w 0) (h4 : g1 111 4 = -1) (h5 : g1 111 5 = -1) (hp : pr = h 2 (h (h 27 w) 2)) (p0 : 0 ≤ pr) : DkE g2 (h 2) (LAh h w) := by
  unfold LAh
  rw [zqIf_t q]
  exact DkE_keep D no S P (by rw [h2, h3, h4, h5]) (by rw [zqPr_3]; exact hp) p0
/-- the row can't come -/
theorem Q3_no {h g : my_H} {w : Int} (K : SrC h w) (p : RcN h g (h 27 w)) : ¬ Q3h h w := fun z => by
  obtain ⟨z1, z2, -⟩ := z
  obtain ⟨fr, x, -⟩ := p
  have e0 : g 110 0 = cmR h w 0 := FrP_R K.2.1 (fr 0 (by omega) (by omega))
  have hw := K.2.2.1 w K.1.1 K.1.2.1 K.1.2.2
  rw [e0, K.2.2.2.2.2.2.2.2.2.2.2.2.2.2.2.2.2.2.2 _ hw.2.1 hw.2.2.1] at x
  rcases x with x | x
  · omega
  · exact x z2
/-- it has come -/
theorem Rc_add {h g : my_H} {w : Int} (K : SrC h w) (p : RcY h g (h 27 w)) : (∀ c : Int, 0 ≤ c → c ≤ 3 → g 110 c = cmR h w c) ∧ g 96 = zqAdd (h 96) (h (h 27 w) 2) (cmR h w 0) (cmR h w) ∧ zqCn (h 96) (h (h 27 w) 2) 20 < 10 ∧ h 96 (80 * h (h 27 w) 2 + 4 * cmR h w 0) = -1 := by
  obtain ⟨fr, s, m, c96, c97⟩ := p
  have e : ∀ c : Int, 0 ≤ c → c ≤ 3 → g 110 c = cmR h w c := fun c a b => FrP_R K.2.1 (fr c a (by omega))
  have hw := K.2.2.1 w K.1.1 K.1.2.1 K.1.2.2
  rw [K.2.2.2.2.2.2.2.2.2.2.2.2.2.2.2.2.2.2.2 _ hw.2.1 hw.2.2.1] at s
  rw [e 0 (by omega) (by omega)] at m c96
  refine ⟨e, ?_, s, m⟩
  rw [← zqAdd_cg e]
  exact funext c96
theorem Rc_la {h g : my_H} {w : Int} (K : SrC h w) (p : RcY h g (h 27 w)) (kF : ∀ c : Int, 0 ≤ c → c ≤ 3 → 0 ≤ g 110 c ∧ g 110 c ≤ 19) (ca : zqCA g = zqCA h) : zqGd (g 96) ∧ (qLaw (zqCA g) (g 96) ↔ zqLf (zqCA h) (zqAdd (h 96) (h (h 27 w) 2) (cmR h w 0) (cmR h w))) := by
  obtain ⟨e, c96, n, -⟩ := Rc_add K p
  have kf : ∀ c : Int, 0 ≤ c → c ≤ 3 → 0 ≤ cmR h w c ∧ cmR h w c ≤ 19 := fun c a b => by rw [← e c a b]; exact kF c a b
  have k0 := kf 0 (by omega) (by omega)
  have hD := K.2.1
  have hL := K.2.2.1
  obtain ⟨⟨w0, w5, ht⟩, D, L, -, -, -, -, -, -, -, -, -, -, gd, -, st, ld, c4, -⟩ := K
  rw [ca, c96]
  refine ⟨zqGd_add k0.1 k0.2 gd n kf, qLaw_lf ld (fun u a b => (c4 u a b).2) (zqSt_add k0.1 k0.2 st ?_ rfl kf (fun c a b => ?_))⟩
  · show 1 ≤ h 2 (h (h 27 w) 2)
    have := D.2.2.2.2.2.1
    have := D.2.2.2.2.2.2.1
    omega
  · refine cmR_z w0 w5 ht hD hL ?_ b
    have a' : h 2 (h (h 27 w) 2) ≤ c := a
    have := D.2.2.2.2.2.1
    omega
theorem Q3_la {h : my_H} {w : Int} (n : ¬ zqLf (zqCA h) (zqAdd (h 96) (h (h 27 w) 2) (cmR h w 0) (cmR h w))) : ¬ Q3h h w := fun z => n z.2.2.1
theorem Q3_sh {h g0 g1 g2 : my_H} {w : Int} (K : SrC h w) (n : Ln h) (a : my_ag LwF h g1) (s : SmV h g2) (p : RcY h g0 (h 27 w)) (e : ∀ j : Int, g1 96 j = g0 96 j) (V : VwI g2 106 (g1 96) (g1 (g1 27 w) 2) (g1 (g1 27 w) 3) (zqCW g1 w)) (o : VwS g2 106) (la : zqLf (zqCA h) (zqAdd (h 96) (h (h 27 w) 2) (cmR h w 0) (cmR h w))) : zqSame g2 106 102 ↔ Q3h h w := by
  obtain ⟨f, c96, nn, m⟩ := Rc_add K p
  rw [show g1 96 = g0 96 from funext e, c96] at V
  exact (ShS K n a s V o).trans ⟨fun z => ⟨nn, m, la, z⟩, fun z => z.2.2.2⟩
end ZSK
