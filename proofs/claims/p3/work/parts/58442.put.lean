/-! the least way is done -/
section ZSQ
theorem pis_97 : my_is 31 97 := by unfold my_is; decide +kernel
theorem pix61 {x : Int} (hx : my_is 6 x) : my_is 30 (x + 1) := my_isOff (δ := 1) hx (by decide +kernel)
theorem pix62 {x : Int} (hx : my_is 6 x) : my_is 31 (x + 2) := my_isOff (δ := 2) hx (by decide +kernel)
theorem eqL {P : Int → Prop} {L L' : Int} (p : P L) (e : L = L') : P L' := by rw [← e]; exact p
theorem TlP_mk {h : my_H} {w y L : Int} (p : (h L 7 ≠ 0 → y = -1) ∧ (h L 7 = 0 → TeI h (h L 2) y 20)) (e : L = h 27 w) : TlP h w y := by subst e; exact p
theorem SrC_98 {h : my_H} {w : Int} (K : SrC h w) : h 98 1 ≤ 8 ∧ 0 ≤ h 98 0 ∧ h 98 0 ≤ 10 := by
  obtain ⟨⟨w0, w5, ht⟩, D, L, V, -⟩ := K
  obtain ⟨wf, b0, b2, m0, m4⟩ := L w w0 w5 ht
  have := zqWf_W m0 (by omega) wf
  have := V.1
  exact ⟨by omega, V.2.1, V.2.2.1⟩
theorem SrC_be {h : my_H} {w : Int} (K : SrC h w) : ∀ i : Nat, (i : Int) < h 98 0 → zqBe (zqE h 98 (h 98 1) i).2 := by
  obtain ⟨⟨w0, w5, ht⟩, D, L, V, -, -, -, -, -, -, -, -, -, gd, -⟩ := K
  obtain ⟨wf, b0, b2, m0, m4⟩ := L w w0 w5 ht
  exact VwI_be b0 b2 m4 gd wf V
theorem SmW_V {h g k : my_H} (s : SmW h g) (p : SmV g k) : SmW h k := by
  obtain ⟨s3, s4, s5, s6, s7, s8, s9, sa, sb⟩ := s
  obtain ⟨-, -, q3, q4, q5, q6, q7, q8, q9, qa, qb⟩ := p
  exact ⟨q3.trans s3, q4.trans s4, q5.trans s5, q6.trans s6, q7.trans s7, q8.trans s8, fun j => (q9 j).trans (s9 j), fun j => (qa j).trans (sa j), fun j => (qb j).trans (sb j)⟩
def FrH (h g : my_H) (x w : Int) : Prop := (∀ c : Int, 0 ≤ c → c ≤ 3 → g 110 c = cmR h w c) ∨ ∃ b : zqY, zqLe (h 2) (AlH h x w) = some b ∧ b.1 ≠ 3
theorem Fin_mk {h g2 g3 : my_H} {x w : Int} (tc : DkE g3 (g2 2) (LAh g2 w) ∧ FrOk g2 g3 w) (e2 : g2 2 = h 2) (eL : LAh g2 w = AlH h x w) (cm : cmR g2 w = cmR h w) : DkE g3 (h 2) (AlH h x w) ∧ FrH h g3 x w := by
  unfold FrOk at tc
  rw [e2, eL, cm] at tc
  exact tc
theorem DkE_st {g : my_H} {C : Int → Int} {L : List zqY} (D : DkE g C L) : StpW g 112 C (zqLe C L) := by
  rcases D.2 with ⟨-, d, -⟩ | ⟨-, b, e, -, d⟩
  · exact d
  · rw [e]; exact d
/-- what a way makes of a state -/
def zqPut (S : Int → Int) (y : zqY) (f : Int → Int) : Int → Int :=
  if y.1 = 1 then zqSet S (80 * y.2.1 + 4 * y.2.2.1 + y.2.2.2.1) y.2.2.2.2
  else if y.1 = 2 then zqDrop S y.2.1 y.2.2.1
  else if y.1 = 3 then zqAdd S y.2.1 y.2.2.1 f else S
/-- a state as the walls have it: good values, lawful, well laid -/
def zqWo (A : zqA) (S : Int → Int) : Prop := zqGd S ∧ zqLf A S ∧ zqSt A S
theorem zqV_m {Q : Int → Int → Prop} {x : Int} {y : zqY} : ∀ {n : Nat}, y ∈ zqV Q x n → ∃ v : Int, 0 ≤ v ∧ v < n ∧ Q x v ∧ y = (1, x / 80, x / 4 % 20, x % 4, v)
  | 0, h => by cases h
  | v + 1, h => by
    have go : y ∈ zqV Q x v → ∃ u : Int, 0 ≤ u ∧ u < ((v + 1 : Nat) : Int) ∧ Q x u ∧ y = (1, x / 80, x / 4 % 20, x % 4, u) := fun hy => by
      obtain ⟨u, a, b, c, d⟩ := zqV_m hy
      exact ⟨u, a, by omega, c, d⟩
    rw [zqV] at h
    by_cases z : Q x (v : Int)
    · rw [zqIf_t z] at h
      rcases List.mem_cons.mp h with r | r
      · exact ⟨v, by omega, by omega, z, r⟩
      · exact go r
    · rw [zqIf_f z] at h
      exact go h
theorem zqV2_m {Q : Int → Int → Prop} {y : zqY} : ∀ {n : Nat}, y ∈ zqV2 Q n → ∃ x v : Int, 0 ≤ x ∧ x < n ∧ 0 ≤ v ∧ v < 20 ∧ Q x v ∧ y = (1, x / 80, x / 4 % 20, x % 4, v)
  | 0, h => by cases h
  | x + 1, h => by
    rw [zqV2] at h
    rcases List.mem_append.mp h with r | r
    · obtain ⟨v, a, b, c, d⟩ := zqV_m r
      exact ⟨x, v, by omega, by omega, a, by omega, c, d⟩
    · obtain ⟨u, v, a, b, c⟩ := zqV2_m r
      exact ⟨u, v, a, by omega, c⟩
theorem zqV3_m {Q : Int → Prop} {y : zqY} : ∀ {n : Nat}, y ∈ zqV3 Q n → ∃ r : Int, 0 ≤ r ∧ r < n ∧ Q r ∧ y = (2, r / 20, r % 20, -1, -1)
  | 0, h => by cases h
  | r + 1, h => by
    have go : y ∈ zqV3 Q r → ∃ u : Int, 0 ≤ u ∧ u < ((r + 1 : Nat) : Int) ∧ Q u ∧ y = (2, u / 20, u % 20, -1, -1) := fun hy => by
      obtain ⟨u, a, b, c, d⟩ := zqV3_m hy
      exact ⟨u, a, by omega, c, d⟩
    rw [zqV3] at h
    by_cases z : Q (r : Int)
    · rw [zqIf_t z] at h
      rcases List.mem_cons.mp h with q | q
      · exact ⟨r, by omega, by omega, z, q⟩
      · exact go q
    · rw [zqIf_f z] at h
      exact go h
theorem zqSt_set {A : zqA} {S : Int → Int} {w k c v : Int} (c1 : 1 ≤ c) (c3 : c ≤ 3) (k0 : 0 ≤ k) (k9 : k ≤ 19) (c4 : c < A.1 w) (hr : S (80 * w + 4 * k) ≠ -1) (v0 : 0 ≤ v) (v1 : v ≤ 19) (T : zqSt A S) : zqSt A (zqSet S (80 * w + 4 * k + c) v) := fun u q u0 u2 q0 q9 => by
  have key : zqSet S (80 * w + 4 * k + c) v (80 * u + 4 * q) = S (80 * u + 4 * q) := if_neg (by omega)
  have oth : ∀ x : Int, 0 ≤ x → x ≤ 3 → 80 * u + 4 * q + x ≠ 80 * w + 4 * k + c → zqSet S (80 * w + 4 * k + c) v (80 * u + 4 * q + x) = S (80 * u + 4 * q + x) := fun x _ _ h => if_neg h
  rcases T u q u0 u2 q0 q9 with ⟨t0, t1, t2, t3⟩ | ⟨t0, t1, t2⟩
  · have ne : ∀ x : Int, 1 ≤ x → x ≤ 3 → 80 * u + 4 * q + x ≠ 80 * w + 4 * k + c := fun x a b z => by
      have e : 80 * w + 4 * k = 80 * u + 4 * q := by omega
      rw [e] at hr
      exact hr t0
    exact Or.inl ⟨key.trans t0, (oth 1 (by omega) (by omega) (ne 1 (by omega) (by omega))).trans t1, (oth 2 (by omega) (by omega) (ne 2 (by omega) (by omega))).trans t2, (oth 3 (by omega) (by omega) (ne 3 (by omega) (by omega))).trans t3⟩
  · refine Or.inr ⟨key.trans t0, t1, fun x a b => ?_⟩
    by_cases z : 80 * u + 4 * q + x = 80 * w + 4 * k + c
    · have e1 : u = w := by omega
      rw [z, show zqSet S (80 * w + 4 * k + c) v (80 * w + 4 * k + c) = v from if_pos rfl]
      refine ⟨v0, v1, fun y => ?_⟩
      rw [e1] at y
      omega
    · rw [oth x (by omega) b z]; exact t2 x a b
/-- what any way makes of the walls is as walls are -/
theorem Put_ok {A : zqA} {S : Int → Int} {b m : Int} {P : List zqP} {W : List zqR} {f : Int → Int} {y : zqY} (o : zqWo A S) (b0 : 0 ≤ b) (b2 : b ≤ 2) (A4 : ∀ u : Int, 0 ≤ u → u ≤ 2 → A.1 u ≤ 4) (N2 : ∀ p : Int, 0 ≤ p → p ≤ 11 → -1 ≤ A.2.2.2.1 p ∧ A.2.2.2.1 p ≤ 2) (a1 : 1 ≤ A.1 b) (hf : ∀ c : Int, 0 ≤ c → c ≤ 3 → 0 ≤ f c ∧ f c ≤ 19) (fz : ∀ c : Int, A.1 b ≤ c → c ≤ 3 → f c = 0) (hy : y ∈ zqAl A S b m P W f) : zqWo A (zqPut S y f) ∧ (0 ≤ y.1 ∧ y.1 ≤ 3) ∧ (y.1 ≠ 0 → 0 ≤ y.2.1 ∧ y.2.1 ≤ 2 ∧ 0 ≤ y.2.2.1 ∧ y.2.2.1 ≤ 19) ∧ (y.1 = 1 → 1 ≤ y.2.2.2.1 ∧ y.2.2.2.1 ≤ 3 ∧ 0 ≤ y.2.2.2.2 ∧ y.2.2.2.2 ≤ 19) ∧ (y.1 = 2 → S (80 * y.2.1 + 4 * y.2.2.1) ≠ -1) ∧ (y.1 = 3 → y.2.1 = b ∧ y.2.2.1 = f 0 ∧ zqCn S b 20 < 10 ∧ S (80 * b + 4 * f 0) = -1) := by
  obtain ⟨gd, lf, st⟩ := o
  unfold zqAl at hy
  rcases List.mem_append.mp hy with hy | hy
  · by_cases q : zqQ3 A S b m P W f
    · rw [zqIf_t q] at hy
      rcases List.mem_cons.mp hy with e | e
      · subst e
        have g0 := hf 0 (by omega) (by omega)
        obtain ⟨q1, q2, q3, -⟩ := q
        have ep : zqPut S (3, b, f 0, -1, -1) f = zqAdd S b (f 0) f := by
          unfold zqPut
          rw [if_neg (show ¬ (3 : Int) = 1 by decide), if_neg (show ¬ (3 : Int) = 2 by decide), if_pos rfl]
        rw [ep]
        exact ⟨⟨zqGd_add g0.1 g0.2 gd q1 hf, q3, zqSt_add g0.1 g0.2 st a1 rfl hf fz⟩, ⟨(by show (0 : Int) ≤ 3; omega), (by show (3 : Int) ≤ 3; omega)⟩, fun _ => ⟨b0, b2, g0.1, g0.2⟩, fun z => absurd z (show ¬ (3 : Int) = 1 by decide), fun z => absurd z (show ¬ (3 : Int) = 2 by decide), fun _ => ⟨rfl, rfl, q1, q2⟩⟩
      · cases e
    · rw [zqIf_f q] at hy; cases hy
  · rcases List.mem_append.mp hy with hy | hy
    · obtain ⟨r, r0, r1, q, e⟩ := zqV3_m hy
      subst e
      obtain ⟨q1, q2, q3, -⟩ := q
      have ep : zqPut S (2, r / 20, r % 20, -1, -1) f = zqDrop S (r / 20) (r % 20) := by
        unfold zqPut
        rw [if_neg (show ¬ (2 : Int) = 1 by decide), if_pos rfl]
      rw [ep]
      exact ⟨⟨zqGd_drop (by omega) (by omega) gd, q3, zqSt_drop (by omega) (by omega) st⟩, ⟨(by show (0 : Int) ≤ 2; omega), (by show (2 : Int) ≤ 3; omega)⟩, fun _ => ⟨(by show 0 ≤ r / 20; omega), (by show r / 20 ≤ 2; omega), (by show 0 ≤ r % 20; omega), (by show r % 20 ≤ 19; omega)⟩, fun z => absurd z (show ¬ (2 : Int) = 1 by decide), fun _ => q2.2.2, fun z => absurd z (show ¬ (2 : Int) = 3 by decide)⟩
    · rcases List.mem_append.mp hy with hy | hy
      · obtain ⟨x, v, x0, x1, v0, v1, q, e⟩ := zqV2_m hy
        subst e
        obtain ⟨⟨q1, q2, q3, q4⟩, q5, q6, -⟩ := q
        have ep : zqPut S (1, x / 80, x / 4 % 20, x % 4, v) f = zqSet S (80 * (x / 80) + 4 * (x / 4 % 20) + x % 4) v := by
          unfold zqPut
          rw [if_pos rfl]
        rw [ep]
        have l := (zqLf_set lf (w := x / 80) (k := x / 4 % 20) (c := x % 4) (v := v) (by omega) (by omega) (by omega) (by omega) (by omega) (by omega) q2 A4 (fun p a b => ⟨(N2 p a b).2, (N2 p a b).1⟩) q4.2.2).mpr q6
        refine ⟨⟨?_, l, zqSt_set (by omega) (by omega) (by omega) (by omega) q2 q4.2.2 v0 (by omega) st⟩, ⟨(by show (0 : Int) ≤ 1; omega), (by show (1 : Int) ≤ 3; omega)⟩, fun _ => ⟨(by show 0 ≤ x / 80; omega), (by show x / 80 ≤ 2; omega), (by show 0 ≤ x / 4 % 20; omega), (by show x / 4 % 20 ≤ 19; omega)⟩, fun _ => ⟨(by show 1 ≤ x % 4; omega), (by show x % 4 ≤ 3; omega), v0, (by show v ≤ 19; omega)⟩, fun z => absurd z (show ¬ (1 : Int) = 2 by decide), fun z => absurd z (show ¬ (1 : Int) = 3 by decide)⟩
        have me : zqSet S (80 * (x / 80) + 4 * (x / 4 % 20) + x % 4) v (80 * (x / 80) + 4 * (x / 4 % 20) + x % 4) = v := if_pos rfl
        exact zqGd_off (x := 80 * (x / 80) + 4 * (x / 4 % 20) + x % 4) (by omega) (fun j hj => if_neg hj) (by omega) (by omega) gd
      · by_cases q : (zqRun S m ((zqLd S b m 20).map Prod.snd) P).Perm W
        · rw [zqIf_t q] at hy
          rcases List.mem_cons.mp hy with e | e
          · subst e
            have ep : zqPut S (0, -1, -1, -1, -1) f = S := by
              unfold zqPut
              rw [if_neg (show ¬ (0 : Int) = 1 by decide), if_neg (show ¬ (0 : Int) = 2 by decide), if_neg (show ¬ (0 : Int) = 3 by decide)]
            rw [ep]
            exact ⟨⟨gd, lf, st⟩, ⟨(by show (0 : Int) ≤ 0; omega), (by show (0 : Int) ≤ 3; omega)⟩, fun z => absurd rfl z, fun z => absurd z (show ¬ (0 : Int) = 1 by decide), fun z => absurd z (show ¬ (0 : Int) = 2 by decide), fun z => absurd z (show ¬ (0 : Int) = 3 by decide)⟩
          · cases e
        · rw [zqIf_f q] at hy; cases hy
/-- another list of the same wanted rows -/
theorem zqAl_W {A : zqA} {S : Int → Int} {b m : Int} {P : List zqP} {W W' : List zqR} {f : Int → Int} (e : W.Perm W') : zqAl A S b m P W f = zqAl A S b m P W' f := by
  have q : ∀ L : List zqR, L.Perm W ↔ L.Perm W' := fun L => ⟨fun z => z.trans e, fun z => z.trans e.symm⟩
  have e3 : zqQ3 A S b m P W f ↔ zqQ3 A S b m P W' f := by unfold zqQ3; rw [q]
  unfold zqAl
  rw [zqIf_cg e3, zqV3_cg 60 (fun r _ _ => by unfold zqQ2; rw [q]), zqV2_cg 240 (fun x v _ _ _ _ => by unfold zqQ1; rw [q]), zqIf_cg (q _)]
  rfl
/-- what is wanted, of a state and panes -/
def WntL (S : Int → Int) (b m : Int) (P : List zqP) (e i j v : Int) (D : Int → Int) (W : List zqR) : Prop := ∃ (f : Nat → zqR) (n : Nat), zqS zqle f n ∧ (zqL f n).Perm (zqRun S m ((zqLd S b m 20).map Prod.snd) P) ∧ W.Perm (EdL f n (zqW m P) e i j v D)
theorem WntL_u {S : Int → Int} {b m : Int} {P : List zqP} {e i j v : Int} {D : Int → Int} {W W' : List zqR} (p : WntL S b m P e i j v D W) (q : WntL S b m P e i j v D W') : W.Perm W' := by
  obtain ⟨f, n, f1, f2, f3⟩ := p
  obtain ⟨g, k, g1, g2, g3⟩ := q
  have r := f2.trans g2.symm
  have l := r.length_eq
  rw [zqL_len, zqL_len] at l
  subst l
  rw [EdL_cg (zqS_uniq zqle_as f1 g1 r)] at f3
  exact f3.trans g3.symm
theorem zqCn_dl {S S' : Int → Int} {w k : Int} (k0 : 0 ≤ k) (h1 : S (80 * w + 4 * k) ≠ -1) (h2 : S' (80 * w + 4 * k) = -1) : ∀ n : Nat, (∀ q : Int, 0 ≤ q → q < n → q ≠ k → (S' (80 * w + 4 * q) = -1 ↔ S (80 * w + 4 * q) = -1)) → zqCn S' w n = zqCn S w n - (if k < n then 1 else 0)
  | 0, _ => by rw [zqCn, zqCn, if_neg (by omega)]; rfl
  | n + 1, h => by
    by_cases e : (n : Int) = k
    · have q := zqCn_cg (S := S) (S' := S') (w := w) n (fun q a b => h q a (by omega) (by omega))
      rw [zqCn, zqCn, e, if_pos h2, if_neg h1, if_pos (by omega), q]
      omega
    · have ih := zqCn_dl k0 h1 h2 n (fun q a b => h q a (by omega))
      have hn := h n (by omega) (by omega) e
      have i2 : (if k < ((n + 1 : Nat) : Int) then (1 : Int) else 0) = if k < (n : Int) then 1 else 0 := by
        by_cases z : k < (n : Int)
        · rw [if_pos z, if_pos (by omega)]
        · rw [if_neg z, if_neg (by omega)]
      rw [zqCn, zqCn, ih, i2]
      by_cases q : S (80 * w + 4 * (n : Int)) = -1
      · rw [if_pos q, if_pos (hn.mpr q)]
      · rw [if_neg q, if_neg (fun z => q (hn.mp z))]; omega
theorem zqCn_drop {S : Int → Int} {w k u : Int} (k0 : 0 ≤ k) (k9 : k ≤ 19) (h : S (80 * w + 4 * k) ≠ -1) : zqCn (zqDrop S w k) u 20 = if u = w then zqCn S u 20 - 1 else zqCn S u 20 := by
  by_cases z : u = w
  · rw [if_pos z, z]
    have q := zqCn_dl (S := S) (S' := zqDrop S w k) (w := w) (k := k) k0 h (by rw [zqDrop_k k0 k9 k0 k9, if_pos ⟨rfl, rfl⟩]) 20 (fun q a b c => by rw [zqDrop_k k0 k9 a (by omega), if_neg (fun y => c y.2)])
    rw [q, if_pos (by omega)]
  · rw [if_neg z]
    exact zqCn_cg 20 (fun q a b => by rw [zqDrop_k k0 k9 a (by omega), if_neg (fun y => z y.1)])
theorem zqCn_add {S : Int → Int} {w k u : Int} {f : Int → Int} (k0 : 0 ≤ k) (k9 : k ≤ 19) (h : S (80 * w + 4 * k) = -1) (hf : f 0 ≠ -1) : zqCn (zqAdd S w k f) u 20 = if u = w then zqCn S u 20 + 1 else zqCn S u 20 := by
  by_cases z : u = w
  · rw [if_pos z, z]
    have q := zqCn_dl (S := zqAdd S w k f) (S' := S) (w := w) (k := k) k0 (by rw [zqAdd_k k0 k9 k0 k9, if_pos ⟨rfl, rfl⟩]; exact hf) h 20 (fun q a b c => by rw [zqAdd_k k0 k9 a (by omega), if_neg (fun y => c y.2)])
    rw [if_pos (by omega)] at q
    omega
  · rw [if_neg z]
    exact zqCn_cg 20 (fun q a b => by rw [zqAdd_k k0 k9 a (by omega), if_neg (fun y => z y.1)])
theorem zqCn_set {S : Int → Int} {w k c v u : Int} (c1 : 1 ≤ c) (c3 : c ≤ 3) : zqCn (zqSet S (80 * w + 4 * k + c) v) u 20 = zqCn S u 20 := zqCn_cg 20 (fun q _ _ => by
  rw [show zqSet S (80 * w + 4 * k + c) v (80 * u + 4 * q) = S (80 * u + 4 * q) from if_neg (by omega)])
end ZSQ
