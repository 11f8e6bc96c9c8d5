/-! calls that change laws, drafts, marks or windows: both change them alike -/
section ZWG
theorem bg26 {T : List (Nat × Int)} {h g : my_H} (f : my_fr T h g) (hT : ((List.range 20).map (fun k => k + 7)).all (fun k => T.all (fun q => !(my_ot k == q.1))) = true) : ∀ k j : Int, 7 ≤ k → k ≤ 26 → g k j = h k j := fun k j k0 k1 => by
  refine f k j ?_
  unfold my_md
  refine List.any_eq_false.mpr (fun q hq => ?_)
  have mem : k.toNat ∈ (List.range 20).map (fun k => k + 7) := List.mem_map.mpr ⟨k.toNat - 7, List.mem_range.mpr (by omega), by omega⟩
  have := List.all_eq_true.mp (List.all_eq_true.mp hT k.toNat mem) q hq
  simp only [Bool.not_eq_true', Bool.and_eq_true, not_and, beq_eq_false_iff_ne, beq_iff_eq] at this ⊢
  intro z
  exact absurd z this
abbrev SdF : List (Nat × Int) := [(22, -1), (4, -1), (32, -1), (33, -1), (34, -1), (35, -1), (36, -1), (37, -1), (38, -1), (25, -1), (26, -1), (27, -1), (28, -1), (29, -1), (56, -1), (57, -1), (58, -1), (59, -1), (60, -1), (63, -1), (64, -1), (65, -1), (66, -1), (67, -1), (68, -1), (69, -1), (70, -1), (71, -1), (72, -1), (101, -1)]
/-- both draft alike -/
theorem Sim_d {h g : my_H} (n : Ln h) (to : ToE h) (a : my_ag SdF h g) (e : ∀ k j : Int, 7 ≤ k → k ≤ 26 → g k j = h k j) (o : Ot9 h g) (d : SiD g) (p : Sim h) : Sim g := by
  obtain ⟨p1, p2, p3, p4, p5⟩ := p
  exact ⟨SiW_cg n to (a.mo rfl) (a.mo rfl) p1, SiO_cg (a.mo rfl) (fun k j x y => e k j x (by omega)) o p2, SiL_cg (a.mo rfl) (a.mo rfl) p3, d, SiM_cg (a.mo rfl) (fun k j x y => e k j (by omega) y) (fun j => a.at qis_202 rfl) (fun s x y => o.ms (by omega) (by omega)) p5⟩
theorem SiD_u {h g : my_H} {x v : Int} (p : SiD h) (e1 : ∀ j : Int, g 93 j = zyU (h 93) x v j) (e2 : ∀ j : Int, g 188 j = zyU (h 188) x v j) : SiD g := fun j a b => by
  rw [e1, e2]
  unfold zyU
  by_cases q : j = x
  · rw [if_pos q, if_pos q]
  · rw [if_neg q, if_neg q]; exact p j a b
/-- laws change, but for columns -/
abbrev SlF : List (Nat × Int) := [(22, -1), (4, -1), (32, -1), (33, -1), (34, -1), (35, -1), (36, -1), (37, -1), (38, -1), (23, -1), (25, -1), (56, -1), (63, -1), (64, -1), (65, -1), (66, -1), (67, -1), (68, -1), (69, -1), (70, -1), (71, -1), (72, -1), (87, -1), (101, -1)]
theorem zqSt_1 {A B : zqA} {S : Int → Int} (e : A.1 = B.1) (p : zqSt A S) : zqSt B S := fun w k a b c d => by
  rw [← e]
  exact p w k a b c d
theorem Sim_l {h g : my_H} (n : Ln h) (to : ToE h) (a : my_ag SlF h g) (e : ∀ k j : Int, 7 ≤ k → k ≤ 26 → g k j = h k j) (o : Ot9 h g) (lf : zqLf (zqCA g) (h 8)) (ld : zqLD (zqCA g)) (n5 : ∀ q : Int, 0 ≤ q → q ≤ 11 → -1 ≤ g 5 q ∧ g 5 q ≤ 2) (l : SiL g) (p : Sim h) : Sim g := by
  obtain ⟨p1, ⟨⟨⟨wg, -, ws⟩, -, c4, -, sz⟩, ag⟩, -, p4, p5⟩ := p
  have e2 : g 2 = h 2 := funext fun j => a.at pis_2 rfl
  have eA : (zqCA h).1 = (zqCA g).1 := e2.symm
  have e8 : g 8 = h 8 := funext fun j => e 8 j (by omega) (by omega)
  have e9 : ∀ u : Int, g 9 u = h 9 u := fun u => e 9 u (by omega) (by omega)
  refine ⟨SiW_cg n to (a.mo rfl) (a.mo rfl) p1, ⟨⟨⟨?_, ?_, ?_⟩, ld, fun u x y => by rw [e2]; exact c4 u x y, n5, fun u x y => ?_⟩, ?_⟩, l, SiD_cg (a.mo rfl) p4, fun m m0 m3 => ?_⟩
  · show zqGd (g 8)
    rw [e8]; exact wg
  · show zqLf (zqCA g) (g 8)
    rw [e8]; exact lf
  · show zqSt (zqCA g) (g 8)
    rw [e8]; exact zqSt_1 eA ws
  · show g 9 u = zqCn (g 8) u 20
    rw [e8, e9]; exact sz u x y
  · rw [e8]; exact zqAg_t ag (o.ms (by omega) (by omega))
  · obtain ⟨q1, q2, q3⟩ := p5 m m0 m3
    rw [e 13 m (by omega) (by omega), e 26 m (by omega) (by omega), show g 202 m = h 202 m from a.at qis_202 rfl]
    refine ⟨q1, q2, fun t => ?_⟩
    obtain ⟨⟨k1, k2, k3⟩, k4⟩ := q3 t
    have f1 : g (14 + 3 * m + 1) = h (14 + 3 * m + 1) := funext fun j => e _ j (by omega) (by omega)
    refine ⟨⟨by rw [f1]; exact k1, by rw [f1]; exact zqSt_1 eA k2, fun u x y => by rw [f1, e (14 + 3 * m + 2) u (by omega) (by omega)]; exact k3 u x y⟩, ?_⟩
    rw [show g (15 + 3 * m) = h (15 + 3 * m) from funext fun j => e _ j (by omega) (by omega)]
    exact zqAg_t k4 (o.ms (by omega) (by omega))
/-- a law of a column changes: other columns' laws are as they were -/
theorem zqLD_u {A B : zqA} {w c : Int} (p : zqLD A) (w0 : 0 ≤ w) (w2 : w ≤ 2) (c0 : 0 ≤ c) (c1 : c < A.1 w) (c3 : c ≤ 3) (e : B.1 = A.1) (e2 : ∀ j : Int, j ≠ 4 * w + c → B.2.1 j = A.2.1 j ∧ B.2.2.1 j = A.2.2.1 j ∧ B.2.2.2.1 j = A.2.2.2.1 j ∧ B.2.2.2.2 j = A.2.2.2.2 j) : zqLD B := fun u x u0 u2 x0 x3 q => by
  rw [e] at q
  have ne : 4 * u + x ≠ 4 * w + c := fun z => by
    have e1 : u = w := by omega
    have e3 : x = c := by omega
    subst e1 e3
    omega
  obtain ⟨r1, r2, r3, r4⟩ := e2 _ ne
  rw [r1, r2, r3, r4]
  exact p u x u0 u2 x0 x3 q
theorem zyU_n {f : Int → Int} {j v k : Int} (q : k ≠ j) : zyU f j v k = f k := if_neg q
theorem zyU_y {f : Int → Int} {j v : Int} : zyU f j v j = v := if_pos rfl
theorem qis_162 : my_is 61 162 := by unfold my_is; decide +kernel
theorem qis_163 : my_is 62 163 := by unfold my_is; decide +kernel
theorem qis_26 : my_is 21 26 := by unfold my_is; decide +kernel
/-- laws stay -/
theorem Sim_l0 {h g : my_H} (n : Ln h) (to : ToE h) (a : my_ag SlF h g) (e : ∀ k j : Int, 7 ≤ k → k ≤ 26 → g k j = h k j) (o : Ot9 h g) (c3 : ∀ j : Int, g 3 j = h 3 j) (c4 : ∀ j : Int, g 4 j = h 4 j) (c5 : ∀ j : Int, g 5 j = h 5 j) (c6 : ∀ j : Int, g 6 j = h 6 j) (m8 : ∀ j : Int, g 158 j = h 158 j) (m9 : ∀ j : Int, g 159 j = h 159 j) (m0 : ∀ j : Int, g 160 j = h 160 j) (m1 : ∀ j : Int, g 161 j = h 161 j) (p : Sim h) : Sim g := by
  have p' := p
  obtain ⟨p1, ⟨⟨⟨wg, wl, ws⟩, ld, k4, n5, sz⟩, ag⟩, l, p4, p5⟩ := p'
  have eA : zqCA g = zqCA h := zqCA_e (fun j => a.at pis_2 rfl) c3 c4 c5 c6
  have eM : zqMA g = zqMA h := by
    unfold zqMA
    rw [show g 157 = h 157 from funext fun j => a.at mis_157 rfl, show g 158 = h 158 from funext m8, show g 159 = h 159 from funext m9, show g 160 = h 160 from funext m0, show g 161 = h 161 from funext m1]
  exact Sim_l n to a e o (by rw [eA]; exact wl) (by rw [eA]; exact ld) (fun q x y => by rw [c5]; exact n5 q x y) (by unfold SiL; rw [eA, eM]; exact l) p
/-- both change a span -/
theorem Sim_span {h hc g : my_H} {x c f t : Int} (n : Ln h) (to : ToE h) (f1 : my_fr [(26, -1), (27, -1)] h hc) (f2 : my_fr [(10, 0), (57, -1), (58, -1)] hc g) (k : zySp (zqCA h) x c f t ∧ qOut (h 8) x c f t 20 ≤ 0) (e3 : hc 3 = zyU (h 3) (4 * x + c) f ∧ hc 4 = zyU (h 4) (4 * x + c) t) (e8 : g 158 = zyU (hc 158) (4 * x + c) f ∧ g 159 = zyU (hc 159) (4 * x + c) t) (p : Sim h) : Sim g := by
  have p' := p
  obtain ⟨p1, ⟨⟨⟨wg, wl, ws⟩, ld, k4, n5, sz⟩, ag⟩, l, p4, p5⟩ := p'
  have a : my_ag SlF h g := (my_ag.fr f1 rfl).tr (my_ag.fr f2 rfl)
  have E2 : g 2 = h 2 := funext fun j => a.at pis_2 rfl
  have E3 : g 3 = zyU (h 3) (4 * x + c) f := (funext fun j => my_fr.at f2 pis_3 rfl).trans e3.1
  have E4 : g 4 = zyU (h 4) (4 * x + c) t := (funext fun j => my_fr.at f2 pis_4 rfl).trans e3.2
  have E5 : g 5 = h 5 := funext fun j => (my_fr.at f2 pis_5 rfl).trans (my_fr.at f1 pis_5 rfl)
  have E6 : g 6 = h 6 := funext fun j => (my_fr.at f2 pis_6 rfl).trans (my_fr.at f1 pis_6 rfl)
  have M8 : g 158 = zyU (h 158) (4 * x + c) f := by rw [e8.1, show hc 158 = h 158 from funext fun j => my_fr.at f1 pis_158 rfl]
  have M9 : g 159 = zyU (h 159) (4 * x + c) t := by rw [e8.2, show hc 159 = h 159 from funext fun j => my_fr.at f1 pis_159 rfl]
  have M0 : g 160 = h 160 := funext fun j => (my_fr.at f2 pis_160 rfl).trans (my_fr.at f1 pis_160 rfl)
  have M1 : g 161 = h 161 := funext fun j => (my_fr.at f2 pis_161 rfl).trans (my_fr.at f1 pis_161 rfl)
  have M7 : g 157 = h 157 := funext fun j => a.at mis_157 rfl
  obtain ⟨⟨⟨⟨x0, x2⟩, c0, c1⟩, ⟨g0, g9⟩, g1, t9⟩, out⟩ := k
  have c1' : c < h 2 x := c1
  have c3 : c ≤ 3 := by have := (k4 x x0 x2).2; omega
  have inside : ∀ q : Int, 0 ≤ q → q ≤ 19 → h 8 (80 * x + 4 * q) ≠ -1 → f ≤ h 8 (80 * x + 4 * q + c) ∧ h 8 (80 * x + 4 * q + c) ≤ t := fun q q0 q9 hr => by
    have z : ¬ 0 < qOut (h 8) x c f t 20 := by omega
    rw [qOut_sp] at z
    constructor
    · refine Int.not_lt.mp (fun y => z ⟨q, q0, by omega, hr, Or.inl y⟩)
    · refine Int.not_lt.mp (fun y => z ⟨q, q0, by omega, hr, Or.inr y⟩)
  have idx : ∀ w d : Int, 0 ≤ w → w ≤ 2 → 0 ≤ d → d < h 2 w → 4 * w + d = 4 * x + c → w = x ∧ d = c := fun w d w0 w2 d0 d1 q => by
    have := (k4 w w0 w2).2
    omega
  refine Sim_l n to a (fun k j y z => (bg26 f2 (by decide +kernel) k j y z).trans (bg26 f1 (by decide +kernel) k j y z)) ((Ot9_e (fun j => my_fr.at f1 qis_162 rfl) (fun j => my_fr.at f1 qis_163 rfl)).tr (Ot9_e (fun j => my_fr.at f2 qis_162 rfl) (fun j => my_fr.at f2 qis_163 rfl))) ?_ ?_ (fun q y z => by rw [E5]; exact n5 q y z) ?_ p
  · intro w q d w0 w2 q0 q9 d0 d1 hr
    have d1' : d < h 2 w := by rw [← E2]; exact d1
    obtain ⟨r1, r2, r3, r4⟩ := wl w q d w0 w2 q0 q9 d0 d1' hr
    refine ⟨?_, ?_, ?_, ?_⟩
    · show g 3 (4 * w + d) ≤ _
      rw [E3]
      by_cases z : 4 * w + d = 4 * x + c
      · obtain ⟨z1, z2⟩ := idx w d w0 w2 d0 d1' z
        subst z1 z2
        rw [zyU_y]
        exact (inside q q0 q9 hr).1
      · rw [zyU_n z]; exact r1
    · show _ ≤ g 4 (4 * w + d)
      rw [E4]
      by_cases z : 4 * w + d = 4 * x + c
      · obtain ⟨z1, z2⟩ := idx w d w0 w2 d0 d1' z
        subst z1 z2
        rw [zyU_y]
        exact (inside q q0 q9 hr).2
      · rw [zyU_n z]; exact r2
    · show g 5 (4 * w + d) ≠ -1 → zqHas (h 8) (g 5 (4 * w + d)) _
      rw [E5]; exact r3
    · show g 6 (4 * w + d) = 1 → _
      rw [E6]; exact r4
  · refine zqLD_u ld x0 x2 c0 c1 c3 E2 (fun j ne => ⟨?_, ?_, ?_, ?_⟩)
    · show g 3 j = h 3 j
      rw [E3, zyU_n ne]
    · show g 4 j = h 4 j
      rw [E4, zyU_n ne]
    · show g 5 j = h 5 j
      rw [E5]
    · show g 6 j = h 6 j
      rw [E6]
  · obtain ⟨l1, l2⟩ := l
    refine ⟨fun w w0 w2 => ?_, fun q q0 q9 => ?_⟩
    · show g 2 w = g 157 w
      rw [E2, M7]; exact l1 w w0 w2
    · show g 3 q = g 158 q ∧ g 4 q = g 159 q ∧ g 5 q = g 160 q ∧ g 6 q = g 161 q
      obtain ⟨y1, y2, y3, y4⟩ := l2 q q0 q9
      rw [E3, E4, E5, E6, M8, M9, M0, M1]
      by_cases z : q = 4 * x + c
      · subst z
        rw [zyU_y, zyU_y, zyU_y, zyU_y]
        exact ⟨rfl, rfl, y3, y4⟩
      · rw [zyU_n z, zyU_n z, zyU_n z, zyU_n z]
        exact ⟨y1, y2, y3, y4⟩
/-- both name alike -/
theorem Sim_names {h hc g : my_H} {x c v : Int} (n : Ln h) (to : ToE h) (f1 : my_fr [(28, -1)] h hc) (f2 : my_fr [(10, 0), (59, -1)] hc g) (k : zyNm (zqCA h) x c v ∧ zqLf (zyN (zqCA h) x c v) (h 8)) (e5 : hc 5 = zyU (h 5) (4 * x + c) v) (e0 : g 160 = zyU (hc 160) (4 * x + c) v) (p : Sim h) : Sim g := by
  have p' := p
  obtain ⟨p1, ⟨⟨⟨wg, wl, ws⟩, ld, k4, n5, sz⟩, ag⟩, l, p4, p5⟩ := p'
  have a : my_ag SlF h g := (my_ag.fr f1 rfl).tr (my_ag.fr f2 rfl)
  have E5 : g 5 = zyU (h 5) (4 * x + c) v := (funext fun j => my_fr.at f2 pis_5 rfl).trans e5
  have M0 : g 160 = zyU (h 160) (4 * x + c) v := by rw [e0, show hc 160 = h 160 from funext fun j => my_fr.at f1 pis_160 rfl]
  have eA : zqCA g = zyN (zqCA h) x c v := by
    unfold zqCA zyN
    rw [show g 2 = h 2 from funext fun j => a.at pis_2 rfl, show g 3 = h 3 from funext fun j => (my_fr.at f2 pis_3 rfl).trans (my_fr.at f1 pis_3 rfl), show g 4 = h 4 from funext fun j => (my_fr.at f2 pis_4 rfl).trans (my_fr.at f1 pis_4 rfl), E5, show g 6 = h 6 from funext fun j => (my_fr.at f2 pis_6 rfl).trans (my_fr.at f1 pis_6 rfl)]
  have eM : zqMA g = zyN (zqMA h) x c v := by
    unfold zqMA zyN
    rw [show g 157 = h 157 from funext fun j => a.at mis_157 rfl, show g 158 = h 158 from funext fun j => (my_fr.at f2 pis_158 rfl).trans (my_fr.at f1 pis_158 rfl), show g 159 = h 159 from funext fun j => (my_fr.at f2 pis_159 rfl).trans (my_fr.at f1 pis_159 rfl), M0, show g 161 = h 161 from funext fun j => (my_fr.at f2 pis_161 rfl).trans (my_fr.at f1 pis_161 rfl)]
  obtain ⟨⟨⟨⟨x0, x2⟩, c0, c1⟩, cn, ov⟩, lf⟩ := k
  have c3 : c ≤ 3 := by have := (k4 x x0 x2).2; have c1' : c < h 2 x := c1; omega
  refine Sim_l n to a (fun k j y z => (bg26 f2 (by decide +kernel) k j y z).trans (bg26 f1 (by decide +kernel) k j y z)) ((Ot9_e (fun j => my_fr.at f1 qis_162 rfl) (fun j => my_fr.at f1 qis_163 rfl)).tr (Ot9_e (fun j => my_fr.at f2 qis_162 rfl) (fun j => my_fr.at f2 qis_163 rfl))) (by rw [eA]; exact lf) (by rw [eA]; exact zqLD_u ld x0 x2 c0 c1 c3 rfl (fun j ne => ⟨rfl, rfl, zyU_n ne, rfl⟩)) (fun q y z => ?_) (by unfold SiL; rw [eA, eM]; exact LEq_N l) p
  rw [E5]
  by_cases w : q = 4 * x + c
  · subst w
    rw [zyU_y]
    omega
  · rw [zyU_n w]; exact n5 q y z
/-- both say alike whether a value stands once -/
theorem Sim_once {h hc g : my_H} {x c v : Int} (n : Ln h) (to : ToE h) (f1 : my_fr [(29, -1)] h hc) (f2 : my_fr [(10, 0), (60, -1)] hc g) (k : zyOn (zqCA h) x c ∧ zqLf (zyO (zqCA h) x c v) (h 8)) (e6 : hc 6 = zyU (h 6) (4 * x + c) v) (e1 : g 161 = zyU (hc 161) (4 * x + c) v) (p : Sim h) : Sim g := by
  have p' := p
  obtain ⟨p1, ⟨⟨⟨wg, wl, ws⟩, ld, k4, n5, sz⟩, ag⟩, l, p4, p5⟩ := p'
  have a : my_ag SlF h g := (my_ag.fr f1 rfl).tr (my_ag.fr f2 rfl)
  have E6 : g 6 = zyU (h 6) (4 * x + c) v := (funext fun j => my_fr.at f2 pis_6 rfl).trans e6
  have M1 : g 161 = zyU (h 161) (4 * x + c) v := by rw [e1, show hc 161 = h 161 from funext fun j => my_fr.at f1 pis_161 rfl]
  have E5 : g 5 = h 5 := funext fun j => (my_fr.at f2 pis_5 rfl).trans (my_fr.at f1 pis_5 rfl)
  have eA : zqCA g = zyO (zqCA h) x c v := by
    unfold zqCA zyO
    rw [show g 2 = h 2 from funext fun j => a.at pis_2 rfl, show g 3 = h 3 from funext fun j => (my_fr.at f2 pis_3 rfl).trans (my_fr.at f1 pis_3 rfl), show g 4 = h 4 from funext fun j => (my_fr.at f2 pis_4 rfl).trans (my_fr.at f1 pis_4 rfl), E5, E6]
  have eM : zqMA g = zyO (zqMA h) x c v := by
    unfold zqMA zyO
    rw [show g 157 = h 157 from funext fun j => a.at mis_157 rfl, show g 158 = h 158 from funext fun j => (my_fr.at f2 pis_158 rfl).trans (my_fr.at f1 pis_158 rfl), show g 159 = h 159 from funext fun j => (my_fr.at f2 pis_159 rfl).trans (my_fr.at f1 pis_159 rfl), show g 160 = h 160 from funext fun j => (my_fr.at f2 pis_160 rfl).trans (my_fr.at f1 pis_160 rfl), M1]
  obtain ⟨⟨⟨⟨x0, x2⟩, c0, c1⟩, cn⟩, lf⟩ := k
  have c3 : c ≤ 3 := by have := (k4 x x0 x2).2; have c1' : c < h 2 x := c1; omega
  exact Sim_l n to a (fun k j y z => (bg26 f2 (by decide +kernel) k j y z).trans (bg26 f1 (by decide +kernel) k j y z)) ((Ot9_e (fun j => my_fr.at f1 qis_162 rfl) (fun j => my_fr.at f1 qis_163 rfl)).tr (Ot9_e (fun j => my_fr.at f2 qis_162 rfl) (fun j => my_fr.at f2 qis_163 rfl))) (by rw [eA]; exact lf) (by rw [eA]; exact zqLD_u ld x0 x2 c0 c1 c3 rfl (fun j ne => ⟨rfl, rfl, rfl, zyU_n ne⟩)) (fun q y z => by rw [E5]; exact n5 q y z) (by unfold SiL; rw [eA, eM]; exact LEq_O l) p
end ZWG
section ZWH
/-- the walls are kept as a mark -/
theorem Sim_mark0 {h hc g : my_H} {x : Int} (n : Ln h) (to : ToE h) (f1 : my_fr [(21, -1), (30, -1), (31, -1)] h hc) (f2 : my_fr [(10, 0), (61, -1), (62, -1), (101, -1)] hc g) (x0 : 0 ≤ x) (x3 : x ≤ 3) (k : zqAg (h 8) (hc (15 + 3 * x)) ∧ (∀ u : Int, 0 ≤ u → u ≤ 2 → hc (16 + 3 * x) u = h 9 u) ∧ hc 26 = zyU (h 26) x 1 ∧ ∀ k j : Int, 0 ≤ k → k < 94 → k ≠ 15 + 3 * x → k ≠ 16 + 3 * x → k ≠ 26 → hc k j = h k j) (m : zqAg (zqMS hc 0) (zqMS g (1 + x)) ∧ OtT hc g (1 + x) 5 5) (e2 : g 202 = zyU (hc 202) x 1) (p : Sim h) : Sim g := by
  obtain ⟨p1, ⟨⟨⟨wg, wl, ws⟩, ld, k4, n5, sz⟩, ag⟩, l, p4, p5⟩ := p
  obtain ⟨a1, a2, a3, a4⟩ := k
  obtain ⟨m1, m2⟩ := m
  have ac : my_ag SlC h g := (my_ag.fr f1 rfl).tr (my_ag.fr f2 rfl)
  have b : ∀ k j : Int, 7 ≤ k → k ≤ 26 → g k j = hc k j := bg26 f2 (by decide +kernel)
  have o1 : Ot9 h hc := Ot9_e (fun j => my_fr.at f1 qis_162 rfl) (fun j => my_fr.at f1 qis_163 rfl)
  have rows : ∀ k j : Int, 7 ≤ k → k ≤ 9 → g k j = h k j := fun k j y z => (b k j y (by omega)).trans (a4 k j (by omega) (by omega) (by omega) (by omega) (by omega))
  have e02 : ∀ j : Int, hc 202 j = h 202 j := fun j => my_fr.at f1 qis_202 rfl
  refine ⟨SiW_cg n to ((my_ag.fr f1 rfl).tr (my_ag.fr f2 rfl)) ((my_ag.fr f1 rfl).tr (my_ag.fr f2 rfl)) p1, ⟨WOk_c ac ⟨⟨wg, wl, ws⟩, ld, k4, n5, sz⟩ (fun j => rows _ j (by omega) (by omega)) (fun j => rows _ j (by omega) (by omega)), fun j y z => ?_⟩, SiL_cg ac ((my_ag.fr f1 rfl).tr (my_ag.fr f2 rfl)) l, SiD_cg ((my_ag.fr f1 rfl).tr (my_ag.fr f2 rfl)) p4, fun q q0 q3 => ?_⟩
  · rw [OtT_ms m2 (by omega) (by omega) (by omega) (by omega) j y z, o1.ms (s := 0) (by omega) (by omega) j y z, rows 8 j (by omega) (by omega)]
    exact ag j y z
  · obtain ⟨z1, z2, z3⟩ := p5 q q0 q3
    rw [b 13 q (by omega) (by omega), a4 13 q (by omega) (by omega) (by omega) (by omega) (by omega), b 26 q (by omega) (by omega), a3, e2]
    by_cases e : q = x
    · subst e
      rw [zyU_y, zyU_y]
      refine ⟨z1, rfl, fun _ => ?_⟩
      have g15 : zqAg (h 8) (g (15 + 3 * q)) := fun j y z => (b (15 + 3 * q) j (by omega) (by omega)).trans (a1 j y z)
      have g15' : zqAg (h 8) (g (14 + 3 * q + 1)) := by rw [show (14 + 3 * q + 1 : Int) = 15 + 3 * q by omega]; exact g15
      refine ⟨⟨zqGd_c g15' wg, by rw [CA_c ac]; exact zqSt_c g15' ws, fun u u0 u2 => ?_⟩, fun j y z => ?_⟩
      · rw [show (14 + 3 * q + 2 : Int) = 16 + 3 * q by omega, b (16 + 3 * q) u (by omega) (by omega), a2 u u0 u2, zqCn_c g15' u0 u2]
        exact sz u u0 u2
      · rw [m1 j y z, o1.ms (s := 0) (by omega) (by omega) j y z, g15 j y z]
        exact ag j y z
    · rw [zyU_n e, zyU_n e, e02]
      refine ⟨z1, z2, fun t => ?_⟩
      obtain ⟨y1, y2⟩ := z3 t
      have r : ∀ k j : Int, 14 ≤ k → k ≤ 25 → k ≠ 15 + 3 * x → k ≠ 16 + 3 * x → g k j = h k j := fun k j u v w1 w2 => (b k j (by omega) (by omega)).trans (a4 k j (by omega) (by omega) w1 w2 (by omega))
      refine ⟨mkW_c ac (fun j => r _ j (by omega) (by omega) (by omega) (by omega)) (fun j => r _ j (by omega) (by omega) (by omega) (by omega)) y1, fun j y z => ?_⟩
      rw [OtT_ms m2 (by omega) (by omega) (by omega) (by omega) j y z, o1.ms (s := 1 + q) (by omega) (by omega) j y z, r (15 + 3 * q) j (by omega) (by omega) (by omega) (by omega)]
      exact y2 j y z
/-- back to a mark -/
theorem Sim_mark1 {h hc g : my_H} {x : Int} (n : Ln h) (to : ToE h) (f1 : my_fr [(21, -1), (30, -1), (31, -1)] h hc) (f2 : my_fr [(10, 0), (61, -1), (62, -1), (101, -1)] hc g) (x0 : 0 ≤ x) (x3 : x ≤ 3) (t : h 26 x = 1) (k : zqAg (h (15 + 3 * x)) (hc 8) ∧ WOk hc 7 ∧ ∀ k j : Int, 0 ≤ k → k < 94 → (k < 7 ∨ 9 < k) → hc k j = h k j) (m : zqAg (zqMS hc (1 + x)) (zqMS g 0) ∧ OtT hc g 0 5 5) (e2 : g 202 = zyU (hc 202) x 1) (p : Sim h) : Sim g := by
  obtain ⟨p1, p2, l, p4, p5⟩ := p
  obtain ⟨a1, a2, a4⟩ := k
  obtain ⟨m1, m2⟩ := m
  have ac : my_ag SlC h g := (my_ag.fr f1 rfl).tr (my_ag.fr f2 rfl)
  have b : ∀ k j : Int, 7 ≤ k → k ≤ 26 → g k j = hc k j := bg26 f2 (by decide +kernel)
  have o1 : Ot9 h hc := Ot9_e (fun j => my_fr.at f1 qis_162 rfl) (fun j => my_fr.at f1 qis_163 rfl)
  have e02 : ∀ j : Int, hc 202 j = h 202 j := fun j => my_fr.at f1 qis_202 rfl
  obtain ⟨w1, w2, w3⟩ := p5 x x0 x3
  have g02 : ∀ j : Int, 0 ≤ j → j ≤ 3 → g 202 j = h 202 j := fun j _ _ => by
    rw [e2]
    by_cases e : j = x
    · rw [e, zyU_y, ← w2, t]
    · rw [zyU_n e, e02]
  refine ⟨SiW_cg n to ((my_ag.fr f1 rfl).tr (my_ag.fr f2 rfl)) ((my_ag.fr f1 rfl).tr (my_ag.fr f2 rfl)) p1, ⟨WOk_c (my_ag.fr f2 rfl) a2 (fun j => b _ j (by omega) (by omega)) (fun j => b _ j (by omega) (by omega)), fun j y z => ?_⟩, SiL_cg ac ((my_ag.fr f1 rfl).tr (my_ag.fr f2 rfl)) l, SiD_cg ((my_ag.fr f1 rfl).tr (my_ag.fr f2 rfl)) p4, fun q q0 q3 => ?_⟩
  · rw [m1 j y z, o1.ms (s := 1 + x) (by omega) (by omega) j y z, b 8 j (by omega) (by omega), a1 j y z]
    exact (w3 t).2 j y z
  · obtain ⟨z1, z2, z3⟩ := p5 q q0 q3
    have r : ∀ k j : Int, 13 ≤ k → k ≤ 26 → g k j = h k j := fun k j u v => (b k j (by omega) (by omega)).trans (a4 k j (by omega) (by omega) (by omega))
    rw [r 13 q (by omega) (by omega), r 26 q (by omega) (by omega), g02 q q0 q3]
    refine ⟨z1, z2, fun t => ?_⟩
    obtain ⟨y1, y2⟩ := z3 t
    refine ⟨mkW_c ac (fun j => r _ j (by omega) (by omega)) (fun j => r _ j (by omega) (by omega)) y1, fun j y z => ?_⟩
    rw [OtT_ms m2 (by omega) (by omega) (by omega) (by omega) j y z, o1.ms (s := 1 + q) (by omega) (by omega) j y z, r (15 + 3 * q) j (by omega) (by omega)]
    exact y2 j y z
/-- panes of the reference that are well formed where the class's are -/
theorem LmW_p {g : my_H} (L : LwA g) (C : ∀ v : Int, 0 ≤ v → v ≤ 2 → g 2 v = g 157 v) (to : ToE g) (P : ∀ w : Int, 0 ≤ w → w ≤ 5 → g 164 w = 1 → WpE g w) : LmW g := fun w w0 w5 t => by
  have tc : g (g 27 w) 0 = 1 := by rw [to w w0 w5]; exact t
  obtain ⟨wf, b0, b2, m0, m4⟩ := L.1 w w0 w5 tc
  obtain ⟨-, -, -, -, -, d6, d7, -⟩ := L.2 w w0 w5 tc
  obtain ⟨p1, p2, -⟩ := P w w0 w5 t
  rw [p1] at d6 b0 b2
  have e3 : g (g 27 w) 3 = g 157 (mBs g w) := by rw [← d6]; exact C _ b0 b2
  rw [← e3]
  exact ⟨zqWf_e p2 wf, b0, b2, d7, m4⟩
end ZWH
