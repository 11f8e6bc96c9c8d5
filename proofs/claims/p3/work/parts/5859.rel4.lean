/-! row, out, put and others: both sides allow them alike, and change the walls alike -/
section ZWK
theorem LEq_St {A B : zqA} {S : Int → Int} (E : LEq A B) (p : zqSt A S) : zqSt B S := fun w k w0 w2 k0 k9 => by
  rw [← E.1 w w0 w2]
  exact p w k w0 w2 k0 k9
theorem Sim.A4 {h : my_H} (p : Sim h) : ∀ u : Int, 0 ≤ u → u ≤ 2 → (zqCA h).1 u ≤ 4 := fun u a b => (p.2.1.1.2.2.1 u a b).2
theorem Sim.N2 {h : my_H} (p : Sim h) : ∀ q : Int, 0 ≤ q → q ≤ 11 → -1 ≤ (zqCA h).2.2.2.1 q ∧ (zqCA h).2.2.2.1 q ≤ 2 := fun q a b => p.2.1.1.2.2.2.1 q a b
theorem Sim.mwo {h : my_H} (p : Sim h) : zqWo (zqMA h) (zqMS h 0) := by
  obtain ⟨g, l, s⟩ := zqWo_c p.2.1.2 p.A4 p.N2 p.2.1.1.1
  exact ⟨g, (Lf_e p.2.2.1 p.A4 p.N2 (fun _ _ _ => rfl)).mp l, LEq_St p.2.2.1 s⟩
/-- the class's call leaves what the reference holds -/
theorem hcM {h hc : my_H} {T : List (Nat × Int)} (f1 : my_fr T h hc) (d : my_dis T [(56, -1), (57, -1), (58, -1), (59, -1), (60, -1), (61, -1), (62, -1)] = true) : zqMA hc = zqMA h ∧ ∀ s : Int, zqMS hc s = zqMS h s := by
  have a : my_ag [(56, -1), (57, -1), (58, -1), (59, -1), (60, -1), (61, -1), (62, -1)] h hc := my_ag.fr f1 d
  exact ⟨MA_c (a.mo rfl), fun s => MS_eq (fun j => a.at qis_162 rfl) (fun j => a.at qis_163 rfl)⟩
theorem hcW {h hc : my_H} {T : List (Nat × Int)} (f1 : my_fr T h hc) (d : my_dis T [(56, -1), (57, -1), (58, -1), (59, -1), (60, -1), (61, -1), (62, -1)] = true) (p : Sim h) : zqWo (zqMA hc) (zqMS hc 0) := by
  obtain ⟨a, b⟩ := hcM f1 d
  rw [a, b]
  exact p.mwo
section
variable {h hc g : my_H} {T : List (Nat × Int)} {a b c d e : Int}
theorem Row_iff (p : Sim h) (f1 : my_fr T h hc) (t : my_dis T [(56, -1), (57, -1), (58, -1), (59, -1), (60, -1), (61, -1), (62, -1)] = true) : zyRow (zqCA h) (h 8) a b c d e ↔ zyRow (zqMA hc) (zqMS hc 0) a b c d e := by
  obtain ⟨x, y⟩ := hcM f1 t
  rw [x, y]
  exact zyRow_e p.2.2.1 p.A4 p.N2 p.2.1.2
theorem Out_iff (p : Sim h) (f1 : my_fr T h hc) (t : my_dis T [(56, -1), (57, -1), (58, -1), (59, -1), (60, -1), (61, -1), (62, -1)] = true) : zyOut (zqCA h) (h 8) a b ↔ zyOut (zqMA hc) (zqMS hc 0) a b := by
  obtain ⟨x, y⟩ := hcM f1 t
  rw [x, y]
  exact zyOut_e p.2.2.1 p.A4 p.N2 p.2.1.2
theorem Span_iff (p : Sim h) (f1 : my_fr T h hc) (t : my_dis T [(56, -1), (57, -1), (58, -1), (59, -1), (60, -1), (61, -1), (62, -1)] = true) : (zySp (zqCA h) a b c d ∧ qOut (h 8) a b c d 20 ≤ 0) ↔ (zySp (zqMA hc) a b c d ∧ qOut (zqMS hc 0) a b c d 20 ≤ 0) := by
  obtain ⟨x, y⟩ := hcM f1 t
  rw [x, y, ← zySp_e p.2.2.1]
  refine and_congr_right (fun z => ?_)
  obtain ⟨⟨⟨w0, w2⟩, c0, c1⟩, -⟩ := z
  have q := p.A4 a w0 w2
  rw [qOut_c p.2.1.2 w0 w2 c0 (by omega) 20 (by omega)]
theorem Names_iff (p : Sim h) (f1 : my_fr T h hc) (t : my_dis T [(56, -1), (57, -1), (58, -1), (59, -1), (60, -1), (61, -1), (62, -1)] = true) : (zyNm (zqCA h) a b c ∧ zqLf (zyN (zqCA h) a b c) (h 8)) ↔ (zyNm (zqMA hc) a b c ∧ zqLf (zyN (zqMA hc) a b c) (zqMS hc 0)) := by
  obtain ⟨x, y⟩ := hcM f1 t
  rw [x, y, ← zyNm_e p.2.2.1]
  refine and_congr_right (fun z => ?_)
  refine Lf_e (LEq_N p.2.2.1) p.A4 (fun q q0 q9 => ?_) p.2.1.2
  show -1 ≤ zyU (zqCA h).2.2.2.1 (4 * a + b) c q ∧ zyU (zqCA h).2.2.2.1 (4 * a + b) c q ≤ 2
  obtain ⟨-, -, ov⟩ := z
  by_cases w : q = 4 * a + b
  · rw [w, zyU_y]; omega
  · rw [zyU_n w]; exact p.N2 q q0 q9
theorem Once_iff (p : Sim h) (f1 : my_fr T h hc) (t : my_dis T [(56, -1), (57, -1), (58, -1), (59, -1), (60, -1), (61, -1), (62, -1)] = true) : (zyOn (zqCA h) a b ∧ zqLf (zyO (zqCA h) a b c) (h 8)) ↔ (zyOn (zqMA hc) a b ∧ zqLf (zyO (zqMA hc) a b c) (zqMS hc 0)) := by
  obtain ⟨x, y⟩ := hcM f1 t
  rw [x, y, ← zyOn_e p.2.2.1]
  exact and_congr_right (fun _ => Lf_e (LEq_O p.2.2.1) p.A4 p.N2 p.2.1.2)
theorem Mark_iff (p : Sim h) (f1 : my_fr T h hc) (t : my_dis T [(56, -1), (57, -1), (58, -1), (59, -1), (60, -1), (61, -1), (62, -1), (101, -1)] = true) : ((0 ≤ a ∧ a ≤ 3) ∧ (b ≠ 0 → h 26 a = 1 ∧ zqLf (zqCA h) (h (15 + 3 * a)))) ↔ ((0 ≤ a ∧ a ≤ 3) ∧ (b ≠ 0 → hc 202 a = 1 ∧ zqLf (zqMA hc) (zqMS hc (1 + a)))) := by
  have ag : my_ag [(56, -1), (57, -1), (58, -1), (59, -1), (60, -1), (61, -1), (62, -1), (101, -1)] h hc := my_ag.fr f1 t
  have x : zqMA hc = zqMA h := MA_c (ag.mo rfl)
  have y : ∀ s : Int, zqMS hc s = zqMS h s := fun s => MS_eq (fun j => ag.at qis_162 rfl) (fun j => ag.at qis_163 rfl)
  rw [x, y, show hc 202 a = h 202 a from ag.at qis_202 rfl]
  refine and_congr_right (fun z => ?_)
  obtain ⟨m1, m2, m3⟩ := p.2.2.2.2 a z.1 z.2
  rw [← m2]
  constructor
  · intro q b0
    obtain ⟨q1, q2⟩ := q b0
    exact ⟨q1, (Lf_e p.2.2.1 p.A4 p.N2 (m3 q1).2).mp q2⟩
  · intro q b0
    obtain ⟨q1, q2⟩ := q b0
    exact ⟨q1, (Lf_e p.2.2.1 p.A4 p.N2 (m3 q1).2).mpr q2⟩
end
end ZWK
section ZWL
variable {h hc g : my_H} {T T' : List (Nat × Int)}
abbrev SqG : List (Nat × Int) := [(22, -1), (4, -1), (32, -1), (33, -1), (34, -1), (35, -1), (36, -1), (37, -1), (38, -1), (23, -1), (25, -1), (26, -1), (27, -1), (28, -1), (29, -1), (56, -1), (57, -1), (58, -1), (59, -1), (60, -1), (61, -1), (62, -1), (63, -1), (64, -1), (65, -1), (66, -1), (67, -1), (68, -1), (69, -1), (70, -1), (71, -1), (72, -1), (87, -1), (101, -1)]
/-- both change the walls alike: the walls of the class, then those of the reference -/
theorem Sim_rw {S S' : Int → Int} (n : Ln h) (to : ToE h) (a : my_ag SqG h hc) (f2 : my_fr T' hc g) (d2 : my_dis T' SqF = true) (d3 : ((List.range 20).map (fun k => k + 7)).all (fun k => T'.all (fun q => !(my_ot k == q.1))) = true) (wo : WOk hc 7) (er : ∀ k j : Int, 13 ≤ k → k ≤ 26 → hc k j = h k j) (e1 : zqAg S (hc 8)) (e2 : zqAg S' (zqMS g 0)) (ee : zqAg S S') (o : ∀ s : Int, 1 ≤ s → s ≤ 4 → zqAg (zqMS hc s) (zqMS g s)) (p : Sim h) : Sim g := by
  have ms : ∀ s : Int, zqMS hc s = zqMS h s := fun s => MS_eq (fun j => a.at qis_162 rfl) (fun j => a.at qis_163 rfl)
  exact Sim_w n to (a.mo rfl) (my_ag.fr f2 d2) wo er (bg26 f2 d3) (fun s x y => by rw [← ms]; exact o s x y) (fun j x y => (e2 j x y).trans ((ee j x y).trans (e1 j x y).symm)) p
end ZWL
