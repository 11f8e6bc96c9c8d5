/-! row, out, put: the relation is kept -/
section ZWM
theorem bg94 {T : List (Nat × Int)} {h g : my_H} (f : my_fr T h g) (hT : (List.range 94).all (fun k => T.all (fun q => !(my_ot k == q.1))) = true) : ∀ k j : Int, 0 ≤ k → k < 94 → g k j = h k j := fun k j k0 k1 => by
  refine f k j ?_
  unfold my_md
  refine List.any_eq_false.mpr (fun q hq => ?_)
  have := List.all_eq_true.mp (List.all_eq_true.mp hT k.toNat (List.mem_range.mpr (by omega))) q hq
  simp only [Bool.not_eq_true', Bool.and_eq_true, not_and, beq_eq_false_iff_ne, beq_iff_eq] at this ⊢
  intro z
  exact absurd z this
variable {h hc g : my_H}
abbrev TrC : List (Nat × Int) := [(24, -1), (30, -1), (31, -1)]
abbrev ToC : List (Nat × Int) := [(30, -1), (31, -1)]
abbrev TrM : List (Nat × Int) := [(10, 0), (61, -1), (62, -1)]
abbrev TpC : List (Nat × Int) := [(2, 11), (2, 12), (2, 13), (2, 14), (2, 15), (2, 16), (7, 0), (7, 1), (7, 2), (7, 3), (7, 4), (7, 5), (8, 0), (8, 1), (9, 3), (30, -1), (31, -1), (41, -1), (42, -1), (43, -1), (44, -1)]
abbrev TpM : List (Nat × Int) := [(10, 0), (10, 27), (10, 32), (10, 33), (10, 37), (10, 46), (10, 48), (10, 55), (61, -1), (62, -1), (73, -1), (74, -1), (75, -1), (76, -1), (77, -1), (78, -1), (79, -1), (80, -1), (81, -1), (82, -1), (83, -1), (84, -1), (85, -1), (86, -1), (88, -1), (89, -1), (90, -1), (91, -1), (92, -1), (93, -1), (94, -1)]
theorem OtT_s {a b c : Int} (p : OtT hc g a b c) (ha : a < 1 ∨ 4 < a) (hb : b < 1 ∨ 4 < b) (hc' : c < 1 ∨ 4 < c) : ∀ s : Int, 1 ≤ s → s ≤ 4 → zqAg (zqMS hc s) (zqMS g s) := fun s x y => OtT_ms p (by omega) (by omega) (by omega) (by omega)
/-- neither lays a row -/
theorem Sim_row0 (n : Ln h) (to : ToE h) (f1 : my_fr TrC h hc) (f2 : my_fr TrM hc g) (k : zqAg (h 8) (hc 8) ∧ WOk hc 7) (e : ∀ k j : Int, 0 ≤ k → k < 94 → (k < 7 ∨ 9 < k) → hc k j = h k j) (m : OtT hc g 5 5 5) (p : Sim h) : Sim g :=
  Sim_rw n to (my_ag.fr f1 rfl) f2 rfl (by decide +kernel) k.2 (fun k j x y => e k j (by omega) (by omega) (by omega)) k.1 (OtT_ms m (s := 0) (by decide) (by decide) (by decide) (by decide)) (by rw [(hcM f1 rfl).2]; exact p.2.1.2) (OtT_s m (by omega) (by omega) (by omega)) p
theorem Sim_row1 {x a b c d : Int} (n : Ln h) (to : ToE h) (f1 : my_fr TrC h hc) (f2 : my_fr TrM hc g) (x0 : 0 ≤ x) (x2 : x ≤ 2) (k : zqAg (zqAdd (h 8) x a (zyF (h 2 x) a b c d)) (hc 8) ∧ WOk hc 7) (e : ∀ k j : Int, 0 ≤ k → k < 94 → (k < 7 ∨ 9 < k) → hc k j = h k j) (m : zqAg (zqAdd (zqMS hc 0) x a (zyF (hc 157 x) a b c d)) (zqMS g 0) ∧ OtT hc g 0 5 5) (p : Sim h) : Sim g := by
  have e57 : hc 157 x = h 2 x := (my_fr.at f1 mis_157 rfl).trans (p.2.2.1.1 x x0 x2).symm
  refine Sim_rw n to (my_ag.fr f1 rfl) f2 rfl (by decide +kernel) k.2 (fun k j x y => e k j (by omega) (by omega) (by omega)) k.1 m.1 ?_ (OtT_s m.2 (by omega) (by omega) (by omega)) p
  rw [e57, (hcM f1 rfl).2]
  exact zqAdd_a p.2.1.2
/-- neither takes a row out -/
theorem Sim_out0 (n : Ln h) (to : ToE h) (f1 : my_fr ToC h hc) (f2 : my_fr TrM hc g) (e : ∀ k j : Int, 0 ≤ k → k < 94 → hc k j = h k j) (m : OtT hc g 5 5 5) (p : Sim h) : Sim g := by
  have r : ∀ k j : Int, 7 ≤ k → k ≤ 26 → g k j = h k j := fun k j x y => (bg26 f2 (by decide +kernel) k j x y).trans (e k j (by omega) (by omega))
  exact Sim_q n to ((my_ag.fr f1 rfl).tr (my_ag.fr f2 rfl)) r ((Ot9_e (fun j => my_fr.at f1 qis_162 rfl) (fun j => my_fr.at f1 qis_163 rfl)).tr (Ot9_T m (by omega) (by omega) (by omega))) p
theorem Sim_out1 {x a : Int} (n : Ln h) (to : ToE h) (f1 : my_fr ToC h hc) (f2 : my_fr TrM hc g) (k : zqAg (zqDrop (h 8) x a) (hc 8) ∧ WOk hc 7) (e : ∀ k j : Int, 0 ≤ k → k < 94 → (k < 7 ∨ 9 < k) → hc k j = h k j) (m : zqAg (zqDrop (zqMS hc 0) x a) (zqMS g 0) ∧ OtT hc g 0 5 5) (p : Sim h) : Sim g := by
  refine Sim_rw n to (my_ag.fr f1 rfl) f2 rfl (by decide +kernel) k.2 (fun k j x y => e k j (by omega) (by omega) (by omega)) k.1 m.1 ?_ (OtT_s m.2 (by omega) (by omega) (by omega)) p
  rw [(hcM f1 rfl).2]
  exact zqDrop_a p.2.1.2
/-- what may be put is alike -/
theorem Put_iff {w e i j v : Int} (to : ToE h) (C : ∀ u : Int, 0 ≤ u → u ≤ 2 → h 2 u = h 157 u) (B : ∀ j : Int, 0 ≤ j → j < 7 → 0 ≤ h 164 j ∧ h 164 j ≤ 1) (f1 : my_fr TpC h hc) (p : Sim h) : EdOk h (h 8) w e i j v ↔ mOk hc (zqMS hc 0) w e i j v := by
  have a : my_ag LmF h hc := my_ag.fr f1 rfl
  rw [mOk_ag a, (hcM f1 rfl).2]
  have W : 0 ≤ w → w ≤ 5 → h (h 27 w) 0 = 1 → WAl h w := fun w0 w5 t => by
    have tm : h 164 w = 1 := by rw [← to w w0 w5]; exact t
    exact WAl_p p.1.1 p.1.2.1 C (fun j x y => p.2.2.2.1 j x y) w0 w5 t tm (p.1.2.2 w w0 w5 tm)
  rw [EdOk_m (fun w0 w5 => by rw [to w w0 w5]; have := B w w0 (by omega); omega) W]
  exact ⟨mOk_c p.1.2.1 B p.2.1.2, mOk_c p.1.2.1 B (zqAg.sym p.2.1.2)⟩
/-- both put: the same -/
theorem Put_eq {w e i j v y y' : Int} (to : ToE h) (C : ∀ u : Int, 0 ≤ u → u ≤ 2 → h 2 u = h 157 u) (M : MTy h) (kf : 0 ≤ cmM h w 0 ∧ cmM h w 0 ≤ 19) (f1 : my_fr TpC h hc) (w0 : 0 ≤ w) (w5 : w ≤ 5) (t : h 164 w = 1) (p : Sim h) (c : cPR h (h 8) w e i j v y (hc 8)) {S : Int → Int} (m : mPR hc (zqMS hc 0) w e i j v y' S) : y = y' ∧ zqAg (hc 8) S := by
  have a : my_ag LmF h hc := my_ag.fr f1 rfl
  have tc : h (h 27 w) 0 = 1 := by rw [to w w0 w5]; exact t
  obtain ⟨-, b0, b2, m0, m4⟩ := p.1.2.1 w w0 w5 t
  have W := WAl_p p.1.1 p.1.2.1 C (fun j x y => p.2.2.2.1 j x y) w0 w5 tc t (p.1.2.2 w w0 w5 t)
  have m8 := LmW_8 p.1.2.1 w0 w5 t
  unfold MWd at m8
  have q := cPR_m W p.2.2.1 p.A4 b0 b2 (fun c x y => p.2.2.2.1 c x (by omega)) (by rw [W.2.2.1, W.2.1]; exact m8.2) c
  have q' := mPR_c p.1.2.1 M w0 w5 t kf p.2.1.2 (fun _ _ _ => rfl) q
  rw [mPR_ag a (hcM f1 rfl).1 (fun j => my_fr.at f1 pis_188 rfl), (hcM f1 rfl).2] at m
  exact mPR_u q' m
end ZWM
