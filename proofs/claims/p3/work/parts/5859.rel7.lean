/-! more that stays -/
section ZWO
/-- the clerks' ends lie where they were made -/
def Hed (h : my_H) : Prop := ∀ m : Int, 0 ≤ m → m ≤ 5 → h 125 m = 126 + 3 * m
theorem qis_125 : my_is 50 125 := by unfold my_is; decide +kernel
theorem Hed_ag {h g : my_H} (a : my_ag [(50, -1)] h g) (p : Hed h) : Hed g := fun m x y => by
  rw [show g 125 m = h 125 m from a.at qis_125 rfl]
  exact p m x y
theorem Sim.hms {h : my_H} (p : Sim h) : ∀ m : Int, 0 ≤ m → m ≤ 3 → h 26 m = 1 → mkW h (14 + 3 * m) := fun m a b t => ((p.2.2.2.2 m a b).2.2 t).1
theorem Sim.hmk {h : my_H} (p : Sim h) : ∀ m : Int, 0 ≤ m → m ≤ 3 → h 13 m = 14 + 3 * m := fun m a b => (p.2.2.2.2 m a b).1
/-- no mark is set, none is gone back to -/
theorem Sim_markn {h hc g : my_H} (n : Ln h) (to : ToE h) (f1 : my_fr [(21, -1), (30, -1), (31, -1)] h hc) (f2 : my_fr [(10, 0), (61, -1), (62, -1), (101, -1)] hc g) (k : ∀ k j : Int, 0 ≤ k → k < 94 → hc k j = h k j) (m : (∀ j : Int, g 162 j = hc 162 j) ∧ ∀ j : Int, g 163 j = hc 163 j) (e2 : ∀ j : Int, g 202 j = hc 202 j) (p : Sim h) : Sim g := by
  obtain ⟨p1, p2, l, p4, p5⟩ := p
  have ac : my_ag SlC h g := (my_ag.fr f1 rfl).tr (my_ag.fr f2 rfl)
  have e : ∀ k j : Int, 7 ≤ k → k ≤ 26 → g k j = h k j := fun k' j y z => (bg26 f2 (by decide +kernel) k' j y z).trans (k k' j (by omega) (by omega))
  have o : Ot9 h g := (Ot9_e (fun j => my_fr.at f1 qis_162 rfl) (fun j => my_fr.at f1 qis_163 rfl)).tr (Ot9_e m.1 m.2)
  exact ⟨SiW_cg n to ((my_ag.fr f1 rfl).tr (my_ag.fr f2 rfl)) ((my_ag.fr f1 rfl).tr (my_ag.fr f2 rfl)) p1, SiO_cg ac (fun k j x y => e k j x (by omega)) o p2, SiL_cg ac ((my_ag.fr f1 rfl).tr (my_ag.fr f2 rfl)) l, SiD_cg ((my_ag.fr f1 rfl).tr (my_ag.fr f2 rfl)) p4, SiM_cg ac (fun k j x y => e k j (by omega) y) (fun j => (e2 j).trans (my_fr.at f1 qis_202 rfl)) (fun s x y => o.ms (by omega) (by omega)) p5⟩
end ZWO
