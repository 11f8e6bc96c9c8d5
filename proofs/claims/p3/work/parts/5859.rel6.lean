/-! put: the relation is kept, and the answers are the same -/
section ZWN
theorem zqAl_pn {C : Int → Int} (C0 : ∀ u : Int, 0 ≤ u → u ≤ 2 → 0 ≤ C u) {A : zqA} {S : Int → Int} {b m : Int} {P : List zqP} {W : List zqR} {f : Int → Int} (b0 : 0 ≤ b) (b2 : b ≤ 2) {y : zqY} (q : y ∈ zqAl A S b m P W f) : 0 ≤ zqPr C y := by
  unfold zqAl at q
  rcases List.mem_append.mp q with q | q
  · by_cases z : zqQ3 A S b m P W f
    · rw [zqIf_t z] at q
      rw [List.mem_singleton.mp q, zqPr_3]
      exact C0 b b0 b2
    · rw [zqIf_f z] at q
      cases q
  · rcases List.mem_append.mp q with q | q
    · obtain ⟨e, r, r0, r6, -, er⟩ := zqV3_k q
      unfold zqPr
      rw [if_neg (by omega), er]
      exact C0 _ (by omega) (by omega)
    · rcases List.mem_append.mp q with q | q
      · have e := zqV2_k q
        rw [zqPr_1 e]
        decide
      · by_cases z : (zqRun S m ((zqLd S b m 20).map Prod.snd) P).Perm W
        · rw [zqIf_t z] at q
          rw [List.mem_singleton.mp q]
          show 0 ≤ (if (0 : Int) ≤ 1 then (0 : Int) else C (-1))
          rw [if_pos (by decide)]
          decide
        · rw [zqIf_f z] at q
          cases q
/-- where the class's put answers -1 the walls are as they were -/
theorem cPR_n {h : my_H} {S S' : Int → Int} {w e i j v y : Int} (C0 : ∀ u : Int, 0 ≤ u → u ≤ 2 → 0 ≤ h 2 u) (b0 : 0 ≤ h (h 27 w) 2) (b2 : h (h 27 w) 2 ≤ 2) (hy : y = -1) (p : cPR h S w e i j v y S') : zqAg S S' := by
  obtain ⟨W, -, q | ⟨z, q1, q2, -⟩⟩ := p
  · exact q.2.2
  · have := zqAl_pn C0 b0 b2 (zqLe_mem q1)
    omega
/-- ranges that a heap keeps -/
def PuT (h : my_H) : Prop := MTy h ∧ (∀ j : Int, 0 ≤ j → j < 7 → 0 ≤ h 164 j ∧ h 164 j ≤ 1) ∧ (∀ j : Int, 0 ≤ j → j < 8 → 0 ≤ h 188 j ∧ h 188 j ≤ 19) ∧ (∀ j : Int, 0 ≤ j → j < 28 → h 173 j ≤ 19) ∧ ∀ j : Int, 0 ≤ j → j < 7 → 0 ≤ h 166 j ∧ h 166 j ≤ 6
section
variable {h hc g : my_H} {w e i j v y y' : Int}
theorem Put_t (to : ToE h) (ok : EdOk h (h 8) w e i j v) : 0 ≤ w ∧ w ≤ 5 ∧ h 164 w = 1 := by
  obtain ⟨-, ⟨w0, w5, t⟩, -⟩ := ok
  exact ⟨w0, w5, by rw [← to w w0 w5]; exact t⟩
theorem Put_e (to : ToE h) (C : ∀ u : Int, 0 ≤ u → u ≤ 2 → h 2 u = h 157 u) (R : PuT h) (f1 : my_fr TpC h hc) (p : Sim h) (ok : EdOk h (h 8) w e i j v) (c : cPR h (h 8) w e i j v y (hc 8)) {S : Int → Int} (m : mPR hc (zqMS hc 0) w e i j v y' S) : y = y' ∧ zqAg (hc 8) S := by
  obtain ⟨w0, w5, t⟩ := Put_t to ok
  exact Put_eq to C R.1 (cmM_bd w0 w5 p.1.2.1 t R.2.2.1 R.2.2.2.1 R.2.2.2.2 (by decide) (by decide)) f1 w0 w5 t p c m
/-- none puts -/
theorem Sim_put0 (n : Ln h) (to : ToE h) (f1 : my_fr TpC h hc) (f2 : my_fr TpM hc g) (k : ∀ k j : Int, 0 ≤ k → k < 94 → hc k j = h k j) (m : OtT hc g 5 5 5) (p : Sim h) : Sim g := by
  have r : ∀ k j : Int, 7 ≤ k → k ≤ 26 → g k j = h k j := fun k' j x y => (bg26 f2 (by decide +kernel) k' j x y).trans (k k' j (by omega) (by omega))
  exact Sim_q n to ((my_ag.fr f1 rfl).tr (my_ag.fr f2 rfl)) r ((Ot9_e (fun j => my_fr.at f1 qis_162 rfl) (fun j => my_fr.at f1 qis_163 rfl)).tr (Ot9_T m (by omega) (by omega) (by omega))) p
/-- there is no way -/
theorem Sim_put1 (n : Ln h) (to : ToE h) (f1 : my_fr TpC h hc) (f2 : my_fr TpM hc g) (ok : EdOk h (h 8) w e i j v ∧ cPR h (h 8) w e i j v y (hc 8)) (wo : WOk hc 7 ∧ LwA hc) (hy : y = -1) (k : y = -1 → ∀ k j : Int, 0 ≤ k → k < 94 → (k < 7 ∨ 9 < k) → hc k j = h k j) (m : OtT hc g 5 5 5) (p : Sim h) : Sim g := by
  obtain ⟨w0, w5, t⟩ := Put_t to ok.1
  have tc : h (h 27 w) 0 = 1 := by rw [to w w0 w5]; exact t
  obtain ⟨-, b0, b2, -, -⟩ := p.1.1.1 w w0 w5 tc
  have c := cPR_n (fun u a b => (p.2.1.1.2.2.1 u a b).1) b0 b2 hy ok.2
  have k' := k hy
  refine Sim_rw n to (my_ag.fr f1 rfl) f2 rfl (by decide +kernel) wo.1 (fun k j x y => k' k j (by omega) (by omega) (by omega)) c (OtT_ms m (s := 0) (by decide) (by decide) (by decide) (by decide)) (by rw [(hcM f1 rfl).2]; exact p.2.1.2) (OtT_s m (by omega) (by omega) (by omega)) p
/-- both put -/
theorem Sim_put2 (n : Ln h) (to : ToE h) (f1 : my_fr TpC h hc) (f2 : my_fr TpM hc g) (wo : WOk hc 7 ∧ LwA hc) (hy : y ≠ -1) (k : y ≠ -1 → (zqAg (h 8) (hc 11) ∧ ∀ u : Int, 0 ≤ u → u ≤ 2 → hc 12 u = h 9 u) ∧ hc 0 3 = 1 ∧ ∀ k j : Int, 0 ≤ k → k < 94 → (k < 7 ∨ 12 < k) → (k ≠ 0 ∨ j ≠ 3) → hc k j = h k j) (ag : zqAg (hc 8) (zqMS g 0)) (m : OtT hc g 0 5 9) (p : Sim h) : Sim g := by
  obtain ⟨-, -, k'⟩ := k hy
  refine Sim_rw n to (my_ag.fr f1 rfl) f2 rfl (by decide +kernel) wo.1 (fun k j x y => k' k j (by omega) (by omega) (by omega) (by omega)) (fun _ _ _ => rfl) (fun _ _ _ => rfl) ag (OtT_s m (by omega) (by omega) (by omega)) p
end
end ZWN
