/-! the run to the law's loop, by the kernel -/
section MRG
noncomputable def mz_x (ex : List Nat) : mf_P := fun m pc => bif Nat.beq m 0 && ex.any (fun x => Nat.beq x pc) then none else mz_pg m pc
theorem mz_hPgx (ex : List Nat) : mx_Pg (mz_Q (mz_x ex)) mz_G mz_tb := by
  intro m pc i hi
  have h : mz_x ex m pc = some i := hi
  have h2 : mz_pg m pc = some i := by
    unfold mz_x at h
    cases hc : (Nat.beq m 0 && ex.any (fun x => Nat.beq x pc)) with
    | true => rw [hc] at h; cases h
    | false => rw [hc] at h; exact h
  exact mz_hPg m pc i h2
theorem mz_fh0 : fh_ok [] := trivial
/-- the fast run, held against the model -/
theorem mz_runs {l : Launch} {rho : Nat → Int32} (pg : mf_P) (hpg : mx_Pg (mz_Q pg) mz_G mz_tb) {n d : Nat} {env : mx_E} {h : mf_H} {m pc : Nat} {ls : mx_L} {st : List Value} {K : mf_K} (hk : fh_ok h) (hrun : mf pg n d env h m pc ls st K = true) (he : mx_env rho env) :
    ∃ (env' : mx_E) (h' : mf_H) (pc' : Nat) (ls' : mx_L) (st' : List Value) (mc ms : Nat), fh_ok h' ∧ K env' h' pc' ls' st' = true ∧ mx_env rho env' ∧ (h'.flatten.length = h.flatten.length + mc ∧ mx_sz h'.flatten = mx_sz h.flatten + ms) ∧ mx_Ok l mz_P mz_G mz_tb rho d m pc ls st h.flatten pc' ls' st' h'.flatten mc ms := by
  have hmx := mf_mx pg n d env h m pc ls st K (fun env h pc ls st => @decide (∃ f : mf_H, fh_ok f ∧ f.flatten = h ∧ K env f pc ls st = true) (Classical.propDecidable _)) hk (fun env' h' pc' ls' st' hk' hK' => by
    simp only [decide_eq_true_eq]; exact ⟨h', hk', rfl, hK'⟩) hrun
  obtain ⟨env1, h1, pc1, ls1, st1, mc1, ms1, hK1, he1, hg1, hOk1⟩ := mx_sound (l := l) (P := mz_Q pg) (G := mz_G) (tb := mz_tb) mz_good mz_hCl mz_hCt hpg _ _ _ _ _ _ _ _ _ hmx he
  simp only [decide_eq_true_eq] at hK1
  obtain ⟨f1, hf1, rfl, hK1⟩ := hK1
  exact ⟨env1, f1, pc1, ls1, st1, mc1, ms1, hf1, hK1, he1, hg1, hOk1⟩
theorem mz_r23 : mf (mz_x [23]) 3000 30 [] [] 0 0 [(0, .float 0)] [] mz_K23 = true := by decide +kernel
end MRG
