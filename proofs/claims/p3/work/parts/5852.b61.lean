/-! contracts, printed by wip/gen/gy.py -/
section MYNModel_beginsColumns5_f0
theorem c_Model_beginsColumns5_f0 {l : Launch} {rho : Nat → Int32} {d : Nat} {h : my_H} {Q : my_H → my_V → Prop} (cf : h 151 8 = 0) (k0 : ∀ (h' : my_H), my_fr [(10, 27), (73, -1), (74, -1), (75, -1)] h h' → h' 151 8 = 0 → 0 ≤ h' 151 27 → h' 151 27 ≤ 4 → h' 151 27 = h 157 (h 151 33) → FwW h' (h' 151 27) → BcI h' (h 151 33) (h' 151 27) → Q h' (9, 0)) : wp l rho d 181 0 [(2, 151), (9, 0)] [] h Q := by
  refine v_know (x := 151) (j := 33) (b := 33) rfl is_151 rd_10 rfl (fun k151_33 ek151_33 pk151_33 qk151_33 => ?_)
  have J15_0 : ∀ (n : Nat) (p15_0 p15_1 : Int) (h15_0 : my_H), my_fr [(10, 27), (73, -1), (74, -1), (75, -1)] h h15_0 → 0 ≤ p15_0 → p15_0 ≤ 4 → 0 ≤ p15_1 → p15_1 ≤ 4 → p15_0 ≤ p15_1 → h15_0 151 27 = p15_1 → h15_0 151 33 = k151_33 → h15_0 151 8 = 0 → h15_0 151 27 = h 157 (h 151 33) → (∀ j : Int, 0 ≤ j → j < p15_0 → 0 ≤ h15_0 174 j) → BcI h15_0 (h 151 33) p15_0 → 5 - p15_0 ≤ (n : Int) → wp l rho d 181 15 [(2, 151), (0, p15_0)] [] h15_0 Q := by
    intro n
    induction n with
    | zero => intro p15_0 p15_1 h15_0 gh_15_0 q0_15_0 q1_15_0 q2_15_0 q3_15_0 q4_15_0 c151_27_15_0 c151_33_15_0 c151_8_15_0 bw_15_0 b4_15_0 bc_15_0 hm_15_0; exfalso; omega
    | succ n ih_15_0 =>
      intro p15_0 p15_1 h15_0 gh_15_0 q0_15_0 q1_15_0 q2_15_0 q3_15_0 q4_15_0 c151_27_15_0 c151_33_15_0 c151_8_15_0 bw_15_0 b4_15_0 bc_15_0 hm_15_0
      refine w_iload_n gz_181_15 rfl ?_
      refine w_aload_n gz_181_16 rfl ?_
      refine v_getI (j := 27) gz_181_17 rfl is_151 rd_10 rfl (fun v1 ev1 pv1 qv1 => ?_)
      have zv1 := ev1.trans c151_27_15_0
      refine w_icge (t := 53) gz_181_20 rfl (fun u2 => ?_) (fun u2 => ?_)
      ·
        have ce3 : h15_0 151 27 = v1 := ev1.symm
        have c4 := c151_8_15_0
        have c5 := ev1.symm
        exact w_vret gz_181_53 gm_181 (k0 h15_0 (gh_15_0) (by omega) (by omega) (by omega) (by first | exact (fun j a c => bc_15_0 j a (by omega)) | exact (by first | (intro j a b c; exact b4_15_0 j a (by omega)) | omega | (subst_vars; omega)) | assumption | omega) (by first | exact (fun j a c => bc_15_0 j a (by omega)) | exact (by first | (intro j a b c; exact b4_15_0 j a (by omega)) | omega | (subst_vars; omega)) | assumption | omega) (by first | exact (fun j a c => bc_15_0 j a (by omega)) | exact (by first | (intro j a b c; exact b4_15_0 j a (by omega)) | omega | (subst_vars; omega)) | assumption | omega))
      ·
        refine w_aload_n gz_181_23 rfl ?_
        refine w_getX (v := 174) gz_181_24 is_151 rd_10 rfl (by decide) rfl ?_
        refine w_iload_n gz_181_27 rfl ?_
        refine w_aload_n gz_181_28 rfl ?_
        refine v_getI (j := 33) gz_181_29 rfl is_151 rd_10 rfl (fun v7 ev7 pv7 qv7 => ?_)
        have zv7 := ev7.trans c151_33_15_0
        refine w_iast gz_181_32 is_174 rd_73 (by omega) (by omega) (by omega) (by omega) (fun h8 fh8 => ?_)
        have gh8 : my_fr [(10, 27), (73, -1), (74, -1), (75, -1)] h h8 := my_fr.up gh_15_0 is_174 fh8 rfl
        have f32 := fh8
        refine w_aload_n gz_181_33 rfl ?_
        refine w_getX (v := 175) gz_181_34 is_151 rd_10 rfl (by decide) rfl ?_
        refine w_iload_n gz_181_37 rfl ?_
        refine w_iload_n gz_181_38 rfl ?_
        refine w_iast gz_181_39 is_175 rd_74 (by omega) (by omega) (by omega) (by omega) (fun h10 fh10 => ?_)
        have gh10 : my_fr [(10, 27), (73, -1), (74, -1), (75, -1)] h h10 := my_fr.up gh8 is_175 fh10 rfl
        refine w_aload_n gz_181_40 rfl ?_
        refine w_getX (v := 176) gz_181_41 is_151 rd_10 rfl (by decide) rfl ?_
        refine w_iload_n gz_181_44 rfl ?_
        refine w_iconst gz_181_45 (by decide) ?_
        refine w_bast gz_181_46 is_176 rd_75 (by omega) (by omega) (by omega) (by omega) (fun h12 fh12 => ?_)
        have gh12 : my_fr [(10, 27), (73, -1), (74, -1), (75, -1)] h h12 := my_fr.up gh10 is_176 fh12 rfl
        refine w_iinc (ls' := [(2, 151), (0, (p15_0 + 1))]) gz_181_47 rfl gm_181 rfl rfl rfl ⟨by omega, by omega⟩ ?_
        refine w_goto (t := 15) gz_181_50 rfl ?_
        have ce13 : h12 151 27 = v1 := ((my_up_role fh12 is_151 is_176 rfl).trans ((my_up_role fh10 is_151 is_175 rfl).trans ((my_up_role fh8 is_151 is_174 rfl).trans ev1.symm)))
        have a174 : ∀ j : Int, h12 174 j = h8 174 j := fun j => ((my_up_role fh12 is_174 is_176 rfl).trans ((my_up_role fh10 is_174 is_175 rfl).trans (rfl : h8 174 j = h8 174 j)))
        exact ih_15_0 ((p15_0 + 1)) (v1) h12 (gh12) (by omega) (by omega) (by omega) (by omega) (by omega) (((my_up_role fh12 is_151 is_176 rfl).trans ((my_up_role fh10 is_151 is_175 rfl).trans ((my_up_role fh8 is_151 is_174 rfl).trans ev1.symm))).trans (by omega)) (((my_up_role fh12 is_151 is_176 rfl).trans ((my_up_role fh10 is_151 is_175 rfl).trans ((my_up_role fh8 is_151 is_174 rfl).trans ev7.symm))).trans (by omega)) (((my_up_role fh12 is_151 is_176 rfl).trans ((my_up_role fh10 is_151 is_175 rfl).trans ((my_up_role fh8 is_151 is_174 rfl).trans c151_8_15_0))).trans (by omega)) (by first | omega | (subst_vars; omega) | omega) (by first | (intro j a b; exfalso; omega) | (intro j a b; rw [a174]; rcases (by omega : j = p15_0 ∨ j < p15_0) with q | q <;> first | (rw [my_up_ne f32 (by omega)]; exact b4_15_0 j a q) | (rw [my_up_at f32 (by omega)]; omega)) | omega) (by first | exact BcI_0 | exact BcI_s bc_15_0 fh8 (by omega) (by omega) fh10 (by omega) (by omega) fh12 (by omega) | assumption | omega) (by omega)
  refine w_aload_n gz_181_0 rfl ?_
  refine w_aload_n gz_181_1 rfl ?_
  refine w_getX (v := 157) gz_181_2 is_151 rd_10 rfl (by decide) rfl ?_
  refine w_aload_n gz_181_5 rfl ?_
  refine v_getI (j := 33) gz_181_6 rfl is_151 rd_10 rfl (fun v15 ev15 pv15 qv15 => ?_)
  have zv15 := ev15.trans ek151_33.symm
  refine w_iald gz_181_9 is_157 rd_56 (by omega) (by omega) (fun v16 ev16 pv16 qv16 => ?_)
  refine v_putI (j := 27) gz_181_10 rfl is_151 rd_10 rfl (by omega) (by omega) rfl (fun h17 fh17 => ?_)
  have gh17 : my_fr [(10, 27), (73, -1), (74, -1), (75, -1)] h h17 := my_fr.up my_fr.rf is_151 fh17 rfl
  refine w_iconst gz_181_13 (by decide) ?_
  refine w_istore_n (ls' := [(2, 151), (0, 0)]) gz_181_14 gm_181 rfl rfl rfl ?_
  have ce18 : h17 151 27 = v16 := (my_up_self fh17)
  have a174 : ∀ j : Int, h17 174 j = h 174 j := fun j => ((my_up_role fh17 is_174 is_151 rfl).trans (rfl : h 174 j = h 174 j))
  exact J15_0 5 (0) (v16) h17 (gh17) (by omega) (by omega) (by omega) (by omega) (by omega) ((my_up_self fh17).trans (by omega)) (((my_up_fld fh17 (by decide)).trans ev15.symm).trans (by omega)) (((my_up_fld fh17 (by decide)).trans cf).trans (by omega)) (by first | omega | (subst_vars; omega) | omega) (by first | (intro j a b; exfalso; omega) | (intro j a b; rw [a174]; rcases (by omega : j = p15_0 ∨ j < p15_0) with q | q <;> first | (rw [my_up_ne f32 (by omega)]; exact b4_15_0 j a q) | (rw [my_up_at f32 (by omega)]; omega)) | omega) (by first | exact BcI_0 | exact BcI_s bc_15_0 no_such_saying (by omega) (by omega) no_such_saying (by omega) (by omega) fh17 (by omega) | assumption | omega) (by omega)
theorem c_Model_beginsColumns5 {l : Launch} {rho : Nat → Int32} {d : Nat} {h : my_H} {Q : my_H → my_V → Prop} (k0 : ∀ (h' : my_H), my_fr [(10, 27), (73, -1), (74, -1), (75, -1)] h h' → 0 ≤ h' 151 27 → h' 151 27 ≤ 4 → h' 151 27 = h 157 (h 151 33) → FwW h' (h' 151 27) → BcI h' (h 151 33) (h' 151 27) → Q h' (9, 0)) : wp l rho d 181 0 [(2, 151), (9, 0)] [] h Q := by
  refine v_know (x := 151) (j := 33) (b := 33) rfl is_151 rd_10 rfl (fun k151_33 ek151_33 pk151_33 qk151_33 => ?_)
  have J15_0 : ∀ (n : Nat) (p15_0 p15_1 : Int) (h15_0 : my_H), my_fr [(10, 27), (73, -1), (74, -1), (75, -1)] h h15_0 → 0 ≤ p15_0 → p15_0 ≤ 4 → 0 ≤ p15_1 → p15_1 ≤ 4 → p15_0 ≤ p15_1 → h15_0 151 27 = p15_1 → h15_0 151 33 = k151_33 → h15_0 151 27 = h 157 (h 151 33) → (∀ j : Int, 0 ≤ j → j < p15_0 → 0 ≤ h15_0 174 j) → BcI h15_0 (h 151 33) p15_0 → 5 - p15_0 ≤ (n : Int) → wp l rho d 181 15 [(2, 151), (0, p15_0)] [] h15_0 Q := by
    intro n
    induction n with
    | zero => intro p15_0 p15_1 h15_0 gh_15_0 q0_15_0 q1_15_0 q2_15_0 q3_15_0 q4_15_0 c151_27_15_0 c151_33_15_0 bw_15_0 b4_15_0 bc_15_0 hm_15_0; exfalso; omega
    | succ n ih_15_0 =>
      intro p15_0 p15_1 h15_0 gh_15_0 q0_15_0 q1_15_0 q2_15_0 q3_15_0 q4_15_0 c151_27_15_0 c151_33_15_0 bw_15_0 b4_15_0 bc_15_0 hm_15_0
      refine w_iload_n gz_181_15 rfl ?_
      refine w_aload_n gz_181_16 rfl ?_
      refine v_getI (j := 27) gz_181_17 rfl is_151 rd_10 rfl (fun v1 ev1 pv1 qv1 => ?_)
      have zv1 := ev1.trans c151_27_15_0
      refine w_icge (t := 53) gz_181_20 rfl (fun u2 => ?_) (fun u2 => ?_)
      ·
        have ce3 : h15_0 151 27 = v1 := ev1.symm
        have c4 := ev1.symm
        exact w_vret gz_181_53 gm_181 (k0 h15_0 (gh_15_0) (by omega) (by omega) (by first | exact (fun j a c => bc_15_0 j a (by omega)) | exact (by first | (intro j a b c; exact b4_15_0 j a (by omega)) | omega | (subst_vars; omega)) | assumption | omega) (by first | exact (fun j a c => bc_15_0 j a (by omega)) | exact (by first | (intro j a b c; exact b4_15_0 j a (by omega)) | omega | (subst_vars; omega)) | assumption | omega) (by first | exact (fun j a c => bc_15_0 j a (by omega)) | exact (by first | (intro j a b c; exact b4_15_0 j a (by omega)) | omega | (subst_vars; omega)) | assumption | omega))
      ·
        refine w_aload_n gz_181_23 rfl ?_
        refine w_getX (v := 174) gz_181_24 is_151 rd_10 rfl (by decide) rfl ?_
        refine w_iload_n gz_181_27 rfl ?_
        refine w_aload_n gz_181_28 rfl ?_
        refine v_getI (j := 33) gz_181_29 rfl is_151 rd_10 rfl (fun v6 ev6 pv6 qv6 => ?_)
        have zv6 := ev6.trans c151_33_15_0
        refine w_iast gz_181_32 is_174 rd_73 (by omega) (by omega) (by omega) (by omega) (fun h7 fh7 => ?_)
        have gh7 : my_fr [(10, 27), (73, -1), (74, -1), (75, -1)] h h7 := my_fr.up gh_15_0 is_174 fh7 rfl
        have f32 := fh7
        refine w_aload_n gz_181_33 rfl ?_
        refine w_getX (v := 175) gz_181_34 is_151 rd_10 rfl (by decide) rfl ?_
        refine w_iload_n gz_181_37 rfl ?_
        refine w_iload_n gz_181_38 rfl ?_
        refine w_iast gz_181_39 is_175 rd_74 (by omega) (by omega) (by omega) (by omega) (fun h9 fh9 => ?_)
        have gh9 : my_fr [(10, 27), (73, -1), (74, -1), (75, -1)] h h9 := my_fr.up gh7 is_175 fh9 rfl
        refine w_aload_n gz_181_40 rfl ?_
        refine w_getX (v := 176) gz_181_41 is_151 rd_10 rfl (by decide) rfl ?_
        refine w_iload_n gz_181_44 rfl ?_
        refine w_iconst gz_181_45 (by decide) ?_
        refine w_bast gz_181_46 is_176 rd_75 (by omega) (by omega) (by omega) (by omega) (fun h11 fh11 => ?_)
        have gh11 : my_fr [(10, 27), (73, -1), (74, -1), (75, -1)] h h11 := my_fr.up gh9 is_176 fh11 rfl
        refine w_iinc (ls' := [(2, 151), (0, (p15_0 + 1))]) gz_181_47 rfl gm_181 rfl rfl rfl ⟨by omega, by omega⟩ ?_
        refine w_goto (t := 15) gz_181_50 rfl ?_
        have ce12 : h11 151 27 = v1 := ((my_up_role fh11 is_151 is_176 rfl).trans ((my_up_role fh9 is_151 is_175 rfl).trans ((my_up_role fh7 is_151 is_174 rfl).trans ev1.symm)))
        have a174 : ∀ j : Int, h11 174 j = h7 174 j := fun j => ((my_up_role fh11 is_174 is_176 rfl).trans ((my_up_role fh9 is_174 is_175 rfl).trans (rfl : h7 174 j = h7 174 j)))
        exact ih_15_0 ((p15_0 + 1)) (v1) h11 (gh11) (by omega) (by omega) (by omega) (by omega) (by omega) (((my_up_role fh11 is_151 is_176 rfl).trans ((my_up_role fh9 is_151 is_175 rfl).trans ((my_up_role fh7 is_151 is_174 rfl).trans ev1.symm))).trans (by omega)) (((my_up_role fh11 is_151 is_176 rfl).trans ((my_up_role fh9 is_151 is_175 rfl).trans ((my_up_role fh7 is_151 is_174 rfl).trans ev6.symm))).trans (by omega)) (by first | omega | (subst_vars; omega) | omega) (by first | (intro j a b; exfalso; omega) | (intro j a b; rw [a174]; rcases (by omega : j = p15_0 ∨ j < p15_0) with q | q <;> first | (rw [my_up_ne f32 (by omega)]; exact b4_15_0 j a q) | (rw [my_up_at f32 (by omega)]; omega)) | omega) (by first | exact BcI_0 | exact BcI_s bc_15_0 fh7 (by omega) (by omega) fh9 (by omega) (by omega) fh11 (by omega) | assumption | omega) (by omega)
  refine w_aload_n gz_181_0 rfl ?_
  refine w_aload_n gz_181_1 rfl ?_
  refine w_getX (v := 157) gz_181_2 is_151 rd_10 rfl (by decide) rfl ?_
  refine w_aload_n gz_181_5 rfl ?_
  refine v_getI (j := 33) gz_181_6 rfl is_151 rd_10 rfl (fun v14 ev14 pv14 qv14 => ?_)
  have zv14 := ev14.trans ek151_33.symm
  refine w_iald gz_181_9 is_157 rd_56 (by omega) (by omega) (fun v15 ev15 pv15 qv15 => ?_)
  refine v_putI (j := 27) gz_181_10 rfl is_151 rd_10 rfl (by omega) (by omega) rfl (fun h16 fh16 => ?_)
  have gh16 : my_fr [(10, 27), (73, -1), (74, -1), (75, -1)] h h16 := my_fr.up my_fr.rf is_151 fh16 rfl
  refine w_iconst gz_181_13 (by decide) ?_
  refine w_istore_n (ls' := [(2, 151), (0, 0)]) gz_181_14 gm_181 rfl rfl rfl ?_
  have ce17 : h16 151 27 = v15 := (my_up_self fh16)
  have a174 : ∀ j : Int, h16 174 j = h 174 j := fun j => ((my_up_role fh16 is_174 is_151 rfl).trans (rfl : h 174 j = h 174 j))
  exact J15_0 5 (0) (v15) h16 (gh16) (by omega) (by omega) (by omega) (by omega) (by omega) ((my_up_self fh16).trans (by omega)) (((my_up_fld fh16 (by decide)).trans ev14.symm).trans (by omega)) (by first | omega | (subst_vars; omega) | omega) (by first | (intro j a b; exfalso; omega) | (intro j a b; rw [a174]; rcases (by omega : j = p15_0 ∨ j < p15_0) with q | q <;> first | (rw [my_up_ne f32 (by omega)]; exact b4_15_0 j a q) | (rw [my_up_at f32 (by omega)]; omega)) | omega) (by first | exact BcI_0 | exact BcI_s bc_15_0 no_such_saying (by omega) (by omega) no_such_saying (by omega) (by omega) fh16 (by omega) | assumption | omega) (by omega)
theorem c_Model_pane5_f0 {l : Launch} {rho : Nat → Int32} {d : Nat} {h : my_H} {Q : my_H → my_V → Prop} {x1 : Int} (a1 : 0 ≤ x1) (b1 : x1 ≤ 41) (cf : h 151 8 = 0) (pj : h 168 x1 = 4 → 0 ≤ h 170 x1 ∧ h 170 x1 ≤ 2 ∧ 1 ≤ h 157 (h 170 x1) ∧ h 151 27 + h 157 (h 170 x1) ≤ 9) (hpk : h 168 x1 = 3 → ∀ j : Int, 0 ≤ j → j < h 171 x1 → 0 ≤ h 172 (8 * x1 + j) ∧ h 172 (8 * x1 + j) < h 151 27) (k0 : ∀ (h' : my_H), my_fr [(10, 27), (73, -1), (74, -1), (75, -1), (77, -1), (78, -1), (79, -1)] h h' → h' 151 8 = 0 → h' 151 27 = ms h x1 (h 151 27) → (Pfw h x1 → FwW h' (h' 151 27)) → PnC h h' x1 → Q h' (9, 0)) : wp l rho d 182 0 [(2, 151), (0, x1), (9, 0)] [] h Q := by
  refine v_know (x := 151) (j := 27) (b := 27) rfl is_151 rd_10 rfl (fun k151_27 ek151_27 pk151_27 qk151_27 => ?_)
  have J207_0 : ∀ (n : Nat) (p207_0 p207_1 : Int) (h207_0 : my_H), my_fr [(10, 27), (73, -1), (74, -1), (75, -1), (77, -1), (78, -1), (79, -1)] h h207_0 → 0 ≤ p207_0 → p207_0 ≤ 8 → 0 ≤ p207_1 → p207_1 ≤ 8 → p207_0 ≤ p207_1 → h207_0 151 27 = p207_1 → h207_0 151 8 = 0 → h 168 x1 = 3 → h207_0 151 27 = h 171 x1 → (∀ j : Int, 0 ≤ j → j < h 151 27 → h207_0 178 j = h 174 j ∧ h207_0 179 j = h 175 j) → (Pfw h x1 → ∀ j : Int, 0 ≤ j → j < p207_0 → 0 ≤ h207_0 175 j → 0 ≤ h207_0 174 j) → F3I h h207_0 x1 p207_0 ∧ K3I h h207_0 (h 151 27) → 9 - p207_0 ≤ (n : Int) → wp l rho d 182 207 [(2, 151), (0, x1), (0, p207_0)] [] h207_0 Q := by
    intro n
    induction n with
    | zero => intro p207_0 p207_1 h207_0 gh_207_0 q0_207_0 q1_207_0 q2_207_0 q3_207_0 q4_207_0 c151_27_207_0 c151_8_207_0 k3_207_0 w3_207_0 k45_207_0 n7_207_0 r3_207_0 hm_207_0; exfalso; omega
    | succ n ih_207_0 =>
      intro p207_0 p207_1 h207_0 gh_207_0 q0_207_0 q1_207_0 q2_207_0 q3_207_0 q4_207_0 c151_27_207_0 c151_8_207_0 k3_207_0 w3_207_0 k45_207_0 n7_207_0 r3_207_0 hm_207_0
      refine w_iload_n gz_182_207 rfl ?_
      refine w_aload_n gz_182_208 rfl ?_
      refine v_getI (j := 27) gz_182_209 rfl is_151 rd_10 rfl (fun v1 ev1 pv1 qv1 => ?_)
      have zv1 := ev1.trans c151_27_207_0
      refine w_icge (t := 287) gz_182_212 rfl (fun u2 => ?_) (fun u2 => ?_)
      ·
        have ce3 : h207_0 151 27 = v1 := ev1.symm
        have c4 := c151_8_207_0
        exact w_vret gz_182_287 gm_182 (k0 h207_0 (gh_207_0) (by omega) (by first | exact ⟨fun _ j a c => q5_17_0 j a (by omega), fun z => by omega, fun z => by omega, fun _ _ z => by omega⟩ | exact ⟨fun z => by omega, fun _ => (by have q := q4_64_0; rw [show p207_0 = h 157 (h 170 x1) by omega] at q; exact q), fun z => by omega, fun _ z => by omega⟩ | exact ⟨fun z => by omega, fun z => by omega, fun _ j a c => r3_207_0.1 j a (by omega), fun z => by omega⟩ | exact ⟨fun z => by omega, fun z => by omega, fun z => by omega, fun _ _ _ j => ⟨rfl, rfl, rfl⟩⟩ | exact (by first | (intro p; exact p.1) | exact j4_64_0 | (intro p j a b c; exact n7_207_0 p j a (by omega) c) | (intro p j a b c; exfalso; have z := s7_17_0 j a (by omega); omega) | (unfold ms; (repeat (first | rw [if_pos (by omega)] | rw [if_neg (by omega)])); (try omega))) | assumption | omega) (by first | exact ⟨fun _ j a c => q5_17_0 j a (by omega), fun z => by omega, fun z => by omega, fun _ _ z => by omega⟩ | exact ⟨fun z => by omega, fun _ => (by have q := q4_64_0; rw [show p207_0 = h 157 (h 170 x1) by omega] at q; exact q), fun z => by omega, fun _ z => by omega⟩ | exact ⟨fun z => by omega, fun z => by omega, fun _ j a c => r3_207_0.1 j a (by omega), fun z => by omega⟩ | exact ⟨fun z => by omega, fun z => by omega, fun z => by omega, fun _ _ _ j => ⟨rfl, rfl, rfl⟩⟩ | exact (by first | (intro p; exact p.1) | exact j4_64_0 | (intro p j a b c; exact n7_207_0 p j a (by omega) c) | (intro p j a b c; exfalso; have z := s7_17_0 j a (by omega); omega) | (unfold ms; (repeat (first | rw [if_pos (by omega)] | rw [if_neg (by omega)])); (try omega))) | assumption | omega) (by first | exact ⟨fun _ j a c => q5_17_0 j a (by omega), fun z => by omega, fun z => by omega, fun _ _ z => by omega⟩ | exact ⟨fun z => by omega, fun _ => (by have q := q4_64_0; rw [show p207_0 = h 157 (h 170 x1) by omega] at q; exact q), fun z => by omega, fun _ z => by omega⟩ | exact ⟨fun z => by omega, fun z => by omega, fun _ j a c => r3_207_0.1 j a (by omega), fun z => by omega⟩ | exact ⟨fun z => by omega, fun z => by omega, fun z => by omega, fun _ _ _ j => ⟨rfl, rfl, rfl⟩⟩ | exact (by first | (intro p; exact p.1) | exact j4_64_0 | (intro p j a b c; exact n7_207_0 p j a (by omega) c) | (intro p j a b c; exfalso; have z := s7_17_0 j a (by omega); omega) | (unfold ms; (repeat (first | rw [if_pos (by omega)] | rw [if_neg (by omega)])); (try omega))) | assumption | omega))
      ·
        refine w_aload_n gz_182_215 rfl ?_
        refine w_getX (v := 174) gz_182_216 is_151 rd_10 rfl (by decide) rfl ?_
        refine w_iload_n gz_182_219 rfl ?_
        refine w_aload_n gz_182_220 rfl ?_
        refine w_getX (v := 178) gz_182_221 is_151 rd_10 rfl (by decide) rfl ?_
        refine w_aload_n gz_182_224 rfl ?_
        refine w_getX (v := 172) gz_182_225 is_151 rd_10 rfl (by decide) rfl ?_
        refine w_bipush gz_182_228 (by decide) ?_
        refine w_iload_n gz_182_230 rfl ?_
        refine w_imul gz_182_231 ⟨by omega, by omega⟩ ?_
        refine w_iload_n gz_182_232 rfl ?_
        refine w_iadd gz_182_233 ⟨by omega, by omega⟩ ?_
        refine w_iald gz_182_234 is_172 rd_71 (by omega) (by omega) (fun v8 ev8 pv8 qv8 => ?_)
        have f172 : ∀ j : Int, h207_0 172 j = h 172 j := fun j => my_fr.at gh_207_0 is_172 rfl
        have ff : Pfw h x1 → v8 < h 151 27 := fun p => by have z := p.2.2.2 k3_207_0 p207_0 (by omega) (by omega) (by omega); rw [← f172] at z; omega
        obtain ⟨vf, ef⟩ : ∃ vf : Int, vf = v8 := ⟨_, rfl⟩
        refine w_iald gz_182_235 is_178 rd_77 (by omega) (by omega) (fun v9 ev9 pv9 qv9 => ?_)
        have g5 : v9 = h207_0 178 vf := by rw [ef]; omega
        have y174 : v9 = h207_0 178 vf := g5
        have x172 : vf = h 172 (8 * x1 + p207_0) := by have z := f172 (8 * x1 + p207_0); omega
        have pk8 := hpk k3_207_0 p207_0 (by omega) (by omega)
        refine w_iast gz_182_236 is_174 rd_73 (by omega) (by omega) (by omega) (by omega) (fun h10 fh10 => ?_)
        have gh10 : my_fr [(10, 27), (73, -1), (74, -1), (75, -1), (77, -1), (78, -1), (79, -1)] h h10 := my_fr.up gh_207_0 is_174 fh10 rfl
        have f236 := fh10
        have k236 := my_up_self fh10
        refine w_aload_n gz_182_237 rfl ?_
        refine w_getX (v := 175) gz_182_238 is_151 rd_10 rfl (by decide) rfl ?_
        refine w_iload_n gz_182_241 rfl ?_
        refine w_aload_n gz_182_242 rfl ?_
        refine w_getX (v := 179) gz_182_243 is_151 rd_10 rfl (by decide) rfl ?_
        refine w_aload_n gz_182_246 rfl ?_
        refine w_getX (v := 172) gz_182_247 is_151 rd_10 rfl (by decide) rfl ?_
        refine w_bipush gz_182_250 (by decide) ?_
        refine w_iload_n gz_182_252 rfl ?_
        refine w_imul gz_182_253 ⟨by omega, by omega⟩ ?_
        refine w_iload_n gz_182_254 rfl ?_
        refine w_iadd gz_182_255 ⟨by omega, by omega⟩ ?_
        refine w_iald gz_182_256 is_172 rd_71 (by omega) (by omega) (fun v14 ev14 pv14 qv14 => ?_)
        have f172b : ∀ j : Int, h10 172 j = h 172 j := fun j => my_fr.at gh10 is_172 rfl
        have ff2 : v14 = vf := by have z1 := f172 (8 * x1 + p207_0); have z2 := f172b (8 * x1 + p207_0); omega
        refine w_iald gz_182_257 is_179 rd_78 (by omega) (by omega) (fun v15 ev15 pv15 qv15 => ?_)
        have e179 : ∀ j : Int, h10 179 j = h207_0 179 j := fun j => ((my_up_role fh10 is_179 is_174 rfl).trans (rfl : h207_0 179 j = h207_0 179 j))
        have b175 : ∀ j : Int, h10 175 j = h207_0 175 j := fun j => ((my_up_role fh10 is_175 is_174 rfl).trans (rfl : h207_0 175 j = h207_0 175 j))
        have g7 : v15 = h10 179 vf := by rw [← ff2]; omega
        have n7s : Pfw h x1 → 0 ≤ v15 → 0 ≤ h10 174 p207_0 := fun p c => by have z0 := ff p; have z := k45_207_0 vf (by omega) (by omega); have z2 := e179 vf; have z3 := p.1 vf (by omega) (by omega); omega
        have y175 : v15 = h207_0 179 vf := by have z := e179 vf; omega
        refine w_iast gz_182_258 is_175 rd_74 (by omega) (by omega) (by omega) (by omega) (fun h16 fh16 => ?_)
        have gh16 : my_fr [(10, 27), (73, -1), (74, -1), (75, -1), (77, -1), (78, -1), (79, -1)] h h16 := my_fr.up gh10 is_175 fh16 rfl
        have f258 := fh16
        refine w_aload_n gz_182_259 rfl ?_
        refine w_getX (v := 176) gz_182_260 is_151 rd_10 rfl (by decide) rfl ?_
        refine w_iload_n gz_182_263 rfl ?_
        refine w_aload_n gz_182_264 rfl ?_
        refine w_getX (v := 180) gz_182_265 is_151 rd_10 rfl (by decide) rfl ?_
        refine w_aload_n gz_182_268 rfl ?_
        refine w_getX (v := 172) gz_182_269 is_151 rd_10 rfl (by decide) rfl ?_
        refine w_bipush gz_182_272 (by decide) ?_
        refine w_iload_n gz_182_274 rfl ?_
        refine w_imul gz_182_275 ⟨by omega, by omega⟩ ?_
        refine w_iload_n gz_182_276 rfl ?_
        refine w_iadd gz_182_277 ⟨by omega, by omega⟩ ?_
        refine w_iald gz_182_278 is_172 rd_71 (by omega) (by omega) (fun v20 ev20 pv20 qv20 => ?_)
        have f172c : ∀ j : Int, h16 172 j = h 172 j := fun j => my_fr.at gh16 is_172 rfl
        have ff3 : v20 = vf := by have z1 := f172 (8 * x1 + p207_0); have z2 := f172c (8 * x1 + p207_0); omega
        refine w_bald gz_182_279 is_180 rd_79 (by omega) (by omega) (fun v21 ev21 pv21 qv21 => ?_)
        have e180 : ∀ j : Int, h16 180 j = h207_0 180 j := fun j => ((my_up_role fh16 is_180 is_175 rfl).trans ((my_up_role fh10 is_180 is_174 rfl).trans (rfl : h207_0 180 j = h207_0 180 j)))
        have y176 : v21 = h207_0 180 vf := by rw [← ff3]; have z := e180 v20; omega
        refine w_bast gz_182_280 is_176 rd_75 (by omega) (by omega) (by omega) (by omega) (fun h22 fh22 => ?_)
        have gh22 : my_fr [(10, 27), (73, -1), (74, -1), (75, -1), (77, -1), (78, -1), (79, -1)] h h22 := my_fr.up gh16 is_176 fh22 rfl
        refine w_iinc (ls' := [(2, 151), (0, x1), (0, (p207_0 + 1))]) gz_182_281 rfl gm_182 rfl rfl rfl ⟨by omega, by omega⟩ ?_
        refine w_goto (t := 207) gz_182_284 rfl ?_
        have ce23 : h22 151 27 = v1 := ((my_up_role fh22 is_151 is_176 rfl).trans ((my_up_role fh16 is_151 is_175 rfl).trans ((my_up_role fh10 is_151 is_174 rfl).trans ev1.symm)))
        have a174 : ∀ j : Int, h22 174 j = h10 174 j := fun j => ((my_up_role fh22 is_174 is_176 rfl).trans ((my_up_role fh16 is_174 is_175 rfl).trans (rfl : h10 174 j = h10 174 j)))
        have a175 : ∀ j : Int, h22 175 j = h16 175 j := fun j => ((my_up_role fh22 is_175 is_176 rfl).trans (rfl : h16 175 j = h16 175 j))
        have a178 : ∀ j : Int, h22 178 j = h207_0 178 j := fun j => ((my_up_role fh22 is_178 is_176 rfl).trans ((my_up_role fh16 is_178 is_175 rfl).trans ((my_up_role fh10 is_178 is_174 rfl).trans (rfl : h207_0 178 j = h207_0 178 j))))
        have a179 : ∀ j : Int, h22 179 j = h207_0 179 j := fun j => ((my_up_role fh22 is_179 is_176 rfl).trans ((my_up_role fh16 is_179 is_175 rfl).trans ((my_up_role fh10 is_179 is_174 rfl).trans (rfl : h207_0 179 j = h207_0 179 j))))
        exact ih_207_0 ((p207_0 + 1)) (v1) h22 (gh22) (by omega) (by omega) (by omega) (by omega) (by omega) (((my_up_role fh22 is_151 is_176 rfl).trans ((my_up_role fh16 is_151 is_175 rfl).trans ((my_up_role fh10 is_151 is_174 rfl).trans ev1.symm))).trans (by omega)) (((my_up_role fh22 is_151 is_176 rfl).trans ((my_up_role fh16 is_151 is_175 rfl).trans ((my_up_role fh10 is_151 is_174 rfl).trans c151_8_207_0))).trans (by omega)) (by first | omega | (subst_vars; omega) | omega) (by first | omega | (subst_vars; omega) | omega) (by first | (intro j a b; exfalso; omega) | (intro j a b; rw [a178, a179]; exact k45_145_0 j a (by omega)) | (intro j a b; rw [a178, a179]; exact k45_207_0 j a b) | (intro j a b; rw [a178, a179]; rcases (by omega : j = p207_0 ∨ j < p207_0) with q | q <;> first | (rw [my_up_ne f164 (by omega), my_up_ne f176 (by omega), b179]; exact k45_145_0 j a q) | (rw [my_up_at f164 (by omega), my_up_at f176 (by omega)]; have z := s45_145_0 j; have z2 := c175 j; subst q; omega)) | omega) (by first | (intro p j a b; exfalso; omega) | (intro p j a b c; rw [a175] at c; rw [a174]; rcases (by omega : j = p207_0 ∨ j < p207_0) with q | q <;> first | (rw [my_up_ne f258 (by omega), b175] at c; rw [my_up_ne f236 (by omega)]; exact n7_207_0 p j a q c) | (subst q; rw [my_up_at f258 (by omega)] at c; exact n7s p c)) | omega) (by first | exact ⟨F3_0, K3_w q3_145_0.1 fh22 (by omega)⟩ | exact F3_s (W := h 151 27) r3_207_0.1 r3_207_0.2 pk8.1 pk8.2 fh10 (by omega) y174 x172 fh16 (by omega) y175 x172 fh22 (by omega) y176 x172 | assumption | omega) (by omega)
  have J145_0 : ∀ (n : Nat) (p145_0 : Int) (h145_0 : my_H), my_fr [(10, 27), (73, -1), (74, -1), (75, -1), (77, -1), (78, -1), (79, -1)] h h145_0 → 0 ≤ p145_0 → p145_0 ≤ 8 → p145_0 ≤ k151_27 → h145_0 151 27 = k151_27 → h145_0 151 8 = 0 → h 168 x1 = 3 → (∀ j : Int, 0 ≤ j → j < p145_0 → h145_0 178 j = h 174 j ∧ h145_0 179 j = h 175 j) → (∀ j : Int, h145_0 174 j = h 174 j ∧ h145_0 175 j = h 175 j) → (K3I h h145_0 p145_0 ∧ ∀ j : Int, Sm3 h h145_0 j j) → 9 - p145_0 ≤ (n : Int) → wp l rho d 182 145 [(2, 151), (0, x1), (0, p145_0)] [] h145_0 Q := by
    intro n
    induction n with
    | zero => intro p145_0 h145_0 gh_145_0 q0_145_0 q1_145_0 q2_145_0 c151_27_145_0 c151_8_145_0 k3_145_0 k45_145_0 s45_145_0 q3_145_0 hm_145_0; exfalso; omega
    | succ n ih_145_0 =>
      intro p145_0 h145_0 gh_145_0 q0_145_0 q1_145_0 q2_145_0 c151_27_145_0 c151_8_145_0 k3_145_0 k45_145_0 s45_145_0 q3_145_0 hm_145_0
      refine w_iload_n gz_182_145 rfl ?_
      refine w_aload_n gz_182_146 rfl ?_
      refine v_getI (j := 27) gz_182_147 rfl is_151 rd_10 rfl (fun v24 ev24 pv24 qv24 => ?_)
      have zv24 := ev24.trans c151_27_145_0
      refine w_icge (t := 195) gz_182_150 rfl (fun u25 => ?_) (fun u25 => ?_)
      ·
        refine w_aload_n gz_182_195 rfl ?_
        refine w_aload_n gz_182_196 rfl ?_
        refine w_getX (v := 171) gz_182_197 is_151 rd_10 rfl (by decide) rfl ?_
        refine w_iload_n gz_182_200 rfl ?_
        refine w_iald gz_182_201 is_171 rd_70 (by omega) (by omega) (fun v27 ev27 pv27 qv27 => ?_)
        have a171 : h145_0 171 x1 = h 171 x1 := my_fr.at gh_145_0 is_171 rfl
        refine v_putI (j := 27) gz_182_202 rfl is_151 rd_10 rfl (by omega) (by omega) rfl (fun h28 fh28 => ?_)
        have gh28 : my_fr [(10, 27), (73, -1), (74, -1), (75, -1), (77, -1), (78, -1), (79, -1)] h h28 := my_fr.up gh_145_0 is_151 fh28 rfl
        refine w_iconst gz_182_205 (by decide) ?_
        refine w_istore_n (ls' := [(2, 151), (0, x1), (0, 0)]) gz_182_206 gm_182 rfl rfl rfl ?_
        have ce29 : h28 151 27 = v27 := (my_up_self fh28)
        have a174 : ∀ j : Int, h28 174 j = h145_0 174 j := fun j => ((my_up_role fh28 is_174 is_151 rfl).trans (rfl : h145_0 174 j = h145_0 174 j))
        have a175 : ∀ j : Int, h28 175 j = h145_0 175 j := fun j => ((my_up_role fh28 is_175 is_151 rfl).trans (rfl : h145_0 175 j = h145_0 175 j))
        have a178 : ∀ j : Int, h28 178 j = h145_0 178 j := fun j => ((my_up_role fh28 is_178 is_151 rfl).trans (rfl : h145_0 178 j = h145_0 178 j))
        have a179 : ∀ j : Int, h28 179 j = h145_0 179 j := fun j => ((my_up_role fh28 is_179 is_151 rfl).trans (rfl : h145_0 179 j = h145_0 179 j))
        exact J207_0 9 (0) (v27) h28 (gh28) (by omega) (by omega) (by omega) (by omega) (by omega) ((my_up_self fh28).trans (by omega)) (((my_up_fld fh28 (by decide)).trans c151_8_145_0).trans (by omega)) (by first | omega | (subst_vars; omega) | omega) (by first | omega | (subst_vars; omega) | omega) (by first | (intro j a b; exfalso; omega) | (intro j a b; rw [a178, a179]; exact k45_145_0 j a (by omega)) | (intro j a b; rw [a178, a179]; exact k45_207_0 j a b) | (intro j a b; rw [a178, a179]; rcases (by omega : j = p207_0 ∨ j < p207_0) with q | q <;> first | (rw [my_up_ne f164 (by omega), my_up_ne f176 (by omega), b179]; exact k45_145_0 j a q) | (rw [my_up_at f164 (by omega), my_up_at f176 (by omega)]; have z := s45_145_0 j; have z2 := c175 j; subst q; omega)) | omega) (by first | (intro p j a b; exfalso; omega) | (intro p j a b c; rw [a175] at c; rw [a174]; rcases (by omega : j = p207_0 ∨ j < p207_0) with q | q <;> first | (rw [my_up_ne f258 (by omega), b175] at c; rw [my_up_ne f236 (by omega)]; exact n7_207_0 p j a q c) | (subst q; rw [my_up_at f258 (by omega)] at c; exact n7s p c)) | omega) (by first | exact ⟨F3_0, K3_w q3_145_0.1 fh28 (by omega)⟩ | exact F3_s (W := h 151 27) r3_207_0.1 r3_207_0.2 pk8.1 pk8.2 no_such_saying (by omega) y174 x172 no_such_saying (by omega) y175 x172 fh28 (by omega) y176 x172 | assumption | omega) (by omega)
      ·
        refine w_aload_n gz_182_153 rfl ?_
        refine w_getX (v := 178) gz_182_154 is_151 rd_10 rfl (by decide) rfl ?_
        refine w_iload_n gz_182_157 rfl ?_
        refine w_aload_n gz_182_158 rfl ?_
        refine w_getX (v := 174) gz_182_159 is_151 rd_10 rfl (by decide) rfl ?_
        refine w_iload_n gz_182_162 rfl ?_
        refine w_iald gz_182_163 is_174 rd_73 (by omega) (by omega) (fun v32 ev32 pv32 qv32 => ?_)
        refine w_iast gz_182_164 is_178 rd_77 (by omega) (by omega) (by omega) (by omega) (fun h33 fh33 => ?_)
        have gh33 : my_fr [(10, 27), (73, -1), (74, -1), (75, -1), (77, -1), (78, -1), (79, -1)] h h33 := my_fr.up gh_145_0 is_178 fh33 rfl
        have f164 := fh33
        refine w_aload_n gz_182_165 rfl ?_
        refine w_getX (v := 179) gz_182_166 is_151 rd_10 rfl (by decide) rfl ?_
        refine w_iload_n gz_182_169 rfl ?_
        refine w_aload_n gz_182_170 rfl ?_
        refine w_getX (v := 175) gz_182_171 is_151 rd_10 rfl (by decide) rfl ?_
        refine w_iload_n gz_182_174 rfl ?_
        refine w_iald gz_182_175 is_175 rd_74 (by omega) (by omega) (fun v36 ev36 pv36 qv36 => ?_)
        have b179 : ∀ j : Int, h33 179 j = h145_0 179 j := fun j => ((my_up_role fh33 is_179 is_178 rfl).trans (rfl : h145_0 179 j = h145_0 179 j))
        have c175 : ∀ j : Int, h33 175 j = h145_0 175 j := fun j => ((my_up_role fh33 is_175 is_178 rfl).trans (rfl : h145_0 175 j = h145_0 175 j))
        have z175 : v36 = h145_0 175 p145_0 := by have z := c175 p145_0; omega
        refine w_iast gz_182_176 is_179 rd_78 (by omega) (by omega) (by omega) (by omega) (fun h37 fh37 => ?_)
        have gh37 : my_fr [(10, 27), (73, -1), (74, -1), (75, -1), (77, -1), (78, -1), (79, -1)] h h37 := my_fr.up gh33 is_179 fh37 rfl
        have f176 := fh37
        refine w_aload_n gz_182_177 rfl ?_
        refine w_getX (v := 180) gz_182_178 is_151 rd_10 rfl (by decide) rfl ?_
        refine w_iload_n gz_182_181 rfl ?_
        refine w_aload_n gz_182_182 rfl ?_
        refine w_getX (v := 176) gz_182_183 is_151 rd_10 rfl (by decide) rfl ?_
        refine w_iload_n gz_182_186 rfl ?_
        refine w_bald gz_182_187 is_176 rd_75 (by omega) (by omega) (fun v40 ev40 pv40 qv40 => ?_)
        have c176 : ∀ j : Int, h37 176 j = h145_0 176 j := fun j => ((my_up_role fh37 is_176 is_179 rfl).trans ((my_up_role fh33 is_176 is_178 rfl).trans (rfl : h145_0 176 j = h145_0 176 j)))
        have z176 : v40 = h145_0 176 p145_0 := by have z := c176 p145_0; omega
        refine w_bast gz_182_188 is_180 rd_79 (by omega) (by omega) (by omega) (by omega) (fun h41 fh41 => ?_)
        have gh41 : my_fr [(10, 27), (73, -1), (74, -1), (75, -1), (77, -1), (78, -1), (79, -1)] h h41 := my_fr.up gh37 is_180 fh41 rfl
        refine w_iinc (ls' := [(2, 151), (0, x1), (0, (p145_0 + 1))]) gz_182_189 rfl gm_182 rfl rfl rfl ⟨by omega, by omega⟩ ?_
        refine w_goto (t := 145) gz_182_192 rfl ?_
        have a174 : ∀ j : Int, h41 174 j = h145_0 174 j := fun j => ((my_up_role fh41 is_174 is_180 rfl).trans ((my_up_role fh37 is_174 is_179 rfl).trans ((my_up_role fh33 is_174 is_178 rfl).trans (rfl : h145_0 174 j = h145_0 174 j))))
        have a175 : ∀ j : Int, h41 175 j = h145_0 175 j := fun j => ((my_up_role fh41 is_175 is_180 rfl).trans ((my_up_role fh37 is_175 is_179 rfl).trans ((my_up_role fh33 is_175 is_178 rfl).trans (rfl : h145_0 175 j = h145_0 175 j))))
        have a178 : ∀ j : Int, h41 178 j = h33 178 j := fun j => ((my_up_role fh41 is_178 is_180 rfl).trans ((my_up_role fh37 is_178 is_179 rfl).trans (rfl : h33 178 j = h33 178 j)))
        have a179 : ∀ j : Int, h41 179 j = h37 179 j := fun j => ((my_up_role fh41 is_179 is_180 rfl).trans (rfl : h37 179 j = h37 179 j))
        exact ih_145_0 ((p145_0 + 1)) h41 (gh41) (by omega) (by omega) (by omega) (((my_up_role fh41 is_151 is_180 rfl).trans ((my_up_role fh37 is_151 is_179 rfl).trans ((my_up_role fh33 is_151 is_178 rfl).trans ev24.symm))).trans (by omega)) (((my_up_role fh41 is_151 is_180 rfl).trans ((my_up_role fh37 is_151 is_179 rfl).trans ((my_up_role fh33 is_151 is_178 rfl).trans c151_8_145_0))).trans (by omega)) (by first | omega | (subst_vars; omega) | omega) (by first | (intro j a b; exfalso; omega) | (intro j a b; rw [a178, a179]; exact k45_145_0 j a (by omega)) | (intro j a b; rw [a178, a179]; exact k45_207_0 j a b) | (intro j a b; rw [a178, a179]; rcases (by omega : j = p145_0 ∨ j < p145_0) with q | q <;> first | (rw [my_up_ne f164 (by omega), my_up_ne f176 (by omega), b179]; exact k45_145_0 j a q) | (rw [my_up_at f164 (by omega), my_up_at f176 (by omega)]; have z := s45_145_0 j; have z2 := c175 j; subst q; omega)) | omega) (by first | (intro j; exact ⟨a174 j, a175 j⟩) | (intro j; rw [a174, a175]; exact s45_145_0 j) | omega) (by first | exact ⟨K3_0, fun j => ⟨rfl, rfl, rfl⟩⟩ | exact K3_s q3_145_0.1 q3_145_0.2 fh33 (by omega) (by omega) fh37 (by omega) (by omega) fh41 (by omega) (by omega) | assumption | omega) (by omega)
  have J64_0 : ∀ (n : Nat) (p64_0 p64_1 : Int) (h64_0 : my_H), my_fr [(10, 27), (73, -1), (74, -1), (75, -1), (77, -1), (78, -1), (79, -1)] h h64_0 → 1 ≤ p64_0 → p64_0 ≤ 4 → 0 ≤ p64_1 → p64_1 ≤ 8 → p64_0 ≤ (p64_1 + 1) → k151_27 ≤ p64_1 → h64_0 151 27 = p64_1 → h64_0 151 8 = 0 → h 168 x1 = 4 → h64_0 151 27 = h 151 27 + p64_0 - 1 → p64_0 ≤ h 157 (h 170 x1) → (Pfw h x1 → FwW h64_0 (h64_0 151 27)) → P4I h h64_0 (h 151 27) (h 170 x1) p64_0 → 5 - p64_0 ≤ (n : Int) → wp l rho d 182 64 [(2, 151), (0, x1), (0, p64_0)] [] h64_0 Q := by
    intro n
    induction n with
    | zero => intro p64_0 p64_1 h64_0 gh_64_0 q0_64_0 q1_64_0 q2_64_0 q3_64_0 q4_64_0 q5_64_0 c151_27_64_0 c151_8_64_0 k4_64_0 wd_64_0 lc_64_0 j4_64_0 q4_64_0 hm_64_0; exfalso; omega
    | succ n ih_64_0 =>
      intro p64_0 p64_1 h64_0 gh_64_0 q0_64_0 q1_64_0 q2_64_0 q3_64_0 q4_64_0 q5_64_0 c151_27_64_0 c151_8_64_0 k4_64_0 wd_64_0 lc_64_0 j4_64_0 q4_64_0 hm_64_0
      have a170 : h64_0 170 x1 = h 170 x1 := my_fr.at gh_64_0 is_170 rfl
      have a157 : h64_0 157 (h 170 x1) = h 157 (h 170 x1) := my_fr.at gh_64_0 is_157 rfl
      have pq := pj k4_64_0
      refine w_iload_n gz_182_64 rfl ?_
      refine w_aload_n gz_182_65 rfl ?_
      refine w_getX (v := 157) gz_182_66 is_151 rd_10 rfl (by decide) rfl ?_
      refine w_aload_n gz_182_69 rfl ?_
      refine w_getX (v := 170) gz_182_70 is_151 rd_10 rfl (by decide) rfl ?_
      refine w_iload_n gz_182_73 rfl ?_
      refine w_iald gz_182_74 is_170 rd_69 (by omega) (by omega) (fun v44 ev44 pv44 qv44 => ?_)
      have a170b : h64_0 170 x1 = h 170 x1 := my_fr.at gh_64_0 is_170 rfl
      have e75 : v44 = h 170 x1 := by omega
      have f75 : h64_0 157 v44 = h 157 v44 := my_fr.at gh_64_0 is_157 rfl
      have pq2 := pj k4_64_0
      have hi45 : 0 ≤ v44 := by omega
      have hi46 : v44 ≤ 2 := by omega
      refine w_iald gz_182_75 is_157 rd_56 (by omega) (by omega) (fun v47 ev47 pv47 qv47 => ?_)
      have a76 : v47 = h 157 (h 170 x1) := by rw [← e75]; omega
      refine w_icge (t := 130) gz_182_76 rfl (fun u48 => ?_) (fun u48 => ?_)
      ·
        refine w_goto (t := 287) gz_182_130 rfl ?_
        have ce49 : h64_0 151 27 = p64_1 := c151_27_64_0
        have c50 := c151_8_64_0
        exact w_vret gz_182_287 gm_182 (k0 h64_0 (gh_64_0) (by omega) (by first | exact ⟨fun _ j a c => q5_17_0 j a (by omega), fun z => by omega, fun z => by omega, fun _ _ z => by omega⟩ | exact ⟨fun z => by omega, fun _ => (by have q := q4_64_0; rw [show p64_0 = h 157 (h 170 x1) by omega] at q; exact q), fun z => by omega, fun _ z => by omega⟩ | exact ⟨fun z => by omega, fun z => by omega, fun _ j a c => r3_207_0.1 j a (by omega), fun z => by omega⟩ | exact ⟨fun z => by omega, fun z => by omega, fun z => by omega, fun _ _ _ j => ⟨rfl, rfl, rfl⟩⟩ | exact (by first | (intro p; exact p.1) | exact j4_64_0 | (intro p j a b c; exact n7_207_0 p j a (by omega) c) | (intro p j a b c; exfalso; have z := s7_17_0 j a (by omega); omega) | (unfold ms; (repeat (first | rw [if_pos (by omega)] | rw [if_neg (by omega)])); (try omega))) | assumption | omega) (by first | exact ⟨fun _ j a c => q5_17_0 j a (by omega), fun z => by omega, fun z => by omega, fun _ _ z => by omega⟩ | exact ⟨fun z => by omega, fun _ => (by have q := q4_64_0; rw [show p64_0 = h 157 (h 170 x1) by omega] at q; exact q), fun z => by omega, fun _ z => by omega⟩ | exact ⟨fun z => by omega, fun z => by omega, fun _ j a c => r3_207_0.1 j a (by omega), fun z => by omega⟩ | exact ⟨fun z => by omega, fun z => by omega, fun z => by omega, fun _ _ _ j => ⟨rfl, rfl, rfl⟩⟩ | exact (by first | (intro p; exact p.1) | exact j4_64_0 | (intro p j a b c; exact n7_207_0 p j a (by omega) c) | (intro p j a b c; exfalso; have z := s7_17_0 j a (by omega); omega) | (unfold ms; (repeat (first | rw [if_pos (by omega)] | rw [if_neg (by omega)])); (try omega))) | assumption | omega) (by first | exact ⟨fun _ j a c => q5_17_0 j a (by omega), fun z => by omega, fun z => by omega, fun _ _ z => by omega⟩ | exact ⟨fun z => by omega, fun _ => (by have q := q4_64_0; rw [show p64_0 = h 157 (h 170 x1) by omega] at q; exact q), fun z => by omega, fun _ z => by omega⟩ | exact ⟨fun z => by omega, fun z => by omega, fun _ j a c => r3_207_0.1 j a (by omega), fun z => by omega⟩ | exact ⟨fun z => by omega, fun z => by omega, fun z => by omega, fun _ _ _ j => ⟨rfl, rfl, rfl⟩⟩ | exact (by first | (intro p; exact p.1) | exact j4_64_0 | (intro p j a b c; exact n7_207_0 p j a (by omega) c) | (intro p j a b c; exfalso; have z := s7_17_0 j a (by omega); omega) | (unfold ms; (repeat (first | rw [if_pos (by omega)] | rw [if_neg (by omega)])); (try omega))) | assumption | omega))
      ·
        refine w_aload_n gz_182_79 rfl ?_
        refine w_getX (v := 174) gz_182_80 is_151 rd_10 rfl (by decide) rfl ?_
        refine w_aload_n gz_182_83 rfl ?_
        refine v_getI (j := 27) gz_182_84 rfl is_151 rd_10 rfl (fun v52 ev52 pv52 qv52 => ?_)
        have zv52 := ev52.trans c151_27_64_0
        refine w_aload_n gz_182_87 rfl ?_
        refine w_getX (v := 170) gz_182_88 is_151 rd_10 rfl (by decide) rfl ?_
        refine w_iload_n gz_182_91 rfl ?_
        refine w_iald gz_182_92 is_170 rd_69 (by omega) (by omega) (fun v54 ev54 pv54 qv54 => ?_)
        have zv54 := ev54.trans ev44.symm
        have hi55 : 0 ≤ v52 := by first | omega | (subst_vars; omega) | grind | omega
        have hi56 : v52 ≤ 7 := by first | omega | (subst_vars; omega) | grind | omega
        refine w_iast gz_182_93 is_174 rd_73 (by omega) (by omega) (by omega) (by omega) (fun h57 fh57 => ?_)
        have gh57 : my_fr [(10, 27), (73, -1), (74, -1), (75, -1), (77, -1), (78, -1), (79, -1)] h h57 := my_fr.up gh_64_0 is_174 fh57 rfl
        have f93 := fh57
        refine w_aload_n gz_182_94 rfl ?_
        refine w_getX (v := 175) gz_182_95 is_151 rd_10 rfl (by decide) rfl ?_
        refine w_aload_n gz_182_98 rfl ?_
        refine v_getI (j := 27) gz_182_99 rfl is_151 rd_10 rfl (fun v59 ev59 pv59 qv59 => ?_)
        have zv59 := ev59.trans ((my_up_role fh57 is_151 is_174 rfl).trans ev52.symm)
        refine w_iload_n gz_182_102 rfl ?_
        have b175 : ∀ j : Int, h57 175 j = h64_0 175 j := fun j => ((my_up_role fh57 is_175 is_174 rfl).trans (rfl : h64_0 175 j = h64_0 175 j))
        refine w_iast gz_182_103 is_175 rd_74 (by omega) (by omega) (by omega) (by omega) (fun h60 fh60 => ?_)
        have gh60 : my_fr [(10, 27), (73, -1), (74, -1), (75, -1), (77, -1), (78, -1), (79, -1)] h h60 := my_fr.up gh57 is_175 fh60 rfl
        have f103 := fh60
        refine w_aload_n gz_182_104 rfl ?_
        refine w_getX (v := 176) gz_182_105 is_151 rd_10 rfl (by decide) rfl ?_
        refine w_aload_n gz_182_108 rfl ?_
        refine v_getI (j := 27) gz_182_109 rfl is_151 rd_10 rfl (fun v62 ev62 pv62 qv62 => ?_)
        have zv62 := ev62.trans ((my_up_role fh60 is_151 is_175 rfl).trans ev59.symm)
        refine w_iconst gz_182_112 (by decide) ?_
        refine w_bast gz_182_113 is_176 rd_75 (by omega) (by omega) (by omega) (by omega) (fun h63 fh63 => ?_)
        have gh63 : my_fr [(10, 27), (73, -1), (74, -1), (75, -1), (77, -1), (78, -1), (79, -1)] h h63 := my_fr.up gh60 is_176 fh63 rfl
        refine w_aload_n gz_182_114 rfl ?_
        refine w_dup gz_182_115 rfl ?_
        refine v_getI (j := 27) gz_182_116 rfl is_151 rd_10 rfl (fun v64 ev64 pv64 qv64 => ?_)
        have zv64 := ev64.trans ((my_up_role fh63 is_151 is_176 rfl).trans ev62.symm)
        refine w_iconst gz_182_119 (by decide) ?_
        refine w_iadd gz_182_120 ⟨by omega, by omega⟩ ?_
        refine v_putI (j := 27) gz_182_121 rfl is_151 rd_10 rfl (by omega) (by omega) rfl (fun h65 fh65 => ?_)
        have gh65 : my_fr [(10, 27), (73, -1), (74, -1), (75, -1), (77, -1), (78, -1), (79, -1)] h h65 := my_fr.up gh63 is_151 fh65 rfl
        refine w_iinc (ls' := [(2, 151), (0, x1), (0, (p64_0 + 1))]) gz_182_124 rfl gm_182 rfl rfl rfl ⟨by omega, by omega⟩ ?_
        refine w_goto (t := 64) gz_182_127 rfl ?_
        have ce66 : h65 151 27 = (v64 + 1) := (my_up_self fh65)
        have a174 : ∀ j : Int, h65 174 j = h57 174 j := fun j => ((my_up_role fh65 is_174 is_151 rfl).trans ((my_up_role fh63 is_174 is_176 rfl).trans ((my_up_role fh60 is_174 is_175 rfl).trans (rfl : h57 174 j = h57 174 j))))
        have a175 : ∀ j : Int, h65 175 j = h60 175 j := fun j => ((my_up_role fh65 is_175 is_151 rfl).trans ((my_up_role fh63 is_175 is_176 rfl).trans (rfl : h60 175 j = h60 175 j)))
        have a178 : ∀ j : Int, h65 178 j = h64_0 178 j := fun j => ((my_up_role fh65 is_178 is_151 rfl).trans ((my_up_role fh63 is_178 is_176 rfl).trans ((my_up_role fh60 is_178 is_175 rfl).trans ((my_up_role fh57 is_178 is_174 rfl).trans (rfl : h64_0 178 j = h64_0 178 j)))))
        have a179 : ∀ j : Int, h65 179 j = h64_0 179 j := fun j => ((my_up_role fh65 is_179 is_151 rfl).trans ((my_up_role fh63 is_179 is_176 rfl).trans ((my_up_role fh60 is_179 is_175 rfl).trans ((my_up_role fh57 is_179 is_174 rfl).trans (rfl : h64_0 179 j = h64_0 179 j)))))
        exact ih_64_0 ((p64_0 + 1)) ((v64 + 1)) h65 (gh65) (by omega) (by omega) (by omega) (by omega) (by omega) (by omega) ((my_up_self fh65).trans (by omega)) (((my_up_fld fh65 (by decide)).trans ((my_up_role fh63 is_151 is_176 rfl).trans ((my_up_role fh60 is_151 is_175 rfl).trans ((my_up_role fh57 is_151 is_174 rfl).trans c151_8_64_0)))).trans (by omega)) (by first | omega | (subst_vars; omega) | omega) (by first | omega | (subst_vars; omega) | omega) (by first | omega | (subst_vars; omega) | omega) (by first | (intro p; exact p.1) | (intro p; exact FwW_s (j4_64_0 p) (fun j q => ⟨(a174 j).trans (my_up_ne f93 (by omega)), (a175 j).trans ((my_up_ne f103 (by omega)).trans (b175 j))⟩) (by rw [a174, my_up_at f93 (by omega)]; omega) (by omega)) | omega) (by first | exact P4_0 | exact P4_s (by omega) q4_64_0 fh57 (by omega) (by omega) fh60 (by omega) (by omega) fh63 (by omega) fh65 | assumption | omega) (by omega)
  have J17_0 : ∀ (n : Nat) (p17_0 : Int) (h17_0 : my_H), my_fr [(10, 27), (73, -1), (74, -1), (75, -1), (77, -1), (78, -1), (79, -1)] h h17_0 → 0 ≤ p17_0 → p17_0 ≤ 2 → h17_0 151 27 = 2 → h17_0 151 8 = 0 → h 168 x1 = 5 → h17_0 151 27 = 2 → (∀ j : Int, 0 ≤ j → j < p17_0 → h17_0 175 j = -1) → P5I h17_0 p17_0 → 3 - p17_0 ≤ (n : Int) → wp l rho d 182 17 [(2, 151), (0, x1), (0, p17_0)] [] h17_0 Q := by
    intro n
    induction n with
    | zero => intro p17_0 h17_0 gh_17_0 q0_17_0 q1_17_0 c151_27_17_0 c151_8_17_0 k5_17_0 w5_17_0 s7_17_0 q5_17_0 hm_17_0; exfalso; omega
    | succ n ih_17_0 =>
      intro p17_0 h17_0 gh_17_0 q0_17_0 q1_17_0 c151_27_17_0 c151_8_17_0 k5_17_0 w5_17_0 s7_17_0 q5_17_0 hm_17_0
      refine w_iload_n gz_182_17 rfl ?_
      refine w_iconst gz_182_18 (by decide) ?_
      refine w_icge (t := 49) gz_182_19 rfl (fun u67 => ?_) (fun u67 => ?_)
      ·
        refine w_goto (t := 287) gz_182_49 rfl ?_
        have ce68 : h17_0 151 27 = 2 := c151_27_17_0
        have c69 := c151_8_17_0
        exact w_vret gz_182_287 gm_182 (k0 h17_0 (gh_17_0) (by omega) (by first | exact ⟨fun _ j a c => q5_17_0 j a (by omega), fun z => by omega, fun z => by omega, fun _ _ z => by omega⟩ | exact ⟨fun z => by omega, fun _ => (by have q := q4_64_0; rw [show p17_0 = h 157 (h 170 x1) by omega] at q; exact q), fun z => by omega, fun _ z => by omega⟩ | exact ⟨fun z => by omega, fun z => by omega, fun _ j a c => r3_207_0.1 j a (by omega), fun z => by omega⟩ | exact ⟨fun z => by omega, fun z => by omega, fun z => by omega, fun _ _ _ j => ⟨rfl, rfl, rfl⟩⟩ | exact (by first | (intro p; exact p.1) | exact j4_64_0 | (intro p j a b c; exact n7_207_0 p j a (by omega) c) | (intro p j a b c; exfalso; have z := s7_17_0 j a (by omega); omega) | (unfold ms; (repeat (first | rw [if_pos (by omega)] | rw [if_neg (by omega)])); (try omega))) | assumption | omega) (by first | exact ⟨fun _ j a c => q5_17_0 j a (by omega), fun z => by omega, fun z => by omega, fun _ _ z => by omega⟩ | exact ⟨fun z => by omega, fun _ => (by have q := q4_64_0; rw [show p17_0 = h 157 (h 170 x1) by omega] at q; exact q), fun z => by omega, fun _ z => by omega⟩ | exact ⟨fun z => by omega, fun z => by omega, fun _ j a c => r3_207_0.1 j a (by omega), fun z => by omega⟩ | exact ⟨fun z => by omega, fun z => by omega, fun z => by omega, fun _ _ _ j => ⟨rfl, rfl, rfl⟩⟩ | exact (by first | (intro p; exact p.1) | exact j4_64_0 | (intro p j a b c; exact n7_207_0 p j a (by omega) c) | (intro p j a b c; exfalso; have z := s7_17_0 j a (by omega); omega) | (unfold ms; (repeat (first | rw [if_pos (by omega)] | rw [if_neg (by omega)])); (try omega))) | assumption | omega) (by first | exact ⟨fun _ j a c => q5_17_0 j a (by omega), fun z => by omega, fun z => by omega, fun _ _ z => by omega⟩ | exact ⟨fun z => by omega, fun _ => (by have q := q4_64_0; rw [show p17_0 = h 157 (h 170 x1) by omega] at q; exact q), fun z => by omega, fun _ z => by omega⟩ | exact ⟨fun z => by omega, fun z => by omega, fun _ j a c => r3_207_0.1 j a (by omega), fun z => by omega⟩ | exact ⟨fun z => by omega, fun z => by omega, fun z => by omega, fun _ _ _ j => ⟨rfl, rfl, rfl⟩⟩ | exact (by first | (intro p; exact p.1) | exact j4_64_0 | (intro p j a b c; exact n7_207_0 p j a (by omega) c) | (intro p j a b c; exfalso; have z := s7_17_0 j a (by omega); omega) | (unfold ms; (repeat (first | rw [if_pos (by omega)] | rw [if_neg (by omega)])); (try omega))) | assumption | omega))
      ·
        refine w_aload_n gz_182_22 rfl ?_
        refine w_getX (v := 174) gz_182_23 is_151 rd_10 rfl (by decide) rfl ?_
        refine w_iload_n gz_182_26 rfl ?_
        refine w_iconst gz_182_27 (by decide) ?_
        refine w_iast gz_182_28 is_174 rd_73 (by omega) (by omega) (by omega) (by omega) (fun h71 fh71 => ?_)
        have gh71 : my_fr [(10, 27), (73, -1), (74, -1), (75, -1), (77, -1), (78, -1), (79, -1)] h h71 := my_fr.up gh_17_0 is_174 fh71 rfl
        refine w_aload_n gz_182_29 rfl ?_
        refine w_getX (v := 175) gz_182_30 is_151 rd_10 rfl (by decide) rfl ?_
        refine w_iload_n gz_182_33 rfl ?_
        refine w_iconst gz_182_34 (by decide) ?_
        have b175 : ∀ j : Int, h71 175 j = h17_0 175 j := fun j => ((my_up_role fh71 is_175 is_174 rfl).trans (rfl : h17_0 175 j = h17_0 175 j))
        refine w_iast gz_182_35 is_175 rd_74 (by omega) (by omega) (by omega) (by omega) (fun h73 fh73 => ?_)
        have gh73 : my_fr [(10, 27), (73, -1), (74, -1), (75, -1), (77, -1), (78, -1), (79, -1)] h h73 := my_fr.up gh71 is_175 fh73 rfl
        have f35 := fh73
        refine w_aload_n gz_182_36 rfl ?_
        refine w_getX (v := 176) gz_182_37 is_151 rd_10 rfl (by decide) rfl ?_
        refine w_iload_n gz_182_40 rfl ?_
        refine w_iconst gz_182_41 (by decide) ?_
        refine w_bast gz_182_42 is_176 rd_75 (by omega) (by omega) (by omega) (by omega) (fun h75 fh75 => ?_)
        have gh75 : my_fr [(10, 27), (73, -1), (74, -1), (75, -1), (77, -1), (78, -1), (79, -1)] h h75 := my_fr.up gh73 is_176 fh75 rfl
        refine w_iinc (ls' := [(2, 151), (0, x1), (0, (p17_0 + 1))]) gz_182_43 rfl gm_182 rfl rfl rfl ⟨by omega, by omega⟩ ?_
        refine w_goto (t := 17) gz_182_46 rfl ?_
        have ce76 : h75 151 27 = 2 := ((my_up_role fh75 is_151 is_176 rfl).trans ((my_up_role fh73 is_151 is_175 rfl).trans ((my_up_role fh71 is_151 is_174 rfl).trans c151_27_17_0)))
        have a174 : ∀ j : Int, h75 174 j = h71 174 j := fun j => ((my_up_role fh75 is_174 is_176 rfl).trans ((my_up_role fh73 is_174 is_175 rfl).trans (rfl : h71 174 j = h71 174 j)))
        have a175 : ∀ j : Int, h75 175 j = h73 175 j := fun j => ((my_up_role fh75 is_175 is_176 rfl).trans (rfl : h73 175 j = h73 175 j))
        have a178 : ∀ j : Int, h75 178 j = h17_0 178 j := fun j => ((my_up_role fh75 is_178 is_176 rfl).trans ((my_up_role fh73 is_178 is_175 rfl).trans ((my_up_role fh71 is_178 is_174 rfl).trans (rfl : h17_0 178 j = h17_0 178 j))))
        have a179 : ∀ j : Int, h75 179 j = h17_0 179 j := fun j => ((my_up_role fh75 is_179 is_176 rfl).trans ((my_up_role fh73 is_179 is_175 rfl).trans ((my_up_role fh71 is_179 is_174 rfl).trans (rfl : h17_0 179 j = h17_0 179 j))))
        exact ih_17_0 ((p17_0 + 1)) h75 (gh75) (by omega) (by omega) (((my_up_role fh75 is_151 is_176 rfl).trans ((my_up_role fh73 is_151 is_175 rfl).trans ((my_up_role fh71 is_151 is_174 rfl).trans c151_27_17_0))).trans (by omega)) (((my_up_role fh75 is_151 is_176 rfl).trans ((my_up_role fh73 is_151 is_175 rfl).trans ((my_up_role fh71 is_151 is_174 rfl).trans c151_8_17_0))).trans (by omega)) (by first | omega | (subst_vars; omega) | omega) (by first | omega | (subst_vars; omega) | omega) (by first | (intro j a b; exfalso; omega) | (intro j a b; rw [a175]; rcases (by omega : j = p17_0 ∨ j < p17_0) with q | q <;> first | (rw [my_up_ne f35 (by omega), b175]; exact s7_17_0 j a q) | (rw [my_up_at f35 (by omega)])) | omega) (by first | exact P5_0 | exact P5_s q5_17_0 fh71 (by omega) fh73 (by omega) fh75 (by omega) | assumption | omega) (by omega)
  refine w_aload_n gz_182_0 rfl ?_
  refine w_getX (v := 168) gz_182_1 is_151 rd_10 rfl (by decide) rfl ?_
  refine w_iload_n gz_182_4 rfl ?_
  refine w_iald gz_182_5 is_168 rd_67 (by omega) (by omega) (fun v78 ev78 pv78 qv78 => ?_)
  refine w_iconst gz_182_6 (by decide) ?_
  refine w_icne (t := 52) gz_182_7 rfl (fun u79 => ?_) (fun u79 => ?_)
  ·
    refine w_aload_n gz_182_52 rfl ?_
    refine w_getX (v := 168) gz_182_53 is_151 rd_10 rfl (by decide) rfl ?_
    refine w_iload_n gz_182_56 rfl ?_
    refine w_iald gz_182_57 is_168 rd_67 (by omega) (by omega) (fun v81 ev81 pv81 qv81 => ?_)
    have zv81 := ev81.trans ev78.symm
    refine w_iconst gz_182_58 (by decide) ?_
    refine w_icne (t := 133) gz_182_59 rfl (fun u82 => ?_) (fun u82 => ?_)
    ·
      refine w_aload_n gz_182_133 rfl ?_
      refine w_getX (v := 168) gz_182_134 is_151 rd_10 rfl (by decide) rfl ?_
      refine w_iload_n gz_182_137 rfl ?_
      refine w_iald gz_182_138 is_168 rd_67 (by omega) (by omega) (fun v84 ev84 pv84 qv84 => ?_)
      have zv84 := ev84.trans ev81.symm
      refine w_iconst gz_182_139 (by decide) ?_
      refine w_icne (t := 287) gz_182_140 rfl (fun u85 => ?_) (fun u85 => ?_)
      ·
        have ce86 : h 151 27 = k151_27 := ek151_27.symm
        have c87 := cf
        exact w_vret gz_182_287 gm_182 (k0 h (my_fr.rf) (by omega) (by first | exact ⟨fun _ j a c => q5_17_0 j a (by omega), fun z => by omega, fun z => by omega, fun _ _ z => by omega⟩ | exact ⟨fun z => by omega, fun _ => (by have q := q4_64_0; rw [show 0 = h 157 (h 170 x1) by omega] at q; exact q), fun z => by omega, fun _ z => by omega⟩ | exact ⟨fun z => by omega, fun z => by omega, fun _ j a c => r3_207_0.1 j a (by omega), fun z => by omega⟩ | exact ⟨fun z => by omega, fun z => by omega, fun z => by omega, fun _ _ _ j => ⟨rfl, rfl, rfl⟩⟩ | exact (by first | (intro p; exact p.1) | exact j4_64_0 | (intro p j a b c; exact n7_207_0 p j a (by omega) c) | (intro p j a b c; exfalso; have z := s7_17_0 j a (by omega); omega) | (unfold ms; (repeat (first | rw [if_pos (by omega)] | rw [if_neg (by omega)])); (try omega))) | assumption | omega) (by first | exact ⟨fun _ j a c => q5_17_0 j a (by omega), fun z => by omega, fun z => by omega, fun _ _ z => by omega⟩ | exact ⟨fun z => by omega, fun _ => (by have q := q4_64_0; rw [show 0 = h 157 (h 170 x1) by omega] at q; exact q), fun z => by omega, fun _ z => by omega⟩ | exact ⟨fun z => by omega, fun z => by omega, fun _ j a c => r3_207_0.1 j a (by omega), fun z => by omega⟩ | exact ⟨fun z => by omega, fun z => by omega, fun z => by omega, fun _ _ _ j => ⟨rfl, rfl, rfl⟩⟩ | exact (by first | (intro p; exact p.1) | exact j4_64_0 | (intro p j a b c; exact n7_207_0 p j a (by omega) c) | (intro p j a b c; exfalso; have z := s7_17_0 j a (by omega); omega) | (unfold ms; (repeat (first | rw [if_pos (by omega)] | rw [if_neg (by omega)])); (try omega))) | assumption | omega) (by first | exact ⟨fun _ j a c => q5_17_0 j a (by omega), fun z => by omega, fun z => by omega, fun _ _ z => by omega⟩ | exact ⟨fun z => by omega, fun _ => (by have q := q4_64_0; rw [show 0 = h 157 (h 170 x1) by omega] at q; exact q), fun z => by omega, fun _ z => by omega⟩ | exact ⟨fun z => by omega, fun z => by omega, fun _ j a c => r3_207_0.1 j a (by omega), fun z => by omega⟩ | exact ⟨fun z => by omega, fun z => by omega, fun z => by omega, fun _ _ _ j => ⟨rfl, rfl, rfl⟩⟩ | exact (by first | (intro p; exact p.1) | exact j4_64_0 | (intro p j a b c; exact n7_207_0 p j a (by omega) c) | (intro p j a b c; exfalso; have z := s7_17_0 j a (by omega); omega) | (unfold ms; (repeat (first | rw [if_pos (by omega)] | rw [if_neg (by omega)])); (try omega))) | assumption | omega))
      ·
        refine w_iconst gz_182_143 (by decide) ?_
        refine w_istore_n (ls' := [(2, 151), (0, x1), (0, 0)]) gz_182_144 gm_182 rfl rfl rfl ?_
        have a174 : ∀ j : Int, h 174 j = h 174 j := fun _ => rfl
        have a175 : ∀ j : Int, h 175 j = h 175 j := fun _ => rfl
        have a178 : ∀ j : Int, h 178 j = h 178 j := fun _ => rfl
        have a179 : ∀ j : Int, h 179 j = h 179 j := fun _ => rfl
        exact J145_0 9 (0) h (my_fr.rf) (by omega) (by omega) (by omega) (ek151_27.symm.trans (by omega)) (cf.trans (by omega)) (by first | omega | (subst_vars; omega) | omega) (by first | (intro j a b; exfalso; omega) | (intro j a b; rw [a178, a179]; exact k45_145_0 j a (by omega)) | (intro j a b; rw [a178, a179]; exact k45_207_0 j a b) | (intro j a b; rw [a178, a179]; rcases (by omega : j = p145_0 ∨ j < p145_0) with q | q <;> first | (rw [my_up_ne f164 (by omega), my_up_ne f176 (by omega), b179]; exact k45_145_0 j a q) | (rw [my_up_at f164 (by omega), my_up_at f176 (by omega)]; have z := s45_145_0 j; have z2 := c175 j; subst q; omega)) | omega) (by first | (intro j; exact ⟨a174 j, a175 j⟩) | (intro j; rw [a174, a175]; exact s45_145_0 j) | omega) (by first | exact ⟨K3_0, fun j => ⟨rfl, rfl, rfl⟩⟩ | exact K3_s q3_145_0.1 q3_145_0.2 no_such_saying (by omega) (by omega) no_such_saying (by omega) (by omega) no_such_saying (by omega) (by omega) | assumption | omega) (by omega)
    ·
      refine w_iconst gz_182_62 (by decide) ?_
      refine w_istore_n (ls' := [(2, 151), (0, x1), (0, 1)]) gz_182_63 gm_182 rfl rfl rfl ?_
      have ce88 : h 151 27 = k151_27 := ek151_27.symm
      have a174 : ∀ j : Int, h 174 j = h 174 j := fun _ => rfl
      have a175 : ∀ j : Int, h 175 j = h 175 j := fun _ => rfl
      have a178 : ∀ j : Int, h 178 j = h 178 j := fun _ => rfl
      have a179 : ∀ j : Int, h 179 j = h 179 j := fun _ => rfl
      exact J64_0 4 (1) (k151_27) h (my_fr.rf) (by omega) (by omega) (by omega) (by omega) (by omega) (by omega) (ek151_27.symm.trans (by omega)) (cf.trans (by omega)) (by first | omega | (subst_vars; omega) | omega) (by first | omega | (subst_vars; omega) | omega) (by first | omega | (subst_vars; omega) | omega) (by first | (intro p; exact p.1) | (intro p; exact FwW_s (j4_64_0 p) (fun j q => ⟨(a174 j).trans (my_up_ne f93 (by omega)), (a175 j).trans ((my_up_ne f103 (by omega)).trans (b175 j))⟩) (by rw [a174, my_up_at f93 (by omega)]; omega) (by omega)) | omega) (by first | exact P4_0 | exact P4_s (by omega) q4_64_0 no_such_saying (by omega) (by omega) no_such_saying (by omega) (by omega) no_such_saying (by omega) no_such_saying | assumption | omega) (by omega)
  ·
    refine w_aload_n gz_182_10 rfl ?_
    refine w_iconst gz_182_11 (by decide) ?_
    refine v_putI (j := 27) gz_182_12 rfl is_151 rd_10 rfl (by omega) (by omega) rfl (fun h89 fh89 => ?_)
    have gh89 : my_fr [(10, 27), (73, -1), (74, -1), (75, -1), (77, -1), (78, -1), (79, -1)] h h89 := my_fr.up my_fr.rf is_151 fh89 rfl
    refine w_iconst gz_182_15 (by decide) ?_
    refine w_istore_n (ls' := [(2, 151), (0, x1), (0, 0)]) gz_182_16 gm_182 rfl rfl rfl ?_
    have ce90 : h89 151 27 = 2 := (my_up_self fh89)
    have a174 : ∀ j : Int, h89 174 j = h 174 j := fun j => ((my_up_role fh89 is_174 is_151 rfl).trans (rfl : h 174 j = h 174 j))
    have a175 : ∀ j : Int, h89 175 j = h 175 j := fun j => ((my_up_role fh89 is_175 is_151 rfl).trans (rfl : h 175 j = h 175 j))
    have a178 : ∀ j : Int, h89 178 j = h 178 j := fun j => ((my_up_role fh89 is_178 is_151 rfl).trans (rfl : h 178 j = h 178 j))
    have a179 : ∀ j : Int, h89 179 j = h 179 j := fun j => ((my_up_role fh89 is_179 is_151 rfl).trans (rfl : h 179 j = h 179 j))
    exact J17_0 3 (0) h89 (gh89) (by omega) (by omega) ((my_up_self fh89).trans (by omega)) (((my_up_fld fh89 (by decide)).trans cf).trans (by omega)) (by first | omega | (subst_vars; omega) | omega) (by first | omega | (subst_vars; omega) | omega) (by first | (intro j a b; exfalso; omega) | (intro j a b; rw [a175]; rcases (by omega : j = p17_0 ∨ j < p17_0) with q | q <;> first | (rw [my_up_ne f35 (by omega), b175]; exact s7_17_0 j a q) | (rw [my_up_at f35 (by omega)])) | omega) (by first | exact P5_0 | exact P5_s q5_17_0 no_such_saying (by omega) no_such_saying (by omega) fh89 (by omega) | assumption | omega) (by omega)
theorem c_Model_pane5 {l : Launch} {rho : Nat → Int32} {d : Nat} {h : my_H} {Q : my_H → my_V → Prop} {x1 : Int} (a1 : 0 ≤ x1) (b1 : x1 ≤ 41) (pj : h 168 x1 = 4 → 0 ≤ h 170 x1 ∧ h 170 x1 ≤ 2 ∧ 1 ≤ h 157 (h 170 x1) ∧ h 151 27 + h 157 (h 170 x1) ≤ 9) (hpk : h 168 x1 = 3 → ∀ j : Int, 0 ≤ j → j < h 171 x1 → 0 ≤ h 172 (8 * x1 + j) ∧ h 172 (8 * x1 + j) < h 151 27) (k0 : ∀ (h' : my_H), my_fr [(10, 27), (73, -1), (74, -1), (75, -1), (77, -1), (78, -1), (79, -1)] h h' → h' 151 27 = ms h x1 (h 151 27) → (Pfw h x1 → FwW h' (h' 151 27)) → PnC h h' x1 → Q h' (9, 0)) : wp l rho d 182 0 [(2, 151), (0, x1), (9, 0)] [] h Q := by
  refine v_know (x := 151) (j := 27) (b := 27) rfl is_151 rd_10 rfl (fun k151_27 ek151_27 pk151_27 qk151_27 => ?_)
  have J207_0 : ∀ (n : Nat) (p207_0 p207_1 : Int) (h207_0 : my_H), my_fr [(10, 27), (73, -1), (74, -1), (75, -1), (77, -1), (78, -1), (79, -1)] h h207_0 → 0 ≤ p207_0 → p207_0 ≤ 8 → 0 ≤ p207_1 → p207_1 ≤ 8 → p207_0 ≤ p207_1 → h207_0 151 27 = p207_1 → h 168 x1 = 3 → h207_0 151 27 = h 171 x1 → (∀ j : Int, 0 ≤ j → j < h 151 27 → h207_0 178 j = h 174 j ∧ h207_0 179 j = h 175 j) → (Pfw h x1 → ∀ j : Int, 0 ≤ j → j < p207_0 → 0 ≤ h207_0 175 j → 0 ≤ h207_0 174 j) → F3I h h207_0 x1 p207_0 ∧ K3I h h207_0 (h 151 27) → 9 - p207_0 ≤ (n : Int) → wp l rho d 182 207 [(2, 151), (0, x1), (0, p207_0)] [] h207_0 Q := by
    intro n
    induction n with
    | zero => intro p207_0 p207_1 h207_0 gh_207_0 q0_207_0 q1_207_0 q2_207_0 q3_207_0 q4_207_0 c151_27_207_0 k3_207_0 w3_207_0 k45_207_0 n7_207_0 r3_207_0 hm_207_0; exfalso; omega
    | succ n ih_207_0 =>
      intro p207_0 p207_1 h207_0 gh_207_0 q0_207_0 q1_207_0 q2_207_0 q3_207_0 q4_207_0 c151_27_207_0 k3_207_0 w3_207_0 k45_207_0 n7_207_0 r3_207_0 hm_207_0
      refine w_iload_n gz_182_207 rfl ?_
      refine w_aload_n gz_182_208 rfl ?_
      refine v_getI (j := 27) gz_182_209 rfl is_151 rd_10 rfl (fun v1 ev1 pv1 qv1 => ?_)
      have zv1 := ev1.trans c151_27_207_0
      refine w_icge (t := 287) gz_182_212 rfl (fun u2 => ?_) (fun u2 => ?_)
      ·
        have ce3 : h207_0 151 27 = v1 := ev1.symm
        exact w_vret gz_182_287 gm_182 (k0 h207_0 (gh_207_0) (by first | exact ⟨fun _ j a c => q5_17_0 j a (by omega), fun z => by omega, fun z => by omega, fun _ _ z => by omega⟩ | exact ⟨fun z => by omega, fun _ => (by have q := q4_64_0; rw [show p207_0 = h 157 (h 170 x1) by omega] at q; exact q), fun z => by omega, fun _ z => by omega⟩ | exact ⟨fun z => by omega, fun z => by omega, fun _ j a c => r3_207_0.1 j a (by omega), fun z => by omega⟩ | exact ⟨fun z => by omega, fun z => by omega, fun z => by omega, fun _ _ _ j => ⟨rfl, rfl, rfl⟩⟩ | exact (by first | (intro p; exact p.1) | exact j4_64_0 | (intro p j a b c; exact n7_207_0 p j a (by omega) c) | (intro p j a b c; exfalso; have z := s7_17_0 j a (by omega); omega) | (unfold ms; (repeat (first | rw [if_pos (by omega)] | rw [if_neg (by omega)])); (try omega))) | assumption | omega) (by first | exact ⟨fun _ j a c => q5_17_0 j a (by omega), fun z => by omega, fun z => by omega, fun _ _ z => by omega⟩ | exact ⟨fun z => by omega, fun _ => (by have q := q4_64_0; rw [show p207_0 = h 157 (h 170 x1) by omega] at q; exact q), fun z => by omega, fun _ z => by omega⟩ | exact ⟨fun z => by omega, fun z => by omega, fun _ j a c => r3_207_0.1 j a (by omega), fun z => by omega⟩ | exact ⟨fun z => by omega, fun z => by omega, fun z => by omega, fun _ _ _ j => ⟨rfl, rfl, rfl⟩⟩ | exact (by first | (intro p; exact p.1) | exact j4_64_0 | (intro p j a b c; exact n7_207_0 p j a (by omega) c) | (intro p j a b c; exfalso; have z := s7_17_0 j a (by omega); omega) | (unfold ms; (repeat (first | rw [if_pos (by omega)] | rw [if_neg (by omega)])); (try omega))) | assumption | omega) (by first | exact ⟨fun _ j a c => q5_17_0 j a (by omega), fun z => by omega, fun z => by omega, fun _ _ z => by omega⟩ | exact ⟨fun z => by omega, fun _ => (by have q := q4_64_0; rw [show p207_0 = h 157 (h 170 x1) by omega] at q; exact q), fun z => by omega, fun _ z => by omega⟩ | exact ⟨fun z => by omega, fun z => by omega, fun _ j a c => r3_207_0.1 j a (by omega), fun z => by omega⟩ | exact ⟨fun z => by omega, fun z => by omega, fun z => by omega, fun _ _ _ j => ⟨rfl, rfl, rfl⟩⟩ | exact (by first | (intro p; exact p.1) | exact j4_64_0 | (intro p j a b c; exact n7_207_0 p j a (by omega) c) | (intro p j a b c; exfalso; have z := s7_17_0 j a (by omega); omega) | (unfold ms; (repeat (first | rw [if_pos (by omega)] | rw [if_neg (by omega)])); (try omega))) | assumption | omega))
      ·
        refine w_aload_n gz_182_215 rfl ?_
        refine w_getX (v := 174) gz_182_216 is_151 rd_10 rfl (by decide) rfl ?_
        refine w_iload_n gz_182_219 rfl ?_
        refine w_aload_n gz_182_220 rfl ?_
        refine w_getX (v := 178) gz_182_221 is_151 rd_10 rfl (by decide) rfl ?_
        refine w_aload_n gz_182_224 rfl ?_
        refine w_getX (v := 172) gz_182_225 is_151 rd_10 rfl (by decide) rfl ?_
        refine w_bipush gz_182_228 (by decide) ?_
        refine w_iload_n gz_182_230 rfl ?_
        refine w_imul gz_182_231 ⟨by omega, by omega⟩ ?_
        refine w_iload_n gz_182_232 rfl ?_
        refine w_iadd gz_182_233 ⟨by omega, by omega⟩ ?_
        refine w_iald gz_182_234 is_172 rd_71 (by omega) (by omega) (fun v7 ev7 pv7 qv7 => ?_)
        have f172 : ∀ j : Int, h207_0 172 j = h 172 j := fun j => my_fr.at gh_207_0 is_172 rfl
        have ff : Pfw h x1 → v7 < h 151 27 := fun p => by have z := p.2.2.2 k3_207_0 p207_0 (by omega) (by omega) (by omega); rw [← f172] at z; omega
        obtain ⟨vf, ef⟩ : ∃ vf : Int, vf = v7 := ⟨_, rfl⟩
        refine w_iald gz_182_235 is_178 rd_77 (by omega) (by omega) (fun v8 ev8 pv8 qv8 => ?_)
        have g5 : v8 = h207_0 178 vf := by rw [ef]; omega
        have y174 : v8 = h207_0 178 vf := g5
        have x172 : vf = h 172 (8 * x1 + p207_0) := by have z := f172 (8 * x1 + p207_0); omega
        have pk8 := hpk k3_207_0 p207_0 (by omega) (by omega)
        refine w_iast gz_182_236 is_174 rd_73 (by omega) (by omega) (by omega) (by omega) (fun h9 fh9 => ?_)
        have gh9 : my_fr [(10, 27), (73, -1), (74, -1), (75, -1), (77, -1), (78, -1), (79, -1)] h h9 := my_fr.up gh_207_0 is_174 fh9 rfl
        have f236 := fh9
        have k236 := my_up_self fh9
        refine w_aload_n gz_182_237 rfl ?_
        refine w_getX (v := 175) gz_182_238 is_151 rd_10 rfl (by decide) rfl ?_
        refine w_iload_n gz_182_241 rfl ?_
        refine w_aload_n gz_182_242 rfl ?_
        refine w_getX (v := 179) gz_182_243 is_151 rd_10 rfl (by decide) rfl ?_
        refine w_aload_n gz_182_246 rfl ?_
        refine w_getX (v := 172) gz_182_247 is_151 rd_10 rfl (by decide) rfl ?_
        refine w_bipush gz_182_250 (by decide) ?_
        refine w_iload_n gz_182_252 rfl ?_
        refine w_imul gz_182_253 ⟨by omega, by omega⟩ ?_
        refine w_iload_n gz_182_254 rfl ?_
        refine w_iadd gz_182_255 ⟨by omega, by omega⟩ ?_
        refine w_iald gz_182_256 is_172 rd_71 (by omega) (by omega) (fun v13 ev13 pv13 qv13 => ?_)
        have f172b : ∀ j : Int, h9 172 j = h 172 j := fun j => my_fr.at gh9 is_172 rfl
        have ff2 : v13 = vf := by have z1 := f172 (8 * x1 + p207_0); have z2 := f172b (8 * x1 + p207_0); omega
        refine w_iald gz_182_257 is_179 rd_78 (by omega) (by omega) (fun v14 ev14 pv14 qv14 => ?_)
        have e179 : ∀ j : Int, h9 179 j = h207_0 179 j := fun j => ((my_up_role fh9 is_179 is_174 rfl).trans (rfl : h207_0 179 j = h207_0 179 j))
        have b175 : ∀ j : Int, h9 175 j = h207_0 175 j := fun j => ((my_up_role fh9 is_175 is_174 rfl).trans (rfl : h207_0 175 j = h207_0 175 j))
        have g7 : v14 = h9 179 vf := by rw [← ff2]; omega
        have n7s : Pfw h x1 → 0 ≤ v14 → 0 ≤ h9 174 p207_0 := fun p c => by have z0 := ff p; have z := k45_207_0 vf (by omega) (by omega); have z2 := e179 vf; have z3 := p.1 vf (by omega) (by omega); omega
        have y175 : v14 = h207_0 179 vf := by have z := e179 vf; omega
        refine w_iast gz_182_258 is_175 rd_74 (by omega) (by omega) (by omega) (by omega) (fun h15 fh15 => ?_)
        have gh15 : my_fr [(10, 27), (73, -1), (74, -1), (75, -1), (77, -1), (78, -1), (79, -1)] h h15 := my_fr.up gh9 is_175 fh15 rfl
        have f258 := fh15
        refine w_aload_n gz_182_259 rfl ?_
        refine w_getX (v := 176) gz_182_260 is_151 rd_10 rfl (by decide) rfl ?_
        refine w_iload_n gz_182_263 rfl ?_
        refine w_aload_n gz_182_264 rfl ?_
        refine w_getX (v := 180) gz_182_265 is_151 rd_10 rfl (by decide) rfl ?_
        refine w_aload_n gz_182_268 rfl ?_
        refine w_getX (v := 172) gz_182_269 is_151 rd_10 rfl (by decide) rfl ?_
        refine w_bipush gz_182_272 (by decide) ?_
        refine w_iload_n gz_182_274 rfl ?_
        refine w_imul gz_182_275 ⟨by omega, by omega⟩ ?_
        refine w_iload_n gz_182_276 rfl ?_
        refine w_iadd gz_182_277 ⟨by omega, by omega⟩ ?_
        refine w_iald gz_182_278 is_172 rd_71 (by omega) (by omega) (fun v19 ev19 pv19 qv19 => ?_)
        have f172c : ∀ j : Int, h15 172 j = h 172 j := fun j => my_fr.at gh15 is_172 rfl
        have ff3 : v19 = vf := by have z1 := f172 (8 * x1 + p207_0); have z2 := f172c (8 * x1 + p207_0); omega
        refine w_bald gz_182_279 is_180 rd_79 (by omega) (by omega) (fun v20 ev20 pv20 qv20 => ?_)
        have e180 : ∀ j : Int, h15 180 j = h207_0 180 j := fun j => ((my_up_role fh15 is_180 is_175 rfl).trans ((my_up_role fh9 is_180 is_174 rfl).trans (rfl : h207_0 180 j = h207_0 180 j)))
        have y176 : v20 = h207_0 180 vf := by rw [← ff3]; have z := e180 v19; omega
        refine w_bast gz_182_280 is_176 rd_75 (by omega) (by omega) (by omega) (by omega) (fun h21 fh21 => ?_)
        have gh21 : my_fr [(10, 27), (73, -1), (74, -1), (75, -1), (77, -1), (78, -1), (79, -1)] h h21 := my_fr.up gh15 is_176 fh21 rfl
        refine w_iinc (ls' := [(2, 151), (0, x1), (0, (p207_0 + 1))]) gz_182_281 rfl gm_182 rfl rfl rfl ⟨by omega, by omega⟩ ?_
        refine w_goto (t := 207) gz_182_284 rfl ?_
        have ce22 : h21 151 27 = v1 := ((my_up_role fh21 is_151 is_176 rfl).trans ((my_up_role fh15 is_151 is_175 rfl).trans ((my_up_role fh9 is_151 is_174 rfl).trans ev1.symm)))
        have a174 : ∀ j : Int, h21 174 j = h9 174 j := fun j => ((my_up_role fh21 is_174 is_176 rfl).trans ((my_up_role fh15 is_174 is_175 rfl).trans (rfl : h9 174 j = h9 174 j)))
        have a175 : ∀ j : Int, h21 175 j = h15 175 j := fun j => ((my_up_role fh21 is_175 is_176 rfl).trans (rfl : h15 175 j = h15 175 j))
        have a178 : ∀ j : Int, h21 178 j = h207_0 178 j := fun j => ((my_up_role fh21 is_178 is_176 rfl).trans ((my_up_role fh15 is_178 is_175 rfl).trans ((my_up_role fh9 is_178 is_174 rfl).trans (rfl : h207_0 178 j = h207_0 178 j))))
        have a179 : ∀ j : Int, h21 179 j = h207_0 179 j := fun j => ((my_up_role fh21 is_179 is_176 rfl).trans ((my_up_role fh15 is_179 is_175 rfl).trans ((my_up_role fh9 is_179 is_174 rfl).trans (rfl : h207_0 179 j = h207_0 179 j))))
        exact ih_207_0 ((p207_0 + 1)) (v1) h21 (gh21) (by omega) (by omega) (by omega) (by omega) (by omega) (((my_up_role fh21 is_151 is_176 rfl).trans ((my_up_role fh15 is_151 is_175 rfl).trans ((my_up_role fh9 is_151 is_174 rfl).trans ev1.symm))).trans (by omega)) (by first | omega | (subst_vars; omega) | omega) (by first | omega | (subst_vars; omega) | omega) (by first | (intro j a b; exfalso; omega) | (intro j a b; rw [a178, a179]; exact k45_145_0 j a (by omega)) | (intro j a b; rw [a178, a179]; exact k45_207_0 j a b) | (intro j a b; rw [a178, a179]; rcases (by omega : j = p207_0 ∨ j < p207_0) with q | q <;> first | (rw [my_up_ne f164 (by omega), my_up_ne f176 (by omega), b179]; exact k45_145_0 j a q) | (rw [my_up_at f164 (by omega), my_up_at f176 (by omega)]; have z := s45_145_0 j; have z2 := c175 j; subst q; omega)) | omega) (by first | (intro p j a b; exfalso; omega) | (intro p j a b c; rw [a175] at c; rw [a174]; rcases (by omega : j = p207_0 ∨ j < p207_0) with q | q <;> first | (rw [my_up_ne f258 (by omega), b175] at c; rw [my_up_ne f236 (by omega)]; exact n7_207_0 p j a q c) | (subst q; rw [my_up_at f258 (by omega)] at c; exact n7s p c)) | omega) (by first | exact ⟨F3_0, K3_w q3_145_0.1 fh21 (by omega)⟩ | exact F3_s (W := h 151 27) r3_207_0.1 r3_207_0.2 pk8.1 pk8.2 fh9 (by omega) y174 x172 fh15 (by omega) y175 x172 fh21 (by omega) y176 x172 | assumption | omega) (by omega)
  have J145_0 : ∀ (n : Nat) (p145_0 : Int) (h145_0 : my_H), my_fr [(10, 27), (73, -1), (74, -1), (75, -1), (77, -1), (78, -1), (79, -1)] h h145_0 → 0 ≤ p145_0 → p145_0 ≤ 8 → p145_0 ≤ k151_27 → h145_0 151 27 = k151_27 → h 168 x1 = 3 → (∀ j : Int, 0 ≤ j → j < p145_0 → h145_0 178 j = h 174 j ∧ h145_0 179 j = h 175 j) → (∀ j : Int, h145_0 174 j = h 174 j ∧ h145_0 175 j = h 175 j) → (K3I h h145_0 p145_0 ∧ ∀ j : Int, Sm3 h h145_0 j j) → 9 - p145_0 ≤ (n : Int) → wp l rho d 182 145 [(2, 151), (0, x1), (0, p145_0)] [] h145_0 Q := by
    intro n
    induction n with
    | zero => intro p145_0 h145_0 gh_145_0 q0_145_0 q1_145_0 q2_145_0 c151_27_145_0 k3_145_0 k45_145_0 s45_145_0 q3_145_0 hm_145_0; exfalso; omega
    | succ n ih_145_0 =>
      intro p145_0 h145_0 gh_145_0 q0_145_0 q1_145_0 q2_145_0 c151_27_145_0 k3_145_0 k45_145_0 s45_145_0 q3_145_0 hm_145_0
      refine w_iload_n gz_182_145 rfl ?_
      refine w_aload_n gz_182_146 rfl ?_
      refine v_getI (j := 27) gz_182_147 rfl is_151 rd_10 rfl (fun v23 ev23 pv23 qv23 => ?_)
      have zv23 := ev23.trans c151_27_145_0
      refine w_icge (t := 195) gz_182_150 rfl (fun u24 => ?_) (fun u24 => ?_)
      ·
        refine w_aload_n gz_182_195 rfl ?_
        refine w_aload_n gz_182_196 rfl ?_
        refine w_getX (v := 171) gz_182_197 is_151 rd_10 rfl (by decide) rfl ?_
        refine w_iload_n gz_182_200 rfl ?_
        refine w_iald gz_182_201 is_171 rd_70 (by omega) (by omega) (fun v26 ev26 pv26 qv26 => ?_)
        have a171 : h145_0 171 x1 = h 171 x1 := my_fr.at gh_145_0 is_171 rfl
        refine v_putI (j := 27) gz_182_202 rfl is_151 rd_10 rfl (by omega) (by omega) rfl (fun h27 fh27 => ?_)
        have gh27 : my_fr [(10, 27), (73, -1), (74, -1), (75, -1), (77, -1), (78, -1), (79, -1)] h h27 := my_fr.up gh_145_0 is_151 fh27 rfl
        refine w_iconst gz_182_205 (by decide) ?_
        refine w_istore_n (ls' := [(2, 151), (0, x1), (0, 0)]) gz_182_206 gm_182 rfl rfl rfl ?_
        have ce28 : h27 151 27 = v26 := (my_up_self fh27)
        have a174 : ∀ j : Int, h27 174 j = h145_0 174 j := fun j => ((my_up_role fh27 is_174 is_151 rfl).trans (rfl : h145_0 174 j = h145_0 174 j))
        have a175 : ∀ j : Int, h27 175 j = h145_0 175 j := fun j => ((my_up_role fh27 is_175 is_151 rfl).trans (rfl : h145_0 175 j = h145_0 175 j))
        have a178 : ∀ j : Int, h27 178 j = h145_0 178 j := fun j => ((my_up_role fh27 is_178 is_151 rfl).trans (rfl : h145_0 178 j = h145_0 178 j))
        have a179 : ∀ j : Int, h27 179 j = h145_0 179 j := fun j => ((my_up_role fh27 is_179 is_151 rfl).trans (rfl : h145_0 179 j = h145_0 179 j))
        exact J207_0 9 (0) (v26) h27 (gh27) (by omega) (by omega) (by omega) (by omega) (by omega) ((my_up_self fh27).trans (by omega)) (by first | omega | (subst_vars; omega) | omega) (by first | omega | (subst_vars; omega) | omega) (by first | (intro j a b; exfalso; omega) | (intro j a b; rw [a178, a179]; exact k45_145_0 j a (by omega)) | (intro j a b; rw [a178, a179]; exact k45_207_0 j a b) | (intro j a b; rw [a178, a179]; rcases (by omega : j = p207_0 ∨ j < p207_0) with q | q <;> first | (rw [my_up_ne f164 (by omega), my_up_ne f176 (by omega), b179]; exact k45_145_0 j a q) | (rw [my_up_at f164 (by omega), my_up_at f176 (by omega)]; have z := s45_145_0 j; have z2 := c175 j; subst q; omega)) | omega) (by first | (intro p j a b; exfalso; omega) | (intro p j a b c; rw [a175] at c; rw [a174]; rcases (by omega : j = p207_0 ∨ j < p207_0) with q | q <;> first | (rw [my_up_ne f258 (by omega), b175] at c; rw [my_up_ne f236 (by omega)]; exact n7_207_0 p j a q c) | (subst q; rw [my_up_at f258 (by omega)] at c; exact n7s p c)) | omega) (by first | exact ⟨F3_0, K3_w q3_145_0.1 fh27 (by omega)⟩ | exact F3_s (W := h 151 27) r3_207_0.1 r3_207_0.2 pk8.1 pk8.2 no_such_saying (by omega) y174 x172 no_such_saying (by omega) y175 x172 fh27 (by omega) y176 x172 | assumption | omega) (by omega)
      ·
        refine w_aload_n gz_182_153 rfl ?_
        refine w_getX (v := 178) gz_182_154 is_151 rd_10 rfl (by decide) rfl ?_
        refine w_iload_n gz_182_157 rfl ?_
        refine w_aload_n gz_182_158 rfl ?_
        refine w_getX (v := 174) gz_182_159 is_151 rd_10 rfl (by decide) rfl ?_
        refine w_iload_n gz_182_162 rfl ?_
        refine w_iald gz_182_163 is_174 rd_73 (by omega) (by omega) (fun v31 ev31 pv31 qv31 => ?_)
        refine w_iast gz_182_164 is_178 rd_77 (by omega) (by omega) (by omega) (by omega) (fun h32 fh32 => ?_)
        have gh32 : my_fr [(10, 27), (73, -1), (74, -1), (75, -1), (77, -1), (78, -1), (79, -1)] h h32 := my_fr.up gh_145_0 is_178 fh32 rfl
        have f164 := fh32
        refine w_aload_n gz_182_165 rfl ?_
        refine w_getX (v := 179) gz_182_166 is_151 rd_10 rfl (by decide) rfl ?_
        refine w_iload_n gz_182_169 rfl ?_
        refine w_aload_n gz_182_170 rfl ?_
        refine w_getX (v := 175) gz_182_171 is_151 rd_10 rfl (by decide) rfl ?_
        refine w_iload_n gz_182_174 rfl ?_
        refine w_iald gz_182_175 is_175 rd_74 (by omega) (by omega) (fun v35 ev35 pv35 qv35 => ?_)
        have b179 : ∀ j : Int, h32 179 j = h145_0 179 j := fun j => ((my_up_role fh32 is_179 is_178 rfl).trans (rfl : h145_0 179 j = h145_0 179 j))
        have c175 : ∀ j : Int, h32 175 j = h145_0 175 j := fun j => ((my_up_role fh32 is_175 is_178 rfl).trans (rfl : h145_0 175 j = h145_0 175 j))
        have z175 : v35 = h145_0 175 p145_0 := by have z := c175 p145_0; omega
        refine w_iast gz_182_176 is_179 rd_78 (by omega) (by omega) (by omega) (by omega) (fun h36 fh36 => ?_)
        have gh36 : my_fr [(10, 27), (73, -1), (74, -1), (75, -1), (77, -1), (78, -1), (79, -1)] h h36 := my_fr.up gh32 is_179 fh36 rfl
        have f176 := fh36
        refine w_aload_n gz_182_177 rfl ?_
        refine w_getX (v := 180) gz_182_178 is_151 rd_10 rfl (by decide) rfl ?_
        refine w_iload_n gz_182_181 rfl ?_
        refine w_aload_n gz_182_182 rfl ?_
        refine w_getX (v := 176) gz_182_183 is_151 rd_10 rfl (by decide) rfl ?_
        refine w_iload_n gz_182_186 rfl ?_
        refine w_bald gz_182_187 is_176 rd_75 (by omega) (by omega) (fun v39 ev39 pv39 qv39 => ?_)
        have c176 : ∀ j : Int, h36 176 j = h145_0 176 j := fun j => ((my_up_role fh36 is_176 is_179 rfl).trans ((my_up_role fh32 is_176 is_178 rfl).trans (rfl : h145_0 176 j = h145_0 176 j)))
        have z176 : v39 = h145_0 176 p145_0 := by have z := c176 p145_0; omega
        refine w_bast gz_182_188 is_180 rd_79 (by omega) (by omega) (by omega) (by omega) (fun h40 fh40 => ?_)
        have gh40 : my_fr [(10, 27), (73, -1), (74, -1), (75, -1), (77, -1), (78, -1), (79, -1)] h h40 := my_fr.up gh36 is_180 fh40 rfl
        refine w_iinc (ls' := [(2, 151), (0, x1), (0, (p145_0 + 1))]) gz_182_189 rfl gm_182 rfl rfl rfl ⟨by omega, by omega⟩ ?_
        refine w_goto (t := 145) gz_182_192 rfl ?_
        have a174 : ∀ j : Int, h40 174 j = h145_0 174 j := fun j => ((my_up_role fh40 is_174 is_180 rfl).trans ((my_up_role fh36 is_174 is_179 rfl).trans ((my_up_role fh32 is_174 is_178 rfl).trans (rfl : h145_0 174 j = h145_0 174 j))))
        have a175 : ∀ j : Int, h40 175 j = h145_0 175 j := fun j => ((my_up_role fh40 is_175 is_180 rfl).trans ((my_up_role fh36 is_175 is_179 rfl).trans ((my_up_role fh32 is_175 is_178 rfl).trans (rfl : h145_0 175 j = h145_0 175 j))))
        have a178 : ∀ j : Int, h40 178 j = h32 178 j := fun j => ((my_up_role fh40 is_178 is_180 rfl).trans ((my_up_role fh36 is_178 is_179 rfl).trans (rfl : h32 178 j = h32 178 j)))
        have a179 : ∀ j : Int, h40 179 j = h36 179 j := fun j => ((my_up_role fh40 is_179 is_180 rfl).trans (rfl : h36 179 j = h36 179 j))
        exact ih_145_0 ((p145_0 + 1)) h40 (gh40) (by omega) (by omega) (by omega) (((my_up_role fh40 is_151 is_180 rfl).trans ((my_up_role fh36 is_151 is_179 rfl).trans ((my_up_role fh32 is_151 is_178 rfl).trans ev23.symm))).trans (by omega)) (by first | omega | (subst_vars; omega) | omega) (by first | (intro j a b; exfalso; omega) | (intro j a b; rw [a178, a179]; exact k45_145_0 j a (by omega)) | (intro j a b; rw [a178, a179]; exact k45_207_0 j a b) | (intro j a b; rw [a178, a179]; rcases (by omega : j = p145_0 ∨ j < p145_0) with q | q <;> first | (rw [my_up_ne f164 (by omega), my_up_ne f176 (by omega), b179]; exact k45_145_0 j a q) | (rw [my_up_at f164 (by omega), my_up_at f176 (by omega)]; have z := s45_145_0 j; have z2 := c175 j; subst q; omega)) | omega) (by first | (intro j; exact ⟨a174 j, a175 j⟩) | (intro j; rw [a174, a175]; exact s45_145_0 j) | omega) (by first | exact ⟨K3_0, fun j => ⟨rfl, rfl, rfl⟩⟩ | exact K3_s q3_145_0.1 q3_145_0.2 fh32 (by omega) (by omega) fh36 (by omega) (by omega) fh40 (by omega) (by omega) | assumption | omega) (by omega)
  have J64_0 : ∀ (n : Nat) (p64_0 p64_1 : Int) (h64_0 : my_H), my_fr [(10, 27), (73, -1), (74, -1), (75, -1), (77, -1), (78, -1), (79, -1)] h h64_0 → 1 ≤ p64_0 → p64_0 ≤ 4 → 0 ≤ p64_1 → p64_1 ≤ 8 → p64_0 ≤ (p64_1 + 1) → k151_27 ≤ p64_1 → h64_0 151 27 = p64_1 → h 168 x1 = 4 → h64_0 151 27 = h 151 27 + p64_0 - 1 → p64_0 ≤ h 157 (h 170 x1) → (Pfw h x1 → FwW h64_0 (h64_0 151 27)) → P4I h h64_0 (h 151 27) (h 170 x1) p64_0 → 5 - p64_0 ≤ (n : Int) → wp l rho d 182 64 [(2, 151), (0, x1), (0, p64_0)] [] h64_0 Q := by
    intro n
    induction n with
    | zero => intro p64_0 p64_1 h64_0 gh_64_0 q0_64_0 q1_64_0 q2_64_0 q3_64_0 q4_64_0 q5_64_0 c151_27_64_0 k4_64_0 wd_64_0 lc_64_0 j4_64_0 q4_64_0 hm_64_0; exfalso; omega
    | succ n ih_64_0 =>
      intro p64_0 p64_1 h64_0 gh_64_0 q0_64_0 q1_64_0 q2_64_0 q3_64_0 q4_64_0 q5_64_0 c151_27_64_0 k4_64_0 wd_64_0 lc_64_0 j4_64_0 q4_64_0 hm_64_0
      have a170 : h64_0 170 x1 = h 170 x1 := my_fr.at gh_64_0 is_170 rfl
      have a157 : h64_0 157 (h 170 x1) = h 157 (h 170 x1) := my_fr.at gh_64_0 is_157 rfl
      have pq := pj k4_64_0
      refine w_iload_n gz_182_64 rfl ?_
      refine w_aload_n gz_182_65 rfl ?_
      refine w_getX (v := 157) gz_182_66 is_151 rd_10 rfl (by decide) rfl ?_
      refine w_aload_n gz_182_69 rfl ?_
      refine w_getX (v := 170) gz_182_70 is_151 rd_10 rfl (by decide) rfl ?_
      refine w_iload_n gz_182_73 rfl ?_
      refine w_iald gz_182_74 is_170 rd_69 (by omega) (by omega) (fun v43 ev43 pv43 qv43 => ?_)
      have a170b : h64_0 170 x1 = h 170 x1 := my_fr.at gh_64_0 is_170 rfl
      have e75 : v43 = h 170 x1 := by omega
      have f75 : h64_0 157 v43 = h 157 v43 := my_fr.at gh_64_0 is_157 rfl
      have pq2 := pj k4_64_0
      have hi44 : 0 ≤ v43 := by omega
      have hi45 : v43 ≤ 2 := by omega
      refine w_iald gz_182_75 is_157 rd_56 (by omega) (by omega) (fun v46 ev46 pv46 qv46 => ?_)
      have a76 : v46 = h 157 (h 170 x1) := by rw [← e75]; omega
      refine w_icge (t := 130) gz_182_76 rfl (fun u47 => ?_) (fun u47 => ?_)
      ·
        refine w_goto (t := 287) gz_182_130 rfl ?_
        have ce48 : h64_0 151 27 = p64_1 := c151_27_64_0
        exact w_vret gz_182_287 gm_182 (k0 h64_0 (gh_64_0) (by first | exact ⟨fun _ j a c => q5_17_0 j a (by omega), fun z => by omega, fun z => by omega, fun _ _ z => by omega⟩ | exact ⟨fun z => by omega, fun _ => (by have q := q4_64_0; rw [show p64_0 = h 157 (h 170 x1) by omega] at q; exact q), fun z => by omega, fun _ z => by omega⟩ | exact ⟨fun z => by omega, fun z => by omega, fun _ j a c => r3_207_0.1 j a (by omega), fun z => by omega⟩ | exact ⟨fun z => by omega, fun z => by omega, fun z => by omega, fun _ _ _ j => ⟨rfl, rfl, rfl⟩⟩ | exact (by first | (intro p; exact p.1) | exact j4_64_0 | (intro p j a b c; exact n7_207_0 p j a (by omega) c) | (intro p j a b c; exfalso; have z := s7_17_0 j a (by omega); omega) | (unfold ms; (repeat (first | rw [if_pos (by omega)] | rw [if_neg (by omega)])); (try omega))) | assumption | omega) (by first | exact ⟨fun _ j a c => q5_17_0 j a (by omega), fun z => by omega, fun z => by omega, fun _ _ z => by omega⟩ | exact ⟨fun z => by omega, fun _ => (by have q := q4_64_0; rw [show p64_0 = h 157 (h 170 x1) by omega] at q; exact q), fun z => by omega, fun _ z => by omega⟩ | exact ⟨fun z => by omega, fun z => by omega, fun _ j a c => r3_207_0.1 j a (by omega), fun z => by omega⟩ | exact ⟨fun z => by omega, fun z => by omega, fun z => by omega, fun _ _ _ j => ⟨rfl, rfl, rfl⟩⟩ | exact (by first | (intro p; exact p.1) | exact j4_64_0 | (intro p j a b c; exact n7_207_0 p j a (by omega) c) | (intro p j a b c; exfalso; have z := s7_17_0 j a (by omega); omega) | (unfold ms; (repeat (first | rw [if_pos (by omega)] | rw [if_neg (by omega)])); (try omega))) | assumption | omega) (by first | exact ⟨fun _ j a c => q5_17_0 j a (by omega), fun z => by omega, fun z => by omega, fun _ _ z => by omega⟩ | exact ⟨fun z => by omega, fun _ => (by have q := q4_64_0; rw [show p64_0 = h 157 (h 170 x1) by omega] at q; exact q), fun z => by omega, fun _ z => by omega⟩ | exact ⟨fun z => by omega, fun z => by omega, fun _ j a c => r3_207_0.1 j a (by omega), fun z => by omega⟩ | exact ⟨fun z => by omega, fun z => by omega, fun z => by omega, fun _ _ _ j => ⟨rfl, rfl, rfl⟩⟩ | exact (by first | (intro p; exact p.1) | exact j4_64_0 | (intro p j a b c; exact n7_207_0 p j a (by omega) c) | (intro p j a b c; exfalso; have z := s7_17_0 j a (by omega); omega) | (unfold ms; (repeat (first | rw [if_pos (by omega)] | rw [if_neg (by omega)])); (try omega))) | assumption | omega))
      ·
        refine w_aload_n gz_182_79 rfl ?_
        refine w_getX (v := 174) gz_182_80 is_151 rd_10 rfl (by decide) rfl ?_
        refine w_aload_n gz_182_83 rfl ?_
        refine v_getI (j := 27) gz_182_84 rfl is_151 rd_10 rfl (fun v50 ev50 pv50 qv50 => ?_)
        have zv50 := ev50.trans c151_27_64_0
        refine w_aload_n gz_182_87 rfl ?_
        refine w_getX (v := 170) gz_182_88 is_151 rd_10 rfl (by decide) rfl ?_
        refine w_iload_n gz_182_91 rfl ?_
        refine w_iald gz_182_92 is_170 rd_69 (by omega) (by omega) (fun v52 ev52 pv52 qv52 => ?_)
        have zv52 := ev52.trans ev43.symm
        have hi53 : 0 ≤ v50 := by first | omega | (subst_vars; omega) | grind | omega
        have hi54 : v50 ≤ 7 := by first | omega | (subst_vars; omega) | grind | omega
        refine w_iast gz_182_93 is_174 rd_73 (by omega) (by omega) (by omega) (by omega) (fun h55 fh55 => ?_)
        have gh55 : my_fr [(10, 27), (73, -1), (74, -1), (75, -1), (77, -1), (78, -1), (79, -1)] h h55 := my_fr.up gh_64_0 is_174 fh55 rfl
        have f93 := fh55
        refine w_aload_n gz_182_94 rfl ?_
        refine w_getX (v := 175) gz_182_95 is_151 rd_10 rfl (by decide) rfl ?_
        refine w_aload_n gz_182_98 rfl ?_
        refine v_getI (j := 27) gz_182_99 rfl is_151 rd_10 rfl (fun v57 ev57 pv57 qv57 => ?_)
        have zv57 := ev57.trans ((my_up_role fh55 is_151 is_174 rfl).trans ev50.symm)
        refine w_iload_n gz_182_102 rfl ?_
        have b175 : ∀ j : Int, h55 175 j = h64_0 175 j := fun j => ((my_up_role fh55 is_175 is_174 rfl).trans (rfl : h64_0 175 j = h64_0 175 j))
        refine w_iast gz_182_103 is_175 rd_74 (by omega) (by omega) (by omega) (by omega) (fun h58 fh58 => ?_)
        have gh58 : my_fr [(10, 27), (73, -1), (74, -1), (75, -1), (77, -1), (78, -1), (79, -1)] h h58 := my_fr.up gh55 is_175 fh58 rfl
        have f103 := fh58
        refine w_aload_n gz_182_104 rfl ?_
        refine w_getX (v := 176) gz_182_105 is_151 rd_10 rfl (by decide) rfl ?_
        refine w_aload_n gz_182_108 rfl ?_
        refine v_getI (j := 27) gz_182_109 rfl is_151 rd_10 rfl (fun v60 ev60 pv60 qv60 => ?_)
        have zv60 := ev60.trans ((my_up_role fh58 is_151 is_175 rfl).trans ev57.symm)
        refine w_iconst gz_182_112 (by decide) ?_
        refine w_bast gz_182_113 is_176 rd_75 (by omega) (by omega) (by omega) (by omega) (fun h61 fh61 => ?_)
        have gh61 : my_fr [(10, 27), (73, -1), (74, -1), (75, -1), (77, -1), (78, -1), (79, -1)] h h61 := my_fr.up gh58 is_176 fh61 rfl
        refine w_aload_n gz_182_114 rfl ?_
        refine w_dup gz_182_115 rfl ?_
        refine v_getI (j := 27) gz_182_116 rfl is_151 rd_10 rfl (fun v62 ev62 pv62 qv62 => ?_)
        have zv62 := ev62.trans ((my_up_role fh61 is_151 is_176 rfl).trans ev60.symm)
        refine w_iconst gz_182_119 (by decide) ?_
        refine w_iadd gz_182_120 ⟨by omega, by omega⟩ ?_
        refine v_putI (j := 27) gz_182_121 rfl is_151 rd_10 rfl (by omega) (by omega) rfl (fun h63 fh63 => ?_)
        have gh63 : my_fr [(10, 27), (73, -1), (74, -1), (75, -1), (77, -1), (78, -1), (79, -1)] h h63 := my_fr.up gh61 is_151 fh63 rfl
        refine w_iinc (ls' := [(2, 151), (0, x1), (0, (p64_0 + 1))]) gz_182_124 rfl gm_182 rfl rfl rfl ⟨by omega, by omega⟩ ?_
        refine w_goto (t := 64) gz_182_127 rfl ?_
        have ce64 : h63 151 27 = (v62 + 1) := (my_up_self fh63)
        have a174 : ∀ j : Int, h63 174 j = h55 174 j := fun j => ((my_up_role fh63 is_174 is_151 rfl).trans ((my_up_role fh61 is_174 is_176 rfl).trans ((my_up_role fh58 is_174 is_175 rfl).trans (rfl : h55 174 j = h55 174 j))))
        have a175 : ∀ j : Int, h63 175 j = h58 175 j := fun j => ((my_up_role fh63 is_175 is_151 rfl).trans ((my_up_role fh61 is_175 is_176 rfl).trans (rfl : h58 175 j = h58 175 j)))
        have a178 : ∀ j : Int, h63 178 j = h64_0 178 j := fun j => ((my_up_role fh63 is_178 is_151 rfl).trans ((my_up_role fh61 is_178 is_176 rfl).trans ((my_up_role fh58 is_178 is_175 rfl).trans ((my_up_role fh55 is_178 is_174 rfl).trans (rfl : h64_0 178 j = h64_0 178 j)))))
        have a179 : ∀ j : Int, h63 179 j = h64_0 179 j := fun j => ((my_up_role fh63 is_179 is_151 rfl).trans ((my_up_role fh61 is_179 is_176 rfl).trans ((my_up_role fh58 is_179 is_175 rfl).trans ((my_up_role fh55 is_179 is_174 rfl).trans (rfl : h64_0 179 j = h64_0 179 j)))))
        exact ih_64_0 ((p64_0 + 1)) ((v62 + 1)) h63 (gh63) (by omega) (by omega) (by omega) (by omega) (by omega) (by omega) ((my_up_self fh63).trans (by omega)) (by first | omega | (subst_vars; omega) | omega) (by first | omega | (subst_vars; omega) | omega) (by first | omega | (subst_vars; omega) | omega) (by first | (intro p; exact p.1) | (intro p; exact FwW_s (j4_64_0 p) (fun j q => ⟨(a174 j).trans (my_up_ne f93 (by omega)), (a175 j).trans ((my_up_ne f103 (by omega)).trans (b175 j))⟩) (by rw [a174, my_up_at f93 (by omega)]; omega) (by omega)) | omega) (by first | exact P4_0 | exact P4_s (by omega) q4_64_0 fh55 (by omega) (by omega) fh58 (by omega) (by omega) fh61 (by omega) fh63 | assumption | omega) (by omega)
  have J17_0 : ∀ (n : Nat) (p17_0 : Int) (h17_0 : my_H), my_fr [(10, 27), (73, -1), (74, -1), (75, -1), (77, -1), (78, -1), (79, -1)] h h17_0 → 0 ≤ p17_0 → p17_0 ≤ 2 → h17_0 151 27 = 2 → h 168 x1 = 5 → h17_0 151 27 = 2 → (∀ j : Int, 0 ≤ j → j < p17_0 → h17_0 175 j = -1) → P5I h17_0 p17_0 → 3 - p17_0 ≤ (n : Int) → wp l rho d 182 17 [(2, 151), (0, x1), (0, p17_0)] [] h17_0 Q := by
    intro n
    induction n with
    | zero => intro p17_0 h17_0 gh_17_0 q0_17_0 q1_17_0 c151_27_17_0 k5_17_0 w5_17_0 s7_17_0 q5_17_0 hm_17_0; exfalso; omega
    | succ n ih_17_0 =>
      intro p17_0 h17_0 gh_17_0 q0_17_0 q1_17_0 c151_27_17_0 k5_17_0 w5_17_0 s7_17_0 q5_17_0 hm_17_0
      refine w_iload_n gz_182_17 rfl ?_
      refine w_iconst gz_182_18 (by decide) ?_
      refine w_icge (t := 49) gz_182_19 rfl (fun u65 => ?_) (fun u65 => ?_)
      ·
        refine w_goto (t := 287) gz_182_49 rfl ?_
        have ce66 : h17_0 151 27 = 2 := c151_27_17_0
        exact w_vret gz_182_287 gm_182 (k0 h17_0 (gh_17_0) (by first | exact ⟨fun _ j a c => q5_17_0 j a (by omega), fun z => by omega, fun z => by omega, fun _ _ z => by omega⟩ | exact ⟨fun z => by omega, fun _ => (by have q := q4_64_0; rw [show p17_0 = h 157 (h 170 x1) by omega] at q; exact q), fun z => by omega, fun _ z => by omega⟩ | exact ⟨fun z => by omega, fun z => by omega, fun _ j a c => r3_207_0.1 j a (by omega), fun z => by omega⟩ | exact ⟨fun z => by omega, fun z => by omega, fun z => by omega, fun _ _ _ j => ⟨rfl, rfl, rfl⟩⟩ | exact (by first | (intro p; exact p.1) | exact j4_64_0 | (intro p j a b c; exact n7_207_0 p j a (by omega) c) | (intro p j a b c; exfalso; have z := s7_17_0 j a (by omega); omega) | (unfold ms; (repeat (first | rw [if_pos (by omega)] | rw [if_neg (by omega)])); (try omega))) | assumption | omega) (by first | exact ⟨fun _ j a c => q5_17_0 j a (by omega), fun z => by omega, fun z => by omega, fun _ _ z => by omega⟩ | exact ⟨fun z => by omega, fun _ => (by have q := q4_64_0; rw [show p17_0 = h 157 (h 170 x1) by omega] at q; exact q), fun z => by omega, fun _ z => by omega⟩ | exact ⟨fun z => by omega, fun z => by omega, fun _ j a c => r3_207_0.1 j a (by omega), fun z => by omega⟩ | exact ⟨fun z => by omega, fun z => by omega, fun z => by omega, fun _ _ _ j => ⟨rfl, rfl, rfl⟩⟩ | exact (by first | (intro p; exact p.1) | exact j4_64_0 | (intro p j a b c; exact n7_207_0 p j a (by omega) c) | (intro p j a b c; exfalso; have z := s7_17_0 j a (by omega); omega) | (unfold ms; (repeat (first | rw [if_pos (by omega)] | rw [if_neg (by omega)])); (try omega))) | assumption | omega) (by first | exact ⟨fun _ j a c => q5_17_0 j a (by omega), fun z => by omega, fun z => by omega, fun _ _ z => by omega⟩ | exact ⟨fun z => by omega, fun _ => (by have q := q4_64_0; rw [show p17_0 = h 157 (h 170 x1) by omega] at q; exact q), fun z => by omega, fun _ z => by omega⟩ | exact ⟨fun z => by omega, fun z => by omega, fun _ j a c => r3_207_0.1 j a (by omega), fun z => by omega⟩ | exact ⟨fun z => by omega, fun z => by omega, fun z => by omega, fun _ _ _ j => ⟨rfl, rfl, rfl⟩⟩ | exact (by first | (intro p; exact p.1) | exact j4_64_0 | (intro p j a b c; exact n7_207_0 p j a (by omega) c) | (intro p j a b c; exfalso; have z := s7_17_0 j a (by omega); omega) | (unfold ms; (repeat (first | rw [if_pos (by omega)] | rw [if_neg (by omega)])); (try omega))) | assumption | omega))
      ·
        refine w_aload_n gz_182_22 rfl ?_
        refine w_getX (v := 174) gz_182_23 is_151 rd_10 rfl (by decide) rfl ?_
        refine w_iload_n gz_182_26 rfl ?_
        refine w_iconst gz_182_27 (by decide) ?_
        refine w_iast gz_182_28 is_174 rd_73 (by omega) (by omega) (by omega) (by omega) (fun h68 fh68 => ?_)
        have gh68 : my_fr [(10, 27), (73, -1), (74, -1), (75, -1), (77, -1), (78, -1), (79, -1)] h h68 := my_fr.up gh_17_0 is_174 fh68 rfl
        refine w_aload_n gz_182_29 rfl ?_
        refine w_getX (v := 175) gz_182_30 is_151 rd_10 rfl (by decide) rfl ?_
        refine w_iload_n gz_182_33 rfl ?_
        refine w_iconst gz_182_34 (by decide) ?_
        have b175 : ∀ j : Int, h68 175 j = h17_0 175 j := fun j => ((my_up_role fh68 is_175 is_174 rfl).trans (rfl : h17_0 175 j = h17_0 175 j))
        refine w_iast gz_182_35 is_175 rd_74 (by omega) (by omega) (by omega) (by omega) (fun h70 fh70 => ?_)
        have gh70 : my_fr [(10, 27), (73, -1), (74, -1), (75, -1), (77, -1), (78, -1), (79, -1)] h h70 := my_fr.up gh68 is_175 fh70 rfl
        have f35 := fh70
        refine w_aload_n gz_182_36 rfl ?_
        refine w_getX (v := 176) gz_182_37 is_151 rd_10 rfl (by decide) rfl ?_
        refine w_iload_n gz_182_40 rfl ?_
        refine w_iconst gz_182_41 (by decide) ?_
        refine w_bast gz_182_42 is_176 rd_75 (by omega) (by omega) (by omega) (by omega) (fun h72 fh72 => ?_)
        have gh72 : my_fr [(10, 27), (73, -1), (74, -1), (75, -1), (77, -1), (78, -1), (79, -1)] h h72 := my_fr.up gh70 is_176 fh72 rfl
        refine w_iinc (ls' := [(2, 151), (0, x1), (0, (p17_0 + 1))]) gz_182_43 rfl gm_182 rfl rfl rfl ⟨by omega, by omega⟩ ?_
        refine w_goto (t := 17) gz_182_46 rfl ?_
        have ce73 : h72 151 27 = 2 := ((my_up_role fh72 is_151 is_176 rfl).trans ((my_up_role fh70 is_151 is_175 rfl).trans ((my_up_role fh68 is_151 is_174 rfl).trans c151_27_17_0)))
        have a174 : ∀ j : Int, h72 174 j = h68 174 j := fun j => ((my_up_role fh72 is_174 is_176 rfl).trans ((my_up_role fh70 is_174 is_175 rfl).trans (rfl : h68 174 j = h68 174 j)))
        have a175 : ∀ j : Int, h72 175 j = h70 175 j := fun j => ((my_up_role fh72 is_175 is_176 rfl).trans (rfl : h70 175 j = h70 175 j))
        have a178 : ∀ j : Int, h72 178 j = h17_0 178 j := fun j => ((my_up_role fh72 is_178 is_176 rfl).trans ((my_up_role fh70 is_178 is_175 rfl).trans ((my_up_role fh68 is_178 is_174 rfl).trans (rfl : h17_0 178 j = h17_0 178 j))))
        have a179 : ∀ j : Int, h72 179 j = h17_0 179 j := fun j => ((my_up_role fh72 is_179 is_176 rfl).trans ((my_up_role fh70 is_179 is_175 rfl).trans ((my_up_role fh68 is_179 is_174 rfl).trans (rfl : h17_0 179 j = h17_0 179 j))))
        exact ih_17_0 ((p17_0 + 1)) h72 (gh72) (by omega) (by omega) (((my_up_role fh72 is_151 is_176 rfl).trans ((my_up_role fh70 is_151 is_175 rfl).trans ((my_up_role fh68 is_151 is_174 rfl).trans c151_27_17_0))).trans (by omega)) (by first | omega | (subst_vars; omega) | omega) (by first | omega | (subst_vars; omega) | omega) (by first | (intro j a b; exfalso; omega) | (intro j a b; rw [a175]; rcases (by omega : j = p17_0 ∨ j < p17_0) with q | q <;> first | (rw [my_up_ne f35 (by omega), b175]; exact s7_17_0 j a q) | (rw [my_up_at f35 (by omega)])) | omega) (by first | exact P5_0 | exact P5_s q5_17_0 fh68 (by omega) fh70 (by omega) fh72 (by omega) | assumption | omega) (by omega)
  refine w_aload_n gz_182_0 rfl ?_
  refine w_getX (v := 168) gz_182_1 is_151 rd_10 rfl (by decide) rfl ?_
  refine w_iload_n gz_182_4 rfl ?_
  refine w_iald gz_182_5 is_168 rd_67 (by omega) (by omega) (fun v75 ev75 pv75 qv75 => ?_)
  refine w_iconst gz_182_6 (by decide) ?_
  refine w_icne (t := 52) gz_182_7 rfl (fun u76 => ?_) (fun u76 => ?_)
  ·
    refine w_aload_n gz_182_52 rfl ?_
    refine w_getX (v := 168) gz_182_53 is_151 rd_10 rfl (by decide) rfl ?_
    refine w_iload_n gz_182_56 rfl ?_
    refine w_iald gz_182_57 is_168 rd_67 (by omega) (by omega) (fun v78 ev78 pv78 qv78 => ?_)
    have zv78 := ev78.trans ev75.symm
    refine w_iconst gz_182_58 (by decide) ?_
    refine w_icne (t := 133) gz_182_59 rfl (fun u79 => ?_) (fun u79 => ?_)
    ·
      refine w_aload_n gz_182_133 rfl ?_
      refine w_getX (v := 168) gz_182_134 is_151 rd_10 rfl (by decide) rfl ?_
      refine w_iload_n gz_182_137 rfl ?_
      refine w_iald gz_182_138 is_168 rd_67 (by omega) (by omega) (fun v81 ev81 pv81 qv81 => ?_)
      have zv81 := ev81.trans ev78.symm
      refine w_iconst gz_182_139 (by decide) ?_
      refine w_icne (t := 287) gz_182_140 rfl (fun u82 => ?_) (fun u82 => ?_)
      ·
        have ce83 : h 151 27 = k151_27 := ek151_27.symm
        exact w_vret gz_182_287 gm_182 (k0 h (my_fr.rf) (by first | exact ⟨fun _ j a c => q5_17_0 j a (by omega), fun z => by omega, fun z => by omega, fun _ _ z => by omega⟩ | exact ⟨fun z => by omega, fun _ => (by have q := q4_64_0; rw [show 0 = h 157 (h 170 x1) by omega] at q; exact q), fun z => by omega, fun _ z => by omega⟩ | exact ⟨fun z => by omega, fun z => by omega, fun _ j a c => r3_207_0.1 j a (by omega), fun z => by omega⟩ | exact ⟨fun z => by omega, fun z => by omega, fun z => by omega, fun _ _ _ j => ⟨rfl, rfl, rfl⟩⟩ | exact (by first | (intro p; exact p.1) | exact j4_64_0 | (intro p j a b c; exact n7_207_0 p j a (by omega) c) | (intro p j a b c; exfalso; have z := s7_17_0 j a (by omega); omega) | (unfold ms; (repeat (first | rw [if_pos (by omega)] | rw [if_neg (by omega)])); (try omega))) | assumption | omega) (by first | exact ⟨fun _ j a c => q5_17_0 j a (by omega), fun z => by omega, fun z => by omega, fun _ _ z => by omega⟩ | exact ⟨fun z => by omega, fun _ => (by have q := q4_64_0; rw [show 0 = h 157 (h 170 x1) by omega] at q; exact q), fun z => by omega, fun _ z => by omega⟩ | exact ⟨fun z => by omega, fun z => by omega, fun _ j a c => r3_207_0.1 j a (by omega), fun z => by omega⟩ | exact ⟨fun z => by omega, fun z => by omega, fun z => by omega, fun _ _ _ j => ⟨rfl, rfl, rfl⟩⟩ | exact (by first | (intro p; exact p.1) | exact j4_64_0 | (intro p j a b c; exact n7_207_0 p j a (by omega) c) | (intro p j a b c; exfalso; have z := s7_17_0 j a (by omega); omega) | (unfold ms; (repeat (first | rw [if_pos (by omega)] | rw [if_neg (by omega)])); (try omega))) | assumption | omega) (by first | exact ⟨fun _ j a c => q5_17_0 j a (by omega), fun z => by omega, fun z => by omega, fun _ _ z => by omega⟩ | exact ⟨fun z => by omega, fun _ => (by have q := q4_64_0; rw [show 0 = h 157 (h 170 x1) by omega] at q; exact q), fun z => by omega, fun _ z => by omega⟩ | exact ⟨fun z => by omega, fun z => by omega, fun _ j a c => r3_207_0.1 j a (by omega), fun z => by omega⟩ | exact ⟨fun z => by omega, fun z => by omega, fun z => by omega, fun _ _ _ j => ⟨rfl, rfl, rfl⟩⟩ | exact (by first | (intro p; exact p.1) | exact j4_64_0 | (intro p j a b c; exact n7_207_0 p j a (by omega) c) | (intro p j a b c; exfalso; have z := s7_17_0 j a (by omega); omega) | (unfold ms; (repeat (first | rw [if_pos (by omega)] | rw [if_neg (by omega)])); (try omega))) | assumption | omega))
      ·
        refine w_iconst gz_182_143 (by decide) ?_
        refine w_istore_n (ls' := [(2, 151), (0, x1), (0, 0)]) gz_182_144 gm_182 rfl rfl rfl ?_
        have a174 : ∀ j : Int, h 174 j = h 174 j := fun _ => rfl
        have a175 : ∀ j : Int, h 175 j = h 175 j := fun _ => rfl
        have a178 : ∀ j : Int, h 178 j = h 178 j := fun _ => rfl
        have a179 : ∀ j : Int, h 179 j = h 179 j := fun _ => rfl
        exact J145_0 9 (0) h (my_fr.rf) (by omega) (by omega) (by omega) (ek151_27.symm.trans (by omega)) (by first | omega | (subst_vars; omega) | omega) (by first | (intro j a b; exfalso; omega) | (intro j a b; rw [a178, a179]; exact k45_145_0 j a (by omega)) | (intro j a b; rw [a178, a179]; exact k45_207_0 j a b) | (intro j a b; rw [a178, a179]; rcases (by omega : j = p145_0 ∨ j < p145_0) with q | q <;> first | (rw [my_up_ne f164 (by omega), my_up_ne f176 (by omega), b179]; exact k45_145_0 j a q) | (rw [my_up_at f164 (by omega), my_up_at f176 (by omega)]; have z := s45_145_0 j; have z2 := c175 j; subst q; omega)) | omega) (by first | (intro j; exact ⟨a174 j, a175 j⟩) | (intro j; rw [a174, a175]; exact s45_145_0 j) | omega) (by first | exact ⟨K3_0, fun j => ⟨rfl, rfl, rfl⟩⟩ | exact K3_s q3_145_0.1 q3_145_0.2 no_such_saying (by omega) (by omega) no_such_saying (by omega) (by omega) no_such_saying (by omega) (by omega) | assumption | omega) (by omega)
    ·
      refine w_iconst gz_182_62 (by decide) ?_
      refine w_istore_n (ls' := [(2, 151), (0, x1), (0, 1)]) gz_182_63 gm_182 rfl rfl rfl ?_
      have ce84 : h 151 27 = k151_27 := ek151_27.symm
      have a174 : ∀ j : Int, h 174 j = h 174 j := fun _ => rfl
      have a175 : ∀ j : Int, h 175 j = h 175 j := fun _ => rfl
      have a178 : ∀ j : Int, h 178 j = h 178 j := fun _ => rfl
      have a179 : ∀ j : Int, h 179 j = h 179 j := fun _ => rfl
      exact J64_0 4 (1) (k151_27) h (my_fr.rf) (by omega) (by omega) (by omega) (by omega) (by omega) (by omega) (ek151_27.symm.trans (by omega)) (by first | omega | (subst_vars; omega) | omega) (by first | omega | (subst_vars; omega) | omega) (by first | omega | (subst_vars; omega) | omega) (by first | (intro p; exact p.1) | (intro p; exact FwW_s (j4_64_0 p) (fun j q => ⟨(a174 j).trans (my_up_ne f93 (by omega)), (a175 j).trans ((my_up_ne f103 (by omega)).trans (b175 j))⟩) (by rw [a174, my_up_at f93 (by omega)]; omega) (by omega)) | omega) (by first | exact P4_0 | exact P4_s (by omega) q4_64_0 no_such_saying (by omega) (by omega) no_such_saying (by omega) (by omega) no_such_saying (by omega) no_such_saying | assumption | omega) (by omega)
  ·
    refine w_aload_n gz_182_10 rfl ?_
    refine w_iconst gz_182_11 (by decide) ?_
    refine v_putI (j := 27) gz_182_12 rfl is_151 rd_10 rfl (by omega) (by omega) rfl (fun h85 fh85 => ?_)
    have gh85 : my_fr [(10, 27), (73, -1), (74, -1), (75, -1), (77, -1), (78, -1), (79, -1)] h h85 := my_fr.up my_fr.rf is_151 fh85 rfl
    refine w_iconst gz_182_15 (by decide) ?_
    refine w_istore_n (ls' := [(2, 151), (0, x1), (0, 0)]) gz_182_16 gm_182 rfl rfl rfl ?_
    have ce86 : h85 151 27 = 2 := (my_up_self fh85)
    have a174 : ∀ j : Int, h85 174 j = h 174 j := fun j => ((my_up_role fh85 is_174 is_151 rfl).trans (rfl : h 174 j = h 174 j))
    have a175 : ∀ j : Int, h85 175 j = h 175 j := fun j => ((my_up_role fh85 is_175 is_151 rfl).trans (rfl : h 175 j = h 175 j))
    have a178 : ∀ j : Int, h85 178 j = h 178 j := fun j => ((my_up_role fh85 is_178 is_151 rfl).trans (rfl : h 178 j = h 178 j))
    have a179 : ∀ j : Int, h85 179 j = h 179 j := fun j => ((my_up_role fh85 is_179 is_151 rfl).trans (rfl : h 179 j = h 179 j))
    exact J17_0 3 (0) h85 (gh85) (by omega) (by omega) ((my_up_self fh85).trans (by omega)) (by first | omega | (subst_vars; omega) | omega) (by first | omega | (subst_vars; omega) | omega) (by first | (intro j a b; exfalso; omega) | (intro j a b; rw [a175]; rcases (by omega : j = p17_0 ∨ j < p17_0) with q | q <;> first | (rw [my_up_ne f35 (by omega), b175]; exact s7_17_0 j a q) | (rw [my_up_at f35 (by omega)])) | omega) (by first | exact P5_0 | exact P5_s q5_17_0 no_such_saying (by omega) no_such_saying (by omega) fh85 (by omega) | assumption | omega) (by omega)
end MYNModel_beginsColumns5_f0
