/-! contracts, printed by wip/gen/gy.py -/
section MYNModel_beginsColumns3_f0
theorem c_Model_beginsColumns3_f0 {l : Launch} {rho : Nat → Int32} {d : Nat} {h : my_H} {Q : my_H → my_V → Prop} (cf : h 151 8 = 0) (k0 : ∀ (h' : my_H), my_fr [(10, 27), (73, -1), (74, -1), (75, -1)] h h' → h' 151 8 = 0 → 0 ≤ h' 151 27 → h' 151 27 ≤ 4 → h' 151 27 = h 157 (h 151 33) → FwW h' (h' 151 27) → Q h' (9, 0)) : wp l rho d 181 0 [(2, 151), (9, 0)] [] h Q := by
  refine v_know (x := 151) (j := 33) (b := 33) rfl is_151 rd_10 rfl (fun k151_33 ek151_33 pk151_33 qk151_33 => ?_)
  have J15_0 : ∀ (n : Nat) (p15_0 p15_1 : Int) (h15_0 : my_H), my_fr [(10, 27), (73, -1), (74, -1), (75, -1)] h h15_0 → 0 ≤ p15_0 → p15_0 ≤ 4 → 0 ≤ p15_1 → p15_1 ≤ 4 → p15_0 ≤ p15_1 → h15_0 151 27 = p15_1 → h15_0 151 33 = k151_33 → h15_0 151 8 = 0 → h15_0 151 27 = h 157 (h 151 33) → (∀ j : Int, 0 ≤ j → j < p15_0 → 0 ≤ h15_0 174 j) → 5 - p15_0 ≤ (n : Int) → wp l rho d 181 15 [(2, 151), (0, p15_0)] [] h15_0 Q := by
    intro n
    induction n with
    | zero => intro p15_0 p15_1 h15_0 gh_15_0 q0_15_0 q1_15_0 q2_15_0 q3_15_0 q4_15_0 c151_27_15_0 c151_33_15_0 c151_8_15_0 bw_15_0 b4_15_0 hm_15_0; exfalso; omega
    | succ n ih_15_0 =>
      intro p15_0 p15_1 h15_0 gh_15_0 q0_15_0 q1_15_0 q2_15_0 q3_15_0 q4_15_0 c151_27_15_0 c151_33_15_0 c151_8_15_0 bw_15_0 b4_15_0 hm_15_0
      refine w_iload_n gz_181_15 rfl ?_
      refine w_aload_n gz_181_16 rfl ?_
      refine v_getI (j := 27) gz_181_17 rfl is_151 rd_10 rfl (fun v1 ev1 pv1 qv1 => ?_)
      have zv1 := ev1.trans c151_27_15_0
      refine w_icge (t := 53) gz_181_20 rfl (fun u2 => ?_) (fun u2 => ?_)
      ·
        have ce3 : h15_0 151 27 = v1 := ev1.symm
        have c4 := c151_8_15_0
        have c5 := ev1.symm
        exact w_vret gz_181_53 gm_181 (k0 h15_0 (gh_15_0) (by omega) (by omega) (by omega) (by first | (intro j a b c; exact b4_15_0 j a (by omega)) | omega | (subst_vars; omega) | omega) (by first | (intro j a b c; exact b4_15_0 j a (by omega)) | omega | (subst_vars; omega) | omega))
      ·
        refine w_aload_n gz_181_23 rfl ?_
        refine w_getX (v := 174) gz_181_24 is_151 rd_10 rfl (by decide) rfl ?_
        refine w_iload_n gz_181_27 rfl ?_
        refine w_aload_n gz_181_28 rfl ?_
        refine v_getI (j := 33) gz_181_29 rfl is_151 rd_10 rfl (fun v7 ev7 pv7 qv7 => ?_)
        have zv7 := ev7.trans c151_33_15_0
        refine w_iast gz_181_32 is_174 rd_73 (by omega) (by omega) (by omega) (by omega) (fun h8 fh8 => ?_)
        have gh8 : my_fr [(10, 27), (73, -1), (74, -1), (75, -1)] h h8 := my_fr.up gh_15_0 is_174 fh8 rfl
        have f32 := fh8
        refine w_aload_n gz_181_33 rfl ?_
        refine w_getX (v := 175) gz_181_34 is_151 rd_10 rfl (by decide) rfl ?_
        refine w_iload_n gz_181_37 rfl ?_
        refine w_iload_n gz_181_38 rfl ?_
        refine w_iast gz_181_39 is_175 rd_74 (by omega) (by omega) (by omega) (by omega) (fun h10 fh10 => ?_)
        have gh10 : my_fr [(10, 27), (73, -1), (74, -1), (75, -1)] h h10 := my_fr.up gh8 is_175 fh10 rfl
        refine w_aload_n gz_181_40 rfl ?_
        refine w_getX (v := 176) gz_181_41 is_151 rd_10 rfl (by decide) rfl ?_
        refine w_iload_n gz_181_44 rfl ?_
        refine w_iconst gz_181_45 (by decide) ?_
        refine w_bast gz_181_46 is_176 rd_75 (by omega) (by omega) (by omega) (by omega) (fun h12 fh12 => ?_)
        have gh12 : my_fr [(10, 27), (73, -1), (74, -1), (75, -1)] h h12 := my_fr.up gh10 is_176 fh12 rfl
        refine w_iinc (ls' := [(2, 151), (0, (p15_0 + 1))]) gz_181_47 rfl gm_181 rfl rfl rfl ⟨by omega, by omega⟩ ?_
        refine w_goto (t := 15) gz_181_50 rfl ?_
        have ce13 : h12 151 27 = v1 := ((my_up_role fh12 is_151 is_176 rfl).trans ((my_up_role fh10 is_151 is_175 rfl).trans ((my_up_role fh8 is_151 is_174 rfl).trans ev1.symm)))
        have a174 : ∀ j : Int, h12 174 j = h8 174 j := fun j => ((my_up_role fh12 is_174 is_176 rfl).trans ((my_up_role fh10 is_174 is_175 rfl).trans (rfl : h8 174 j = h8 174 j)))
        exact ih_15_0 ((p15_0 + 1)) (v1) h12 (gh12) (by omega) (by omega) (by omega) (by omega) (by omega) (((my_up_role fh12 is_151 is_176 rfl).trans ((my_up_role fh10 is_151 is_175 rfl).trans ((my_up_role fh8 is_151 is_174 rfl).trans ev1.symm))).trans (by omega)) (((my_up_role fh12 is_151 is_176 rfl).trans ((my_up_role fh10 is_151 is_175 rfl).trans ((my_up_role fh8 is_151 is_174 rfl).trans ev7.symm))).trans (by omega)) (((my_up_role fh12 is_151 is_176 rfl).trans ((my_up_role fh10 is_151 is_175 rfl).trans ((my_up_role fh8 is_151 is_174 rfl).trans c151_8_15_0))).trans (by omega)) (by first | omega | (subst_vars; omega) | omega) (by first | (intro j a b; exfalso; omega) | (intro j a b; rw [a174]; rcases (by omega : j = p15_0 ∨ j < p15_0) with q | q <;> first | (rw [my_up_ne f32 (by omega)]; exact b4_15_0 j a q) | (rw [my_up_at f32 (by omega)]; omega)) | omega) (by omega)
  refine w_aload_n gz_181_0 rfl ?_
  refine w_aload_n gz_181_1 rfl ?_
  refine w_getX (v := 157) gz_181_2 is_151 rd_10 rfl (by decide) rfl ?_
  refine w_aload_n gz_181_5 rfl ?_
  refine v_getI (j := 33) gz_181_6 rfl is_151 rd_10 rfl (fun v15 ev15 pv15 qv15 => ?_)
  have zv15 := ev15.trans ek151_33.symm
  refine w_iald gz_181_9 is_157 rd_56 (by omega) (by omega) (fun v16 ev16 pv16 qv16 => ?_)
  refine v_putI (j := 27) gz_181_10 rfl is_151 rd_10 rfl (by omega) (by omega) rfl (fun h17 fh17 => ?_)
  have gh17 : my_fr [(10, 27), (73, -1), (74, -1), (75, -1)] h h17 := my_fr.up my_fr.rf is_151 fh17 rfl
  refine w_iconst gz_181_13 (by decide) ?_
  refine w_istore_n (ls' := [(2, 151), (0, 0)]) gz_181_14 gm_181 rfl rfl rfl ?_
  have ce18 : h17 151 27 = v16 := (my_up_self fh17)
  have a174 : ∀ j : Int, h17 174 j = h 174 j := fun j => ((my_up_role fh17 is_174 is_151 rfl).trans (rfl : h 174 j = h 174 j))
  exact J15_0 5 (0) (v16) h17 (gh17) (by omega) (by omega) (by omega) (by omega) (by omega) ((my_up_self fh17).trans (by omega)) (((my_up_fld fh17 (by decide)).trans ev15.symm).trans (by omega)) (((my_up_fld fh17 (by decide)).trans cf).trans (by omega)) (by first | omega | (subst_vars; omega) | omega) (by first | (intro j a b; exfalso; omega) | (intro j a b; rw [a174]; rcases (by omega : j = p15_0 ∨ j < p15_0) with q | q <;> first | (rw [my_up_ne f32 (by omega)]; exact b4_15_0 j a q) | (rw [my_up_at f32 (by omega)]; omega)) | omega) (by omega)
theorem c_Model_beginsColumns3 {l : Launch} {rho : Nat → Int32} {d : Nat} {h : my_H} {Q : my_H → my_V → Prop} (k0 : ∀ (h' : my_H), my_fr [(10, 27), (73, -1), (74, -1), (75, -1)] h h' → 0 ≤ h' 151 27 → h' 151 27 ≤ 4 → h' 151 27 = h 157 (h 151 33) → FwW h' (h' 151 27) → Q h' (9, 0)) : wp l rho d 181 0 [(2, 151), (9, 0)] [] h Q := by
  refine v_know (x := 151) (j := 33) (b := 33) rfl is_151 rd_10 rfl (fun k151_33 ek151_33 pk151_33 qk151_33 => ?_)
  have J15_0 : ∀ (n : Nat) (p15_0 p15_1 : Int) (h15_0 : my_H), my_fr [(10, 27), (73, -1), (74, -1), (75, -1)] h h15_0 → 0 ≤ p15_0 → p15_0 ≤ 4 → 0 ≤ p15_1 → p15_1 ≤ 4 → p15_0 ≤ p15_1 → h15_0 151 27 = p15_1 → h15_0 151 33 = k151_33 → h15_0 151 27 = h 157 (h 151 33) → (∀ j : Int, 0 ≤ j → j < p15_0 → 0 ≤ h15_0 174 j) → 5 - p15_0 ≤ (n : Int) → wp l rho d 181 15 [(2, 151), (0, p15_0)] [] h15_0 Q := by
    intro n
    induction n with
    | zero => intro p15_0 p15_1 h15_0 gh_15_0 q0_15_0 q1_15_0 q2_15_0 q3_15_0 q4_15_0 c151_27_15_0 c151_33_15_0 bw_15_0 b4_15_0 hm_15_0; exfalso; omega
    | succ n ih_15_0 =>
      intro p15_0 p15_1 h15_0 gh_15_0 q0_15_0 q1_15_0 q2_15_0 q3_15_0 q4_15_0 c151_27_15_0 c151_33_15_0 bw_15_0 b4_15_0 hm_15_0
      refine w_iload_n gz_181_15 rfl ?_
      refine w_aload_n gz_181_16 rfl ?_
      refine v_getI (j := 27) gz_181_17 rfl is_151 rd_10 rfl (fun v1 ev1 pv1 qv1 => ?_)
      have zv1 := ev1.trans c151_27_15_0
      refine w_icge (t := 53) gz_181_20 rfl (fun u2 => ?_) (fun u2 => ?_)
      ·
        have ce3 : h15_0 151 27 = v1 := ev1.symm
        have c4 := ev1.symm
        exact w_vret gz_181_53 gm_181 (k0 h15_0 (gh_15_0) (by omega) (by omega) (by first | (intro j a b c; exact b4_15_0 j a (by omega)) | omega | (subst_vars; omega) | omega) (by first | (intro j a b c; exact b4_15_0 j a (by omega)) | omega | (subst_vars; omega) | omega))
      ·
        refine w_aload_n gz_181_23 rfl ?_
        refine w_getX (v := 174) gz_181_24 is_151 rd_10 rfl (by decide) rfl ?_
        refine w_iload_n gz_181_27 rfl ?_
        refine w_aload_n gz_181_28 rfl ?_
        refine v_getI (j := 33) gz_181_29 rfl is_151 rd_10 rfl (fun v6 ev6 pv6 qv6 => ?_)
        have zv6 := ev6.trans c151_33_15_0
        refine w_iast gz_181_32 is_174 rd_73 (by omega) (by omega) (by omega) (by omega) (fun h7 fh7 => ?_)
        have gh7 : my_fr [(10, 27), (73, -1), (74, -1), (75, -1)] h h7 := my_fr.up gh_15_0 is_174 fh7 rfl
        have f32 := fh7
        refine w_aload_n gz_181_33 rfl ?_
        refine w_getX (v := 175) gz_181_34 is_151 rd_10 rfl (by decide) rfl ?_
        refine w_iload_n gz_181_37 rfl ?_
        refine w_iload_n gz_181_38 rfl ?_
        refine w_iast gz_181_39 is_175 rd_74 (by omega) (by omega) (by omega) (by omega) (fun h9 fh9 => ?_)
        have gh9 : my_fr [(10, 27), (73, -1), (74, -1), (75, -1)] h h9 := my_fr.up gh7 is_175 fh9 rfl
        refine w_aload_n gz_181_40 rfl ?_
        refine w_getX (v := 176) gz_181_41 is_151 rd_10 rfl (by decide) rfl ?_
        refine w_iload_n gz_181_44 rfl ?_
        refine w_iconst gz_181_45 (by decide) ?_
        refine w_bast gz_181_46 is_176 rd_75 (by omega) (by omega) (by omega) (by omega) (fun h11 fh11 => ?_)
        have gh11 : my_fr [(10, 27), (73, -1), (74, -1), (75, -1)] h h11 := my_fr.up gh9 is_176 fh11 rfl
        refine w_iinc (ls' := [(2, 151), (0, (p15_0 + 1))]) gz_181_47 rfl gm_181 rfl rfl rfl ⟨by omega, by omega⟩ ?_
        refine w_goto (t := 15) gz_181_50 rfl ?_
        have ce12 : h11 151 27 = v1 := ((my_up_role fh11 is_151 is_176 rfl).trans ((my_up_role fh9 is_151 is_175 rfl).trans ((my_up_role fh7 is_151 is_174 rfl).trans ev1.symm)))
        have a174 : ∀ j : Int, h11 174 j = h7 174 j := fun j => ((my_up_role fh11 is_174 is_176 rfl).trans ((my_up_role fh9 is_174 is_175 rfl).trans (rfl : h7 174 j = h7 174 j)))
        exact ih_15_0 ((p15_0 + 1)) (v1) h11 (gh11) (by omega) (by omega) (by omega) (by omega) (by omega) (((my_up_role fh11 is_151 is_176 rfl).trans ((my_up_role fh9 is_151 is_175 rfl).trans ((my_up_role fh7 is_151 is_174 rfl).trans ev1.symm))).trans (by omega)) (((my_up_role fh11 is_151 is_176 rfl).trans ((my_up_role fh9 is_151 is_175 rfl).trans ((my_up_role fh7 is_151 is_174 rfl).trans ev6.symm))).trans (by omega)) (by first | omega | (subst_vars; omega) | omega) (by first | (intro j a b; exfalso; omega) | (intro j a b; rw [a174]; rcases (by omega : j = p15_0 ∨ j < p15_0) with q | q <;> first | (rw [my_up_ne f32 (by omega)]; exact b4_15_0 j a q) | (rw [my_up_at f32 (by omega)]; omega)) | omega) (by omega)
  refine w_aload_n gz_181_0 rfl ?_
  refine w_aload_n gz_181_1 rfl ?_
  refine w_getX (v := 157) gz_181_2 is_151 rd_10 rfl (by decide) rfl ?_
  refine w_aload_n gz_181_5 rfl ?_
  refine v_getI (j := 33) gz_181_6 rfl is_151 rd_10 rfl (fun v14 ev14 pv14 qv14 => ?_)
  have zv14 := ev14.trans ek151_33.symm
  refine w_iald gz_181_9 is_157 rd_56 (by omega) (by omega) (fun v15 ev15 pv15 qv15 => ?_)
  refine v_putI (j := 27) gz_181_10 rfl is_151 rd_10 rfl (by omega) (by omega) rfl (fun h16 fh16 => ?_)
  have gh16 : my_fr [(10, 27), (73, -1), (74, -1), (75, -1)] h h16 := my_fr.up my_fr.rf is_151 fh16 rfl
  refine w_iconst gz_181_13 (by decide) ?_
  refine w_istore_n (ls' := [(2, 151), (0, 0)]) gz_181_14 gm_181 rfl rfl rfl ?_
  have ce17 : h16 151 27 = v15 := (my_up_self fh16)
  have a174 : ∀ j : Int, h16 174 j = h 174 j := fun j => ((my_up_role fh16 is_174 is_151 rfl).trans (rfl : h 174 j = h 174 j))
  exact J15_0 5 (0) (v15) h16 (gh16) (by omega) (by omega) (by omega) (by omega) (by omega) ((my_up_self fh16).trans (by omega)) (((my_up_fld fh16 (by decide)).trans ev14.symm).trans (by omega)) (by first | omega | (subst_vars; omega) | omega) (by first | (intro j a b; exfalso; omega) | (intro j a b; rw [a174]; rcases (by omega : j = p15_0 ∨ j < p15_0) with q | q <;> first | (rw [my_up_ne f32 (by omega)]; exact b4_15_0 j a q) | (rw [my_up_at f32 (by omega)]; omega)) | omega) (by omega)
theorem c_Model_pane2_f0 {l : Launch} {rho : Nat → Int32} {d : Nat} {h : my_H} {Q : my_H → my_V → Prop} {x1 : Int} (a1 : 0 ≤ x1) (b1 : x1 ≤ 41) (cf : h 151 8 = 0) (pj : h 168 x1 = 4 → 0 ≤ h 170 x1 ∧ h 170 x1 ≤ 2 ∧ 1 ≤ h 157 (h 170 x1) ∧ h 151 27 + h 157 (h 170 x1) ≤ 9) (k0 : ∀ (h' : my_H), my_fr [(10, 27), (73, -1), (74, -1), (75, -1), (77, -1), (78, -1), (79, -1)] h h' → h' 151 8 = 0 → h' 151 27 = ms h x1 (h 151 27) → (Pfw h x1 → FwW h' (h' 151 27)) → Q h' (9, 0)) : wp l rho d 182 0 [(2, 151), (0, x1), (9, 0)] [] h Q := by
  refine v_know (x := 151) (j := 27) (b := 27) rfl is_151 rd_10 rfl (fun k151_27 ek151_27 pk151_27 qk151_27 => ?_)
  have J207_0 : ∀ (n : Nat) (p207_0 p207_1 : Int) (h207_0 : my_H), my_fr [(10, 27), (73, -1), (74, -1), (75, -1), (77, -1), (78, -1), (79, -1)] h h207_0 → 0 ≤ p207_0 → p207_0 ≤ 8 → 0 ≤ p207_1 → p207_1 ≤ 8 → p207_0 ≤ p207_1 → h207_0 151 27 = p207_1 → h207_0 151 8 = 0 → h 168 x1 = 3 → h207_0 151 27 = h 171 x1 → (∀ j : Int, 0 ≤ j → j < h 151 27 → h207_0 178 j = h 174 j ∧ h207_0 179 j = h 175 j) → (Pfw h x1 → ∀ j : Int, 0 ≤ j → j < p207_0 → 0 ≤ h207_0 175 j → 0 ≤ h207_0 174 j) → 9 - p207_0 ≤ (n : Int) → wp l rho d 182 207 [(2, 151), (0, x1), (0, p207_0)] [] h207_0 Q := by
    intro n
    induction n with
    | zero => intro p207_0 p207_1 h207_0 gh_207_0 q0_207_0 q1_207_0 q2_207_0 q3_207_0 q4_207_0 c151_27_207_0 c151_8_207_0 k3_207_0 w3_207_0 k45_207_0 n7_207_0 hm_207_0; exfalso; omega
    | succ n ih_207_0 =>
      intro p207_0 p207_1 h207_0 gh_207_0 q0_207_0 q1_207_0 q2_207_0 q3_207_0 q4_207_0 c151_27_207_0 c151_8_207_0 k3_207_0 w3_207_0 k45_207_0 n7_207_0 hm_207_0
      refine w_iload_n gz_182_207 rfl ?_
      refine w_aload_n gz_182_208 rfl ?_
      refine v_getI (j := 27) gz_182_209 rfl is_151 rd_10 rfl (fun v1 ev1 pv1 qv1 => ?_)
      have zv1 := ev1.trans c151_27_207_0
      refine w_icge (t := 287) gz_182_212 rfl (fun u2 => ?_) (fun u2 => ?_)
      ·
        have ce3 : h207_0 151 27 = v1 := ev1.symm
        have c4 := c151_8_207_0
        exact w_vret gz_182_287 gm_182 (k0 h207_0 (gh_207_0) (by omega) (by first | (intro p; exact p.1) | exact j4_64_0 | (intro p j a b c; exact n7_207_0 p j a (by omega) c) | (intro p j a b c; exfalso; have z := s7_17_0 j a (by omega); omega) | (unfold ms; (repeat (first | rw [if_pos (by omega)] | rw [if_neg (by omega)])); (try omega)) | omega) (by first | (intro p; exact p.1) | exact j4_64_0 | (intro p j a b c; exact n7_207_0 p j a (by omega) c) | (intro p j a b c; exfalso; have z := s7_17_0 j a (by omega); omega) | (unfold ms; (repeat (first | rw [if_pos (by omega)] | rw [if_neg (by omega)])); (try omega)) | omega))
      ·
        refine w_aload_n gz_182_215 rfl ?_
        refine w_getX (v := 174) gz_182_216 is_151 rd_10 rfl (by decide) rfl ?_
        refine w_iload_n gz_182_219 rfl ?_
        refine w_aload_n gz_182_220 rfl ?_
        refine w_getX (v := 178) gz_182_221 is_151 rd_10 rfl (by decide) rfl ?_
        refine w_aload_n gz_182_224 rfl ?_
        refine w_getX (v := 172) gz_182_225 is_151 rd_10 rfl (by decide) rfl ?_
        refine w_bipush gz_182_228 (by decide) ?_
        refine w_iload_n gz_182_230 rfl ?_
        refine w_imul gz_182_231 ⟨by omega, by omega⟩ ?_
        refine w_iload_n gz_182_232 rfl ?_
        refine w_iadd gz_182_233 ⟨by omega, by omega⟩ ?_
        refine w_iald gz_182_234 is_172 rd_71 (by omega) (by omega) (fun v8 ev8 pv8 qv8 => ?_)
        have f172 : ∀ j : Int, h207_0 172 j = h 172 j := fun j => my_fr.at gh_207_0 is_172 rfl
        have ff : Pfw h x1 → v8 < h 151 27 := fun p => by have z := p.2.2.2 k3_207_0 p207_0 (by omega) (by omega) (by omega); rw [← f172] at z; omega
        obtain ⟨vf, ef⟩ : ∃ vf : Int, vf = v8 := ⟨_, rfl⟩
        refine w_iald gz_182_235 is_178 rd_77 (by omega) (by omega) (fun v9 ev9 pv9 qv9 => ?_)
        have g5 : v9 = h207_0 178 vf := by rw [ef]; omega
        refine w_iast gz_182_236 is_174 rd_73 (by omega) (by omega) (by omega) (by omega) (fun h10 fh10 => ?_)
        have gh10 : my_fr [(10, 27), (73, -1), (74, -1), (75, -1), (77, -1), (78, -1), (79, -1)] h h10 := my_fr.up gh_207_0 is_174 fh10 rfl
        have f236 := fh10
        have k236 := my_up_self fh10
        refine w_aload_n gz_182_237 rfl ?_
        refine w_getX (v := 175) gz_182_238 is_151 rd_10 rfl (by decide) rfl ?_
        refine w_iload_n gz_182_241 rfl ?_
        refine w_aload_n gz_182_242 rfl ?_
        refine w_getX (v := 179) gz_182_243 is_151 rd_10 rfl (by decide) rfl ?_
        refine w_aload_n gz_182_246 rfl ?_
        refine w_getX (v := 172) gz_182_247 is_151 rd_10 rfl (by decide) rfl ?_
        refine w_bipush gz_182_250 (by decide) ?_
        refine w_iload_n gz_182_252 rfl ?_
        refine w_imul gz_182_253 ⟨by omega, by omega⟩ ?_
        refine w_iload_n gz_182_254 rfl ?_
        refine w_iadd gz_182_255 ⟨by omega, by omega⟩ ?_
        refine w_iald gz_182_256 is_172 rd_71 (by omega) (by omega) (fun v14 ev14 pv14 qv14 => ?_)
        have f172b : ∀ j : Int, h10 172 j = h 172 j := fun j => my_fr.at gh10 is_172 rfl
        have ff2 : v14 = vf := by have z1 := f172 (8 * x1 + p207_0); have z2 := f172b (8 * x1 + p207_0); omega
        refine w_iald gz_182_257 is_179 rd_78 (by omega) (by omega) (fun v15 ev15 pv15 qv15 => ?_)
        have e179 : ∀ j : Int, h10 179 j = h207_0 179 j := fun j => ((my_up_role fh10 is_179 is_174 rfl).trans (rfl : h207_0 179 j = h207_0 179 j))
        have b175 : ∀ j : Int, h10 175 j = h207_0 175 j := fun j => ((my_up_role fh10 is_175 is_174 rfl).trans (rfl : h207_0 175 j = h207_0 175 j))
        have g7 : v15 = h10 179 vf := by rw [← ff2]; omega
        have n7s : Pfw h x1 → 0 ≤ v15 → 0 ≤ h10 174 p207_0 := fun p c => by have z0 := ff p; have z := k45_207_0 vf (by omega) (by omega); have z2 := e179 vf; have z3 := p.1 vf (by omega) (by omega); omega
        refine w_iast gz_182_258 is_175 rd_74 (by omega) (by omega) (by omega) (by omega) (fun h16 fh16 => ?_)
        have gh16 : my_fr [(10, 27), (73, -1), (74, -1), (75, -1), (77, -1), (78, -1), (79, -1)] h h16 := my_fr.up gh10 is_175 fh16 rfl
        have f258 := fh16
        refine w_aload_n gz_182_259 rfl ?_
        refine w_getX (v := 176) gz_182_260 is_151 rd_10 rfl (by decide) rfl ?_
        refine w_iload_n gz_182_263 rfl ?_
        refine w_aload_n gz_182_264 rfl ?_
        refine w_getX (v := 180) gz_182_265 is_151 rd_10 rfl (by decide) rfl ?_
        refine w_aload_n gz_182_268 rfl ?_
        refine w_getX (v := 172) gz_182_269 is_151 rd_10 rfl (by decide) rfl ?_
        refine w_bipush gz_182_272 (by decide) ?_
        refine w_iload_n gz_182_274 rfl ?_
        refine w_imul gz_182_275 ⟨by omega, by omega⟩ ?_
        refine w_iload_n gz_182_276 rfl ?_
        refine w_iadd gz_182_277 ⟨by omega, by omega⟩ ?_
        refine w_iald gz_182_278 is_172 rd_71 (by omega) (by omega) (fun v20 ev20 pv20 qv20 => ?_)
        refine w_bald gz_182_279 is_180 rd_79 (by omega) (by omega) (fun v21 ev21 pv21 qv21 => ?_)
        refine w_bast gz_182_280 is_176 rd_75 (by omega) (by omega) (by omega) (by omega) (fun h22 fh22 => ?_)
        have gh22 : my_fr [(10, 27), (73, -1), (74, -1), (75, -1), (77, -1), (78, -1), (79, -1)] h h22 := my_fr.up gh16 is_176 fh22 rfl
        refine w_iinc (ls' := [(2, 151), (0, x1), (0, (p207_0 + 1))]) gz_182_281 rfl gm_182 rfl rfl rfl ⟨by omega, by omega⟩ ?_
        refine w_goto (t := 207) gz_182_284 rfl ?_
        have ce23 : h22 151 27 = v1 := ((my_up_role fh22 is_151 is_176 rfl).trans ((my_up_role fh16 is_151 is_175 rfl).trans ((my_up_role fh10 is_151 is_174 rfl).trans ev1.symm)))
        have a174 : ∀ j : Int, h22 174 j = h10 174 j := fun j => ((my_up_role fh22 is_174 is_176 rfl).trans ((my_up_role fh16 is_174 is_175 rfl).trans (rfl : h10 174 j = h10 174 j)))
        have a175 : ∀ j : Int, h22 175 j = h16 175 j := fun j => ((my_up_role fh22 is_175 is_176 rfl).trans (rfl : h16 175 j = h16 175 j))
        have a178 : ∀ j : Int, h22 178 j = h207_0 178 j := fun j => ((my_up_role fh22 is_178 is_176 rfl).trans ((my_up_role fh16 is_178 is_175 rfl).trans ((my_up_role fh10 is_178 is_174 rfl).trans (rfl : h207_0 178 j = h207_0 178 j))))
        have a179 : ∀ j : Int, h22 179 j = h207_0 179 j := fun j => ((my_up_role fh22 is_179 is_176 rfl).trans ((my_up_role fh16 is_179 is_175 rfl).trans ((my_up_role fh10 is_179 is_174 rfl).trans (rfl : h207_0 179 j = h207_0 179 j))))
        exact ih_207_0 ((p207_0 + 1)) (v1) h22 (gh22) (by omega) (by omega) (by omega) (by omega) (by omega) (((my_up_role fh22 is_151 is_176 rfl).trans ((my_up_role fh16 is_151 is_175 rfl).trans ((my_up_role fh10 is_151 is_174 rfl).trans ev1.symm))).trans (by omega)) (((my_up_role fh22 is_151 is_176 rfl).trans ((my_up_role fh16 is_151 is_175 rfl).trans ((my_up_role fh10 is_151 is_174 rfl).trans c151_8_207_0))).trans (by omega)) (by first | omega | (subst_vars; omega) | omega) (by first | omega | (subst_vars; omega) | omega) (by first | (intro j a b; exfalso; omega) | (intro j a b; rw [a178, a179]; exact k45_145_0 j a (by omega)) | (intro j a b; rw [a178, a179]; exact k45_207_0 j a b) | (intro j a b; rw [a178, a179]; rcases (by omega : j = p207_0 ∨ j < p207_0) with q | q <;> first | (rw [my_up_ne f164 (by omega), my_up_ne f176 (by omega), b179]; exact k45_145_0 j a q) | (rw [my_up_at f164 (by omega), my_up_at f176 (by omega)]; have z := s45_145_0 j; have z2 := c175 j; subst q; omega)) | omega) (by first | (intro p j a b; exfalso; omega) | (intro p j a b c; rw [a175] at c; rw [a174]; rcases (by omega : j = p207_0 ∨ j < p207_0) with q | q <;> first | (rw [my_up_ne f258 (by omega), b175] at c; rw [my_up_ne f236 (by omega)]; exact n7_207_0 p j a q c) | (subst q; rw [my_up_at f258 (by omega)] at c; exact n7s p c)) | omega) (by omega)
  have J145_0 : ∀ (n : Nat) (p145_0 : Int) (h145_0 : my_H), my_fr [(10, 27), (73, -1), (74, -1), (75, -1), (77, -1), (78, -1), (79, -1)] h h145_0 → 0 ≤ p145_0 → p145_0 ≤ 8 → p145_0 ≤ k151_27 → h145_0 151 27 = k151_27 → h145_0 151 8 = 0 → h 168 x1 = 3 → (∀ j : Int, 0 ≤ j → j < p145_0 → h145_0 178 j = h 174 j ∧ h145_0 179 j = h 175 j) → (∀ j : Int, h145_0 174 j = h 174 j ∧ h145_0 175 j = h 175 j) → 9 - p145_0 ≤ (n : Int) → wp l rho d 182 145 [(2, 151), (0, x1), (0, p145_0)] [] h145_0 Q := by
    intro n
    induction n with
    | zero => intro p145_0 h145_0 gh_145_0 q0_145_0 q1_145_0 q2_145_0 c151_27_145_0 c151_8_145_0 k3_145_0 k45_145_0 s45_145_0 hm_145_0; exfalso; omega
    | succ n ih_145_0 =>
      intro p145_0 h145_0 gh_145_0 q0_145_0 q1_145_0 q2_145_0 c151_27_145_0 c151_8_145_0 k3_145_0 k45_145_0 s45_145_0 hm_145_0
      refine w_iload_n gz_182_145 rfl ?_
      refine w_aload_n gz_182_146 rfl ?_
      refine v_getI (j := 27) gz_182_147 rfl is_151 rd_10 rfl (fun v24 ev24 pv24 qv24 => ?_)
      have zv24 := ev24.trans c151_27_145_0
      refine w_icge (t := 195) gz_182_150 rfl (fun u25 => ?_) (fun u25 => ?_)
      ·
        refine w_aload_n gz_182_195 rfl ?_
        refine w_aload_n gz_182_196 rfl ?_
        refine w_getX (v := 171) gz_182_197 is_151 rd_10 rfl (by decide) rfl ?_
        refine w_iload_n gz_182_200 rfl ?_
        refine w_iald gz_182_201 is_171 rd_70 (by omega) (by omega) (fun v27 ev27 pv27 qv27 => ?_)
        have a171 : h145_0 171 x1 = h 171 x1 := my_fr.at gh_145_0 is_171 rfl
        refine v_putI (j := 27) gz_182_202 rfl is_151 rd_10 rfl (by omega) (by omega) rfl (fun h28 fh28 => ?_)
        have gh28 : my_fr [(10, 27), (73, -1), (74, -1), (75, -1), (77, -1), (78, -1), (79, -1)] h h28 := my_fr.up gh_145_0 is_151 fh28 rfl
        refine w_iconst gz_182_205 (by decide) ?_
        refine w_istore_n (ls' := [(2, 151), (0, x1), (0, 0)]) gz_182_206 gm_182 rfl rfl rfl ?_
        have ce29 : h28 151 27 = v27 := (my_up_self fh28)
        have a174 : ∀ j : Int, h28 174 j = h145_0 174 j := fun j => ((my_up_role fh28 is_174 is_151 rfl).trans (rfl : h145_0 174 j = h145_0 174 j))
        have a175 : ∀ j : Int, h28 175 j = h145_0 175 j := fun j => ((my_up_role fh28 is_175 is_151 rfl).trans (rfl : h145_0 175 j = h145_0 175 j))
        have a178 : ∀ j : Int, h28 178 j = h145_0 178 j := fun j => ((my_up_role fh28 is_178 is_151 rfl).trans (rfl : h145_0 178 j = h145_0 178 j))
        have a179 : ∀ j : Int, h28 179 j = h145_0 179 j := fun j => ((my_up_role fh28 is_179 is_151 rfl).trans (rfl : h145_0 179 j = h145_0 179 j))
        exact J207_0 9 (0) (v27) h28 (gh28) (by omega) (by omega) (by omega) (by omega) (by omega) ((my_up_self fh28).trans (by omega)) (((my_up_fld fh28 (by decide)).trans c151_8_145_0).trans (by omega)) (by first | omega | (subst_vars; omega) | omega) (by first | omega | (subst_vars; omega) | omega) (by first | (intro j a b; exfalso; omega) | (intro j a b; rw [a178, a179]; exact k45_145_0 j a (by omega)) | (intro j a b; rw [a178, a179]; exact k45_207_0 j a b) | (intro j a b; rw [a178, a179]; rcases (by omega : j = p207_0 ∨ j < p207_0) with q | q <;> first | (rw [my_up_ne f164 (by omega), my_up_ne f176 (by omega), b179]; exact k45_145_0 j a q) | (rw [my_up_at f164 (by omega), my_up_at f176 (by omega)]; have z := s45_145_0 j; have z2 := c175 j; subst q; omega)) | omega) (by first | (intro p j a b; exfalso; omega) | (intro p j a b c; rw [a175] at c; rw [a174]; rcases (by omega : j = p207_0 ∨ j < p207_0) with q | q <;> first | (rw [my_up_ne f258 (by omega), b175] at c; rw [my_up_ne f236 (by omega)]; exact n7_207_0 p j a q c) | (subst q; rw [my_up_at f258 (by omega)] at c; exact n7s p c)) | omega) (by omega)
      ·
        refine w_aload_n gz_182_153 rfl ?_
        refine w_getX (v := 178) gz_182_154 is_151 rd_10 rfl (by decide) rfl ?_
        refine w_iload_n gz_182_157 rfl ?_
        refine w_aload_n gz_182_158 rfl ?_
        refine w_getX (v := 174) gz_182_159 is_151 rd_10 rfl (by decide) rfl ?_
        refine w_iload_n gz_182_162 rfl ?_
        refine w_iald gz_182_163 is_174 rd_73 (by omega) (by omega) (fun v32 ev32 pv32 qv32 => ?_)
        refine w_iast gz_182_164 is_178 rd_77 (by omega) (by omega) (by omega) (by omega) (fun h33 fh33 => ?_)
        have gh33 : my_fr [(10, 27), (73, -1), (74, -1), (75, -1), (77, -1), (78, -1), (79, -1)] h h33 := my_fr.up gh_145_0 is_178 fh33 rfl
        have f164 := fh33
        refine w_aload_n gz_182_165 rfl ?_
        refine w_getX (v := 179) gz_182_166 is_151 rd_10 rfl (by decide) rfl ?_
        refine w_iload_n gz_182_169 rfl ?_
        refine w_aload_n gz_182_170 rfl ?_
        refine w_getX (v := 175) gz_182_171 is_151 rd_10 rfl (by decide) rfl ?_
        refine w_iload_n gz_182_174 rfl ?_
        refine w_iald gz_182_175 is_175 rd_74 (by omega) (by omega) (fun v36 ev36 pv36 qv36 => ?_)
        have b179 : ∀ j : Int, h33 179 j = h145_0 179 j := fun j => ((my_up_role fh33 is_179 is_178 rfl).trans (rfl : h145_0 179 j = h145_0 179 j))
        have c175 : ∀ j : Int, h33 175 j = h145_0 175 j := fun j => ((my_up_role fh33 is_175 is_178 rfl).trans (rfl : h145_0 175 j = h145_0 175 j))
        refine w_iast gz_182_176 is_179 rd_78 (by omega) (by omega) (by omega) (by omega) (fun h37 fh37 => ?_)
        have gh37 : my_fr [(10, 27), (73, -1), (74, -1), (75, -1), (77, -1), (78, -1), (79, -1)] h h37 := my_fr.up gh33 is_179 fh37 rfl
        have f176 := fh37
        refine w_aload_n gz_182_177 rfl ?_
        refine w_getX (v := 180) gz_182_178 is_151 rd_10 rfl (by decide) rfl ?_
        refine w_iload_n gz_182_181 rfl ?_
        refine w_aload_n gz_182_182 rfl ?_
        refine w_getX (v := 176) gz_182_183 is_151 rd_10 rfl (by decide) rfl ?_
        refine w_iload_n gz_182_186 rfl ?_
        refine w_bald gz_182_187 is_176 rd_75 (by omega) (by omega) (fun v40 ev40 pv40 qv40 => ?_)
        refine w_bast gz_182_188 is_180 rd_79 (by omega) (by omega) (by omega) (by omega) (fun h41 fh41 => ?_)
        have gh41 : my_fr [(10, 27), (73, -1), (74, -1), (75, -1), (77, -1), (78, -1), (79, -1)] h h41 := my_fr.up gh37 is_180 fh41 rfl
        refine w_iinc (ls' := [(2, 151), (0, x1), (0, (p145_0 + 1))]) gz_182_189 rfl gm_182 rfl rfl rfl ⟨by omega, by omega⟩ ?_
        refine w_goto (t := 145) gz_182_192 rfl ?_
        have a174 : ∀ j : Int, h41 174 j = h145_0 174 j := fun j => ((my_up_role fh41 is_174 is_180 rfl).trans ((my_up_role fh37 is_174 is_179 rfl).trans ((my_up_role fh33 is_174 is_178 rfl).trans (rfl : h145_0 174 j = h145_0 174 j))))
        have a175 : ∀ j : Int, h41 175 j = h145_0 175 j := fun j => ((my_up_role fh41 is_175 is_180 rfl).trans ((my_up_role fh37 is_175 is_179 rfl).trans ((my_up_role fh33 is_175 is_178 rfl).trans (rfl : h145_0 175 j = h145_0 175 j))))
        have a178 : ∀ j : Int, h41 178 j = h33 178 j := fun j => ((my_up_role fh41 is_178 is_180 rfl).trans ((my_up_role fh37 is_178 is_179 rfl).trans (rfl : h33 178 j = h33 178 j)))
        have a179 : ∀ j : Int, h41 179 j = h37 179 j := fun j => ((my_up_role fh41 is_179 is_180 rfl).trans (rfl : h37 179 j = h37 179 j))
        exact ih_145_0 ((p145_0 + 1)) h41 (gh41) (by omega) (by omega) (by omega) (((my_up_role fh41 is_151 is_180 rfl).trans ((my_up_role fh37 is_151 is_179 rfl).trans ((my_up_role fh33 is_151 is_178 rfl).trans ev24.symm))).trans (by omega)) (((my_up_role fh41 is_151 is_180 rfl).trans ((my_up_role fh37 is_151 is_179 rfl).trans ((my_up_role fh33 is_151 is_178 rfl).trans c151_8_145_0))).trans (by omega)) (by first | omega | (subst_vars; omega) | omega) (by first | (intro j a b; exfalso; omega) | (intro j a b; rw [a178, a179]; exact k45_145_0 j a (by omega)) | (intro j a b; rw [a178, a179]; exact k45_207_0 j a b) | (intro j a b; rw [a178, a179]; rcases (by omega : j = p145_0 ∨ j < p145_0) with q | q <;> first | (rw [my_up_ne f164 (by omega), my_up_ne f176 (by omega), b179]; exact k45_145_0 j a q) | (rw [my_up_at f164 (by omega), my_up_at f176 (by omega)]; have z := s45_145_0 j; have z2 := c175 j; subst q; omega)) | omega) (by first | (intro j; exact ⟨a174 j, a175 j⟩) | (intro j; rw [a174, a175]; exact s45_145_0 j) | omega) (by omega)
  have J64_0 : ∀ (n : Nat) (p64_0 p64_1 : Int) (h64_0 : my_H), my_fr [(10, 27), (73, -1), (74, -1), (75, -1), (77, -1), (78, -1), (79, -1)] h h64_0 → 1 ≤ p64_0 → p64_0 ≤ 4 → 0 ≤ p64_1 → p64_1 ≤ 8 → p64_0 ≤ (p64_1 + 1) → k151_27 ≤ p64_1 → h64_0 151 27 = p64_1 → h64_0 151 8 = 0 → h 168 x1 = 4 → h64_0 151 27 = h 151 27 + p64_0 - 1 → p64_0 ≤ h 157 (h 170 x1) → (Pfw h x1 → FwW h64_0 (h64_0 151 27)) → 5 - p64_0 ≤ (n : Int) → wp l rho d 182 64 [(2, 151), (0, x1), (0, p64_0)] [] h64_0 Q := by
    intro n
    induction n with
    | zero => intro p64_0 p64_1 h64_0 gh_64_0 q0_64_0 q1_64_0 q2_64_0 q3_64_0 q4_64_0 q5_64_0 c151_27_64_0 c151_8_64_0 k4_64_0 wd_64_0 lc_64_0 j4_64_0 hm_64_0; exfalso; omega
    | succ n ih_64_0 =>
      intro p64_0 p64_1 h64_0 gh_64_0 q0_64_0 q1_64_0 q2_64_0 q3_64_0 q4_64_0 q5_64_0 c151_27_64_0 c151_8_64_0 k4_64_0 wd_64_0 lc_64_0 j4_64_0 hm_64_0
      have a170 : h64_0 170 x1 = h 170 x1 := my_fr.at gh_64_0 is_170 rfl
      have a157 : h64_0 157 (h 170 x1) = h 157 (h 170 x1) := my_fr.at gh_64_0 is_157 rfl
      have pq := pj k4_64_0
      refine w_iload_n gz_182_64 rfl ?_
      refine w_aload_n gz_182_65 rfl ?_
      refine w_getX (v := 157) gz_182_66 is_151 rd_10 rfl (by decide) rfl ?_
      refine w_aload_n gz_182_69 rfl ?_
      refine w_getX (v := 170) gz_182_70 is_151 rd_10 rfl (by decide) rfl ?_
      refine w_iload_n gz_182_73 rfl ?_
      refine w_iald gz_182_74 is_170 rd_69 (by omega) (by omega) (fun v44 ev44 pv44 qv44 => ?_)
      have a170b : h64_0 170 x1 = h 170 x1 := my_fr.at gh_64_0 is_170 rfl
      have e75 : v44 = h 170 x1 := by omega
      have f75 : h64_0 157 v44 = h 157 v44 := my_fr.at gh_64_0 is_157 rfl
      have pq2 := pj k4_64_0
      have hi45 : 0 ≤ v44 := by omega
      have hi46 : v44 ≤ 2 := by omega
      refine w_iald gz_182_75 is_157 rd_56 (by omega) (by omega) (fun v47 ev47 pv47 qv47 => ?_)
      have a76 : v47 = h 157 (h 170 x1) := by rw [← e75]; omega
      refine w_icge (t := 130) gz_182_76 rfl (fun u48 => ?_) (fun u48 => ?_)
      ·
        refine w_goto (t := 287) gz_182_130 rfl ?_
        have ce49 : h64_0 151 27 = p64_1 := c151_27_64_0
        have c50 := c151_8_64_0
        exact w_vret gz_182_287 gm_182 (k0 h64_0 (gh_64_0) (by omega) (by first | (intro p; exact p.1) | exact j4_64_0 | (intro p j a b c; exact n7_207_0 p j a (by omega) c) | (intro p j a b c; exfalso; have z := s7_17_0 j a (by omega); omega) | (unfold ms; (repeat (first | rw [if_pos (by omega)] | rw [if_neg (by omega)])); (try omega)) | omega) (by first | (intro p; exact p.1) | exact j4_64_0 | (intro p j a b c; exact n7_207_0 p j a (by omega) c) | (intro p j a b c; exfalso; have z := s7_17_0 j a (by omega); omega) | (unfold ms; (repeat (first | rw [if_pos (by omega)] | rw [if_neg (by omega)])); (try omega)) | omega))
      ·
        refine w_aload_n gz_182_79 rfl ?_
        refine w_getX (v := 174) gz_182_80 is_151 rd_10 rfl (by decide) rfl ?_
        refine w_aload_n gz_182_83 rfl ?_
        refine v_getI (j := 27) gz_182_84 rfl is_151 rd_10 rfl (fun v52 ev52 pv52 qv52 => ?_)
        have zv52 := ev52.trans c151_27_64_0
        refine w_aload_n gz_182_87 rfl ?_
        refine w_getX (v := 170) gz_182_88 is_151 rd_10 rfl (by decide) rfl ?_
        refine w_iload_n gz_182_91 rfl ?_
        refine w_iald gz_182_92 is_170 rd_69 (by omega) (by omega) (fun v54 ev54 pv54 qv54 => ?_)
        have zv54 := ev54.trans ev44.symm
        have hi55 : 0 ≤ v52 := by first | omega | (subst_vars; omega) | grind | omega
        have hi56 : v52 ≤ 7 := by first | omega | (subst_vars; omega) | grind | omega
        refine w_iast gz_182_93 is_174 rd_73 (by omega) (by omega) (by omega) (by omega) (fun h57 fh57 => ?_)
        have gh57 : my_fr [(10, 27), (73, -1), (74, -1), (75, -1), (77, -1), (78, -1), (79, -1)] h h57 := my_fr.up gh_64_0 is_174 fh57 rfl
        have f93 := fh57
        refine w_aload_n gz_182_94 rfl ?_
        refine w_getX (v := 175) gz_182_95 is_151 rd_10 rfl (by decide) rfl ?_
        refine w_aload_n gz_182_98 rfl ?_
        refine v_getI (j := 27) gz_182_99 rfl is_151 rd_10 rfl (fun v59 ev59 pv59 qv59 => ?_)
        have zv59 := ev59.trans ((my_up_role fh57 is_151 is_174 rfl).trans ev52.symm)
        refine w_iload_n gz_182_102 rfl ?_
        have b175 : ∀ j : Int, h57 175 j = h64_0 175 j := fun j => ((my_up_role fh57 is_175 is_174 rfl).trans (rfl : h64_0 175 j = h64_0 175 j))
        refine w_iast gz_182_103 is_175 rd_74 (by omega) (by omega) (by omega) (by omega) (fun h60 fh60 => ?_)
        have gh60 : my_fr [(10, 27), (73, -1), (74, -1), (75, -1), (77, -1), (78, -1), (79, -1)] h h60 := my_fr.up gh57 is_175 fh60 rfl
        have f103 := fh60
        refine w_aload_n gz_182_104 rfl ?_
        refine w_getX (v := 176) gz_182_105 is_151 rd_10 rfl (by decide) rfl ?_
        refine w_aload_n gz_182_108 rfl ?_
        refine v_getI (j := 27) gz_182_109 rfl is_151 rd_10 rfl (fun v62 ev62 pv62 qv62 => ?_)
        have zv62 := ev62.trans ((my_up_role fh60 is_151 is_175 rfl).trans ev59.symm)
        refine w_iconst gz_182_112 (by decide) ?_
        refine w_bast gz_182_113 is_176 rd_75 (by omega) (by omega) (by omega) (by omega) (fun h63 fh63 => ?_)
        have gh63 : my_fr [(10, 27), (73, -1), (74, -1), (75, -1), (77, -1), (78, -1), (79, -1)] h h63 := my_fr.up gh60 is_176 fh63 rfl
        refine w_aload_n gz_182_114 rfl ?_
        refine w_dup gz_182_115 rfl ?_
        refine v_getI (j := 27) gz_182_116 rfl is_151 rd_10 rfl (fun v64 ev64 pv64 qv64 => ?_)
        have zv64 := ev64.trans ((my_up_role fh63 is_151 is_176 rfl).trans ev62.symm)
        refine w_iconst gz_182_119 (by decide) ?_
        refine w_iadd gz_182_120 ⟨by omega, by omega⟩ ?_
        refine v_putI (j := 27) gz_182_121 rfl is_151 rd_10 rfl (by omega) (by omega) rfl (fun h65 fh65 => ?_)
        have gh65 : my_fr [(10, 27), (73, -1), (74, -1), (75, -1), (77, -1), (78, -1), (79, -1)] h h65 := my_fr.up gh63 is_151 fh65 rfl
        refine w_iinc (ls' := [(2, 151), (0, x1), (0, (p64_0 + 1))]) gz_182_124 rfl gm_182 rfl rfl rfl ⟨by omega, by omega⟩ ?_
        refine w_goto (t := 64) gz_182_127 rfl ?_
        have ce66 : h65 151 27 = (v64 + 1) := (my_up_self fh65)
        have a174 : ∀ j : Int, h65 174 j = h57 174 j := fun j => ((my_up_role fh65 is_174 is_151 rfl).trans ((my_up_role fh63 is_174 is_176 rfl).trans ((my_up_role fh60 is_174 is_175 rfl).trans (rfl : h57 174 j = h57 174 j))))
        have a175 : ∀ j : Int, h65 175 j = h60 175 j := fun j => ((my_up_role fh65 is_175 is_151 rfl).trans ((my_up_role fh63 is_175 is_176 rfl).trans (rfl : h60 175 j = h60 175 j)))
        have a178 : ∀ j : Int, h65 178 j = h64_0 178 j := fun j => ((my_up_role fh65 is_178 is_151 rfl).trans ((my_up_role fh63 is_178 is_176 rfl).trans ((my_up_role fh60 is_178 is_175 rfl).trans ((my_up_role fh57 is_178 is_174 rfl).trans (rfl : h64_0 178 j = h64_0 178 j)))))
        have a179 : ∀ j : Int, h65 179 j = h64_0 179 j := fun j => ((my_up_role fh65 is_179 is_151 rfl).trans ((my_up_role fh63 is_179 is_176 rfl).trans ((my_up_role fh60 is_179 is_175 rfl).trans ((my_up_role fh57 is_179 is_174 rfl).trans (rfl : h64_0 179 j = h64_0 179 j)))))
        exact ih_64_0 ((p64_0 + 1)) ((v64 + 1)) h65 (gh65) (by omega) (by omega) (by omega) (by omega) (by omega) (by omega) ((my_up_self fh65).trans (by omega)) (((my_up_fld fh65 (by decide)).trans ((my_up_role fh63 is_151 is_176 rfl).trans ((my_up_role fh60 is_151 is_175 rfl).trans ((my_up_role fh57 is_151 is_174 rfl).trans c151_8_64_0)))).trans (by omega)) (by first | omega | (subst_vars; omega) | omega) (by first | omega | (subst_vars; omega) | omega) (by first | omega | (subst_vars; omega) | omega) (by first | (intro p; exact p.1) | (intro p; exact FwW_s (j4_64_0 p) (fun j q => ⟨(a174 j).trans (my_up_ne f93 (by omega)), (a175 j).trans ((my_up_ne f103 (by omega)).trans (b175 j))⟩) (by rw [a174, my_up_at f93 (by omega)]; omega) (by omega)) | omega) (by omega)
  have J17_0 : ∀ (n : Nat) (p17_0 : Int) (h17_0 : my_H), my_fr [(10, 27), (73, -1), (74, -1), (75, -1), (77, -1), (78, -1), (79, -1)] h h17_0 → 0 ≤ p17_0 → p17_0 ≤ 2 → h17_0 151 27 = 2 → h17_0 151 8 = 0 → h 168 x1 = 5 → h17_0 151 27 = 2 → (∀ j : Int, 0 ≤ j → j < p17_0 → h17_0 175 j = -1) → 3 - p17_0 ≤ (n : Int) → wp l rho d 182 17 [(2, 151), (0, x1), (0, p17_0)] [] h17_0 Q := by
    intro n
    induction n with
    | zero => intro p17_0 h17_0 gh_17_0 q0_17_0 q1_17_0 c151_27_17_0 c151_8_17_0 k5_17_0 w5_17_0 s7_17_0 hm_17_0; exfalso; omega
    | succ n ih_17_0 =>
      intro p17_0 h17_0 gh_17_0 q0_17_0 q1_17_0 c151_27_17_0 c151_8_17_0 k5_17_0 w5_17_0 s7_17_0 hm_17_0
      refine w_iload_n gz_182_17 rfl ?_
      refine w_iconst gz_182_18 (by decide) ?_
      refine w_icge (t := 49) gz_182_19 rfl (fun u67 => ?_) (fun u67 => ?_)
      ·
        refine w_goto (t := 287) gz_182_49 rfl ?_
        have ce68 : h17_0 151 27 = 2 := c151_27_17_0
        have c69 := c151_8_17_0
        exact w_vret gz_182_287 gm_182 (k0 h17_0 (gh_17_0) (by omega) (by first | (intro p; exact p.1) | exact j4_64_0 | (intro p j a b c; exact n7_207_0 p j a (by omega) c) | (intro p j a b c; exfalso; have z := s7_17_0 j a (by omega); omega) | (unfold ms; (repeat (first | rw [if_pos (by omega)] | rw [if_neg (by omega)])); (try omega)) | omega) (by first | (intro p; exact p.1) | exact j4_64_0 | (intro p j a b c; exact n7_207_0 p j a (by omega) c) | (intro p j a b c; exfalso; have z := s7_17_0 j a (by omega); omega) | (unfold ms; (repeat (first | rw [if_pos (by omega)] | rw [if_neg (by omega)])); (try omega)) | omega))
      ·
        refine w_aload_n gz_182_22 rfl ?_
        refine w_getX (v := 174) gz_182_23 is_151 rd_10 rfl (by decide) rfl ?_
        refine w_iload_n gz_182_26 rfl ?_
        refine w_iconst gz_182_27 (by decide) ?_
        refine w_iast gz_182_28 is_174 rd_73 (by omega) (by omega) (by omega) (by omega) (fun h71 fh71 => ?_)
        have gh71 : my_fr [(10, 27), (73, -1), (74, -1), (75, -1), (77, -1), (78, -1), (79, -1)] h h71 := my_fr.up gh_17_0 is_174 fh71 rfl
        refine w_aload_n gz_182_29 rfl ?_
        refine w_getX (v := 175) gz_182_30 is_151 rd_10 rfl (by decide) rfl ?_
        refine w_iload_n gz_182_33 rfl ?_
        refine w_iconst gz_182_34 (by decide) ?_
        have b175 : ∀ j : Int, h71 175 j = h17_0 175 j := fun j => ((my_up_role fh71 is_175 is_174 rfl).trans (rfl : h17_0 175 j = h17_0 175 j))
        refine w_iast gz_182_35 is_175 rd_74 (by omega) (by omega) (by omega) (by omega) (fun h73 fh73 => ?_)
        have gh73 : my_fr [(10, 27), (73, -1), (74, -1), (75, -1), (77, -1), (78, -1), (79, -1)] h h73 := my_fr.up gh71 is_175 fh73 rfl
        have f35 := fh73
        refine w_aload_n gz_182_36 rfl ?_
        refine w_getX (v := 176) gz_182_37 is_151 rd_10 rfl (by decide) rfl ?_
        refine w_iload_n gz_182_40 rfl ?_
        refine w_iconst gz_182_41 (by decide) ?_
        refine w_bast gz_182_42 is_176 rd_75 (by omega) (by omega) (by omega) (by omega) (fun h75 fh75 => ?_)
        have gh75 : my_fr [(10, 27), (73, -1), (74, -1), (75, -1), (77, -1), (78, -1), (79, -1)] h h75 := my_fr.up gh73 is_176 fh75 rfl
        refine w_iinc (ls' := [(2, 151), (0, x1), (0, (p17_0 + 1))]) gz_182_43 rfl gm_182 rfl rfl rfl ⟨by omega, by omega⟩ ?_
        refine w_goto (t := 17) gz_182_46 rfl ?_
        have ce76 : h75 151 27 = 2 := ((my_up_role fh75 is_151 is_176 rfl).trans ((my_up_role fh73 is_151 is_175 rfl).trans ((my_up_role fh71 is_151 is_174 rfl).trans c151_27_17_0)))
        have a174 : ∀ j : Int, h75 174 j = h71 174 j := fun j => ((my_up_role fh75 is_174 is_176 rfl).trans ((my_up_role fh73 is_174 is_175 rfl).trans (rfl : h71 174 j = h71 174 j)))
        have a175 : ∀ j : Int, h75 175 j = h73 175 j := fun j => ((my_up_role fh75 is_175 is_176 rfl).trans (rfl : h73 175 j = h73 175 j))
        have a178 : ∀ j : Int, h75 178 j = h17_0 178 j := fun j => ((my_up_role fh75 is_178 is_176 rfl).trans ((my_up_role fh73 is_178 is_175 rfl).trans ((my_up_role fh71 is_178 is_174 rfl).trans (rfl : h17_0 178 j = h17_0 178 j))))
        have a179 : ∀ j : Int, h75 179 j = h17_0 179 j := fun j => ((my_up_role fh75 is_179 is_176 rfl).trans ((my_up_role fh73 is_179 is_175 rfl).trans ((my_up_role fh71 is_179 is_174 rfl).trans (rfl : h17_0 179 j = h17_0 179 j))))
        exact ih_17_0 ((p17_0 + 1)) h75 (gh75) (by omega) (by omega) (((my_up_role fh75 is_151 is_176 rfl).trans ((my_up_role fh73 is_151 is_175 rfl).trans ((my_up_role fh71 is_151 is_174 rfl).trans c151_27_17_0))).trans (by omega)) (((my_up_role fh75 is_151 is_176 rfl).trans ((my_up_role fh73 is_151 is_175 rfl).trans ((my_up_role fh71 is_151 is_174 rfl).trans c151_8_17_0))).trans (by omega)) (by first | omega | (subst_vars; omega) | omega) (by first | omega | (subst_vars; omega) | omega) (by first | (intro j a b; exfalso; omega) | (intro j a b; rw [a175]; rcases (by omega : j = p17_0 ∨ j < p17_0) with q | q <;> first | (rw [my_up_ne f35 (by omega), b175]; exact s7_17_0 j a q) | (rw [my_up_at f35 (by omega)])) | omega) (by omega)
  refine w_aload_n gz_182_0 rfl ?_
  refine w_getX (v := 168) gz_182_1 is_151 rd_10 rfl (by decide) rfl ?_
  refine w_iload_n gz_182_4 rfl ?_
  refine w_iald gz_182_5 is_168 rd_67 (by omega) (by omega) (fun v78 ev78 pv78 qv78 => ?_)
  refine w_iconst gz_182_6 (by decide) ?_
  refine w_icne (t := 52) gz_182_7 rfl (fun u79 => ?_) (fun u79 => ?_)
  ·
    refine w_aload_n gz_182_52 rfl ?_
    refine w_getX (v := 168) gz_182_53 is_151 rd_10 rfl (by decide) rfl ?_
    refine w_iload_n gz_182_56 rfl ?_
    refine w_iald gz_182_57 is_168 rd_67 (by omega) (by omega) (fun v81 ev81 pv81 qv81 => ?_)
    have zv81 := ev81.trans ev78.symm
    refine w_iconst gz_182_58 (by decide) ?_
    refine w_icne (t := 133) gz_182_59 rfl (fun u82 => ?_) (fun u82 => ?_)
    ·
      refine w_aload_n gz_182_133 rfl ?_
      refine w_getX (v := 168) gz_182_134 is_151 rd_10 rfl (by decide) rfl ?_
      refine w_iload_n gz_182_137 rfl ?_
      refine w_iald gz_182_138 is_168 rd_67 (by omega) (by omega) (fun v84 ev84 pv84 qv84 => ?_)
      have zv84 := ev84.trans ev81.symm
      refine w_iconst gz_182_139 (by decide) ?_
      refine w_icne (t := 287) gz_182_140 rfl (fun u85 => ?_) (fun u85 => ?_)
      ·
        have ce86 : h 151 27 = k151_27 := ek151_27.symm
        have c87 := cf
        exact w_vret gz_182_287 gm_182 (k0 h (my_fr.rf) (by omega) (by first | (intro p; exact p.1) | exact j4_64_0 | (intro p j a b c; exact n7_207_0 p j a (by omega) c) | (intro p j a b c; exfalso; have z := s7_17_0 j a (by omega); omega) | (unfold ms; (repeat (first | rw [if_pos (by omega)] | rw [if_neg (by omega)])); (try omega)) | omega) (by first | (intro p; exact p.1) | exact j4_64_0 | (intro p j a b c; exact n7_207_0 p j a (by omega) c) | (intro p j a b c; exfalso; have z := s7_17_0 j a (by omega); omega) | (unfold ms; (repeat (first | rw [if_pos (by omega)] | rw [if_neg (by omega)])); (try omega)) | omega))
      ·
        refine w_iconst gz_182_143 (by decide) ?_
        refine w_istore_n (ls' := [(2, 151), (0, x1), (0, 0)]) gz_182_144 gm_182 rfl rfl rfl ?_
        have a174 : ∀ j : Int, h 174 j = h 174 j := fun _ => rfl
        have a175 : ∀ j : Int, h 175 j = h 175 j := fun _ => rfl
        have a178 : ∀ j : Int, h 178 j = h 178 j := fun _ => rfl
        have a179 : ∀ j : Int, h 179 j = h 179 j := fun _ => rfl
        exact J145_0 9 (0) h (my_fr.rf) (by omega) (by omega) (by omega) (ek151_27.symm.trans (by omega)) (cf.trans (by omega)) (by first | omega | (subst_vars; omega) | omega) (by first | (intro j a b; exfalso; omega) | (intro j a b; rw [a178, a179]; exact k45_145_0 j a (by omega)) | (intro j a b; rw [a178, a179]; exact k45_207_0 j a b) | (intro j a b; rw [a178, a179]; rcases (by omega : j = p145_0 ∨ j < p145_0) with q | q <;> first | (rw [my_up_ne f164 (by omega), my_up_ne f176 (by omega), b179]; exact k45_145_0 j a q) | (rw [my_up_at f164 (by omega), my_up_at f176 (by omega)]; have z := s45_145_0 j; have z2 := c175 j; subst q; omega)) | omega) (by first | (intro j; exact ⟨a174 j, a175 j⟩) | (intro j; rw [a174, a175]; exact s45_145_0 j) | omega) (by omega)
    ·
      refine w_iconst gz_182_62 (by decide) ?_
      refine w_istore_n (ls' := [(2, 151), (0, x1), (0, 1)]) gz_182_63 gm_182 rfl rfl rfl ?_
      have ce88 : h 151 27 = k151_27 := ek151_27.symm
      have a174 : ∀ j : Int, h 174 j = h 174 j := fun _ => rfl
      have a175 : ∀ j : Int, h 175 j = h 175 j := fun _ => rfl
      have a178 : ∀ j : Int, h 178 j = h 178 j := fun _ => rfl
      have a179 : ∀ j : Int, h 179 j = h 179 j := fun _ => rfl
      exact J64_0 4 (1) (k151_27) h (my_fr.rf) (by omega) (by omega) (by omega) (by omega) (by omega) (by omega) (ek151_27.symm.trans (by omega)) (cf.trans (by omega)) (by first | omega | (subst_vars; omega) | omega) (by first | omega | (subst_vars; omega) | omega) (by first | omega | (subst_vars; omega) | omega) (by first | (intro p; exact p.1) | (intro p; exact FwW_s (j4_64_0 p) (fun j q => ⟨(a174 j).trans (my_up_ne f93 (by omega)), (a175 j).trans ((my_up_ne f103 (by omega)).trans (b175 j))⟩) (by rw [a174, my_up_at f93 (by omega)]; omega) (by omega)) | omega) (by omega)
  ·
    refine w_aload_n gz_182_10 rfl ?_
    refine w_iconst gz_182_11 (by decide) ?_
    refine v_putI (j := 27) gz_182_12 rfl is_151 rd_10 rfl (by omega) (by omega) rfl (fun h89 fh89 => ?_)
    have gh89 : my_fr [(10, 27), (73, -1), (74, -1), (75, -1), (77, -1), (78, -1), (79, -1)] h h89 := my_fr.up my_fr.rf is_151 fh89 rfl
    refine w_iconst gz_182_15 (by decide) ?_
    refine w_istore_n (ls' := [(2, 151), (0, x1), (0, 0)]) gz_182_16 gm_182 rfl rfl rfl ?_
    have ce90 : h89 151 27 = 2 := (my_up_self fh89)
    have a174 : ∀ j : Int, h89 174 j = h 174 j := fun j => ((my_up_role fh89 is_174 is_151 rfl).trans (rfl : h 174 j = h 174 j))
    have a175 : ∀ j : Int, h89 175 j = h 175 j := fun j => ((my_up_role fh89 is_175 is_151 rfl).trans (rfl : h 175 j = h 175 j))
    have a178 : ∀ j : Int, h89 178 j = h 178 j := fun j => ((my_up_role fh89 is_178 is_151 rfl).trans (rfl : h 178 j = h 178 j))
    have a179 : ∀ j : Int, h89 179 j = h 179 j := fun j => ((my_up_role fh89 is_179 is_151 rfl).trans (rfl : h 179 j = h 179 j))
    exact J17_0 3 (0) h89 (gh89) (by omega) (by omega) ((my_up_self fh89).trans (by omega)) (((my_up_fld fh89 (by decide)).trans cf).trans (by omega)) (by first | omega | (subst_vars; omega) | omega) (by first | omega | (subst_vars; omega) | omega) (by first | (intro j a b; exfalso; omega) | (intro j a b; rw [a175]; rcases (by omega : j = p17_0 ∨ j < p17_0) with q | q <;> first | (rw [my_up_ne f35 (by omega), b175]; exact s7_17_0 j a q) | (rw [my_up_at f35 (by omega)])) | omega) (by omega)
theorem c_Model_pane2 {l : Launch} {rho : Nat → Int32} {d : Nat} {h : my_H} {Q : my_H → my_V → Prop} {x1 : Int} (a1 : 0 ≤ x1) (b1 : x1 ≤ 41) (pj : h 168 x1 = 4 → 0 ≤ h 170 x1 ∧ h 170 x1 ≤ 2 ∧ 1 ≤ h 157 (h 170 x1) ∧ h 151 27 + h 157 (h 170 x1) ≤ 9) (k0 : ∀ (h' : my_H), my_fr [(10, 27), (73, -1), (74, -1), (75, -1), (77, -1), (78, -1), (79, -1)] h h' → h' 151 27 = ms h x1 (h 151 27) → (Pfw h x1 → FwW h' (h' 151 27)) → Q h' (9, 0)) : wp l rho d 182 0 [(2, 151), (0, x1), (9, 0)] [] h Q := by
  refine v_know (x := 151) (j := 27) (b := 27) rfl is_151 rd_10 rfl (fun k151_27 ek151_27 pk151_27 qk151_27 => ?_)
  have J207_0 : ∀ (n : Nat) (p207_0 p207_1 : Int) (h207_0 : my_H), my_fr [(10, 27), (73, -1), (74, -1), (75, -1), (77, -1), (78, -1), (79, -1)] h h207_0 → 0 ≤ p207_0 → p207_0 ≤ 8 → 0 ≤ p207_1 → p207_1 ≤ 8 → p207_0 ≤ p207_1 → h207_0 151 27 = p207_1 → h 168 x1 = 3 → h207_0 151 27 = h 171 x1 → (∀ j : Int, 0 ≤ j → j < h 151 27 → h207_0 178 j = h 174 j ∧ h207_0 179 j = h 175 j) → (Pfw h x1 → ∀ j : Int, 0 ≤ j → j < p207_0 → 0 ≤ h207_0 175 j → 0 ≤ h207_0 174 j) → 9 - p207_0 ≤ (n : Int) → wp l rho d 182 207 [(2, 151), (0, x1), (0, p207_0)] [] h207_0 Q := by
    intro n
    induction n with
    | zero => intro p207_0 p207_1 h207_0 gh_207_0 q0_207_0 q1_207_0 q2_207_0 q3_207_0 q4_207_0 c151_27_207_0 k3_207_0 w3_207_0 k45_207_0 n7_207_0 hm_207_0; exfalso; omega
    | succ n ih_207_0 =>
      intro p207_0 p207_1 h207_0 gh_207_0 q0_207_0 q1_207_0 q2_207_0 q3_207_0 q4_207_0 c151_27_207_0 k3_207_0 w3_207_0 k45_207_0 n7_207_0 hm_207_0
      refine w_iload_n gz_182_207 rfl ?_
      refine w_aload_n gz_182_208 rfl ?_
      refine v_getI (j := 27) gz_182_209 rfl is_151 rd_10 rfl (fun v1 ev1 pv1 qv1 => ?_)
      have zv1 := ev1.trans c151_27_207_0
      refine w_icge (t := 287) gz_182_212 rfl (fun u2 => ?_) (fun u2 => ?_)
      ·
        have ce3 : h207_0 151 27 = v1 := ev1.symm
        exact w_vret gz_182_287 gm_182 (k0 h207_0 (gh_207_0) (by first | (intro p; exact p.1) | exact j4_64_0 | (intro p j a b c; exact n7_207_0 p j a (by omega) c) | (intro p j a b c; exfalso; have z := s7_17_0 j a (by omega); omega) | (unfold ms; (repeat (first | rw [if_pos (by omega)] | rw [if_neg (by omega)])); (try omega)) | omega) (by first | (intro p; exact p.1) | exact j4_64_0 | (intro p j a b c; exact n7_207_0 p j a (by omega) c) | (intro p j a b c; exfalso; have z := s7_17_0 j a (by omega); omega) | (unfold ms; (repeat (first | rw [if_pos (by omega)] | rw [if_neg (by omega)])); (try omega)) | omega))
      ·
        refine w_aload_n gz_182_215 rfl ?_
        refine w_getX (v := 174) gz_182_216 is_151 rd_10 rfl (by decide) rfl ?_
        refine w_iload_n gz_182_219 rfl ?_
        refine w_aload_n gz_182_220 rfl ?_
        refine w_getX (v := 178) gz_182_221 is_151 rd_10 rfl (by decide) rfl ?_
        refine w_aload_n gz_182_224 rfl ?_
        refine w_getX (v := 172) gz_182_225 is_151 rd_10 rfl (by decide) rfl ?_
        refine w_bipush gz_182_228 (by decide) ?_
        refine w_iload_n gz_182_230 rfl ?_
        refine w_imul gz_182_231 ⟨by omega, by omega⟩ ?_
        refine w_iload_n gz_182_232 rfl ?_
        refine w_iadd gz_182_233 ⟨by omega, by omega⟩ ?_
        refine w_iald gz_182_234 is_172 rd_71 (by omega) (by omega) (fun v7 ev7 pv7 qv7 => ?_)
        have f172 : ∀ j : Int, h207_0 172 j = h 172 j := fun j => my_fr.at gh_207_0 is_172 rfl
        have ff : Pfw h x1 → v7 < h 151 27 := fun p => by have z := p.2.2.2 k3_207_0 p207_0 (by omega) (by omega) (by omega); rw [← f172] at z; omega
        obtain ⟨vf, ef⟩ : ∃ vf : Int, vf = v7 := ⟨_, rfl⟩
        refine w_iald gz_182_235 is_178 rd_77 (by omega) (by omega) (fun v8 ev8 pv8 qv8 => ?_)
        have g5 : v8 = h207_0 178 vf := by rw [ef]; omega
        refine w_iast gz_182_236 is_174 rd_73 (by omega) (by omega) (by omega) (by omega) (fun h9 fh9 => ?_)
        have gh9 : my_fr [(10, 27), (73, -1), (74, -1), (75, -1), (77, -1), (78, -1), (79, -1)] h h9 := my_fr.up gh_207_0 is_174 fh9 rfl
        have f236 := fh9
        have k236 := my_up_self fh9
        refine w_aload_n gz_182_237 rfl ?_
        refine w_getX (v := 175) gz_182_238 is_151 rd_10 rfl (by decide) rfl ?_
        refine w_iload_n gz_182_241 rfl ?_
        refine w_aload_n gz_182_242 rfl ?_
        refine w_getX (v := 179) gz_182_243 is_151 rd_10 rfl (by decide) rfl ?_
        refine w_aload_n gz_182_246 rfl ?_
        refine w_getX (v := 172) gz_182_247 is_151 rd_10 rfl (by decide) rfl ?_
        refine w_bipush gz_182_250 (by decide) ?_
        refine w_iload_n gz_182_252 rfl ?_
        refine w_imul gz_182_253 ⟨by omega, by omega⟩ ?_
        refine w_iload_n gz_182_254 rfl ?_
        refine w_iadd gz_182_255 ⟨by omega, by omega⟩ ?_
        refine w_iald gz_182_256 is_172 rd_71 (by omega) (by omega) (fun v13 ev13 pv13 qv13 => ?_)
        have f172b : ∀ j : Int, h9 172 j = h 172 j := fun j => my_fr.at gh9 is_172 rfl
        have ff2 : v13 = vf := by have z1 := f172 (8 * x1 + p207_0); have z2 := f172b (8 * x1 + p207_0); omega
        refine w_iald gz_182_257 is_179 rd_78 (by omega) (by omega) (fun v14 ev14 pv14 qv14 => ?_)
        have e179 : ∀ j : Int, h9 179 j = h207_0 179 j := fun j => ((my_up_role fh9 is_179 is_174 rfl).trans (rfl : h207_0 179 j = h207_0 179 j))
        have b175 : ∀ j : Int, h9 175 j = h207_0 175 j := fun j => ((my_up_role fh9 is_175 is_174 rfl).trans (rfl : h207_0 175 j = h207_0 175 j))
        have g7 : v14 = h9 179 vf := by rw [← ff2]; omega
        have n7s : Pfw h x1 → 0 ≤ v14 → 0 ≤ h9 174 p207_0 := fun p c => by have z0 := ff p; have z := k45_207_0 vf (by omega) (by omega); have z2 := e179 vf; have z3 := p.1 vf (by omega) (by omega); omega
        refine w_iast gz_182_258 is_175 rd_74 (by omega) (by omega) (by omega) (by omega) (fun h15 fh15 => ?_)
        have gh15 : my_fr [(10, 27), (73, -1), (74, -1), (75, -1), (77, -1), (78, -1), (79, -1)] h h15 := my_fr.up gh9 is_175 fh15 rfl
        have f258 := fh15
        refine w_aload_n gz_182_259 rfl ?_
        refine w_getX (v := 176) gz_182_260 is_151 rd_10 rfl (by decide) rfl ?_
        refine w_iload_n gz_182_263 rfl ?_
        refine w_aload_n gz_182_264 rfl ?_
        refine w_getX (v := 180) gz_182_265 is_151 rd_10 rfl (by decide) rfl ?_
        refine w_aload_n gz_182_268 rfl ?_
        refine w_getX (v := 172) gz_182_269 is_151 rd_10 rfl (by decide) rfl ?_
        refine w_bipush gz_182_272 (by decide) ?_
        refine w_iload_n gz_182_274 rfl ?_
        refine w_imul gz_182_275 ⟨by omega, by omega⟩ ?_
        refine w_iload_n gz_182_276 rfl ?_
        refine w_iadd gz_182_277 ⟨by omega, by omega⟩ ?_
        refine w_iald gz_182_278 is_172 rd_71 (by omega) (by omega) (fun v19 ev19 pv19 qv19 => ?_)
        refine w_bald gz_182_279 is_180 rd_79 (by omega) (by omega) (fun v20 ev20 pv20 qv20 => ?_)
        refine w_bast gz_182_280 is_176 rd_75 (by omega) (by omega) (by omega) (by omega) (fun h21 fh21 => ?_)
        have gh21 : my_fr [(10, 27), (73, -1), (74, -1), (75, -1), (77, -1), (78, -1), (79, -1)] h h21 := my_fr.up gh15 is_176 fh21 rfl
        refine w_iinc (ls' := [(2, 151), (0, x1), (0, (p207_0 + 1))]) gz_182_281 rfl gm_182 rfl rfl rfl ⟨by omega, by omega⟩ ?_
        refine w_goto (t := 207) gz_182_284 rfl ?_
        have ce22 : h21 151 27 = v1 := ((my_up_role fh21 is_151 is_176 rfl).trans ((my_up_role fh15 is_151 is_175 rfl).trans ((my_up_role fh9 is_151 is_174 rfl).trans ev1.symm)))
        have a174 : ∀ j : Int, h21 174 j = h9 174 j := fun j => ((my_up_role fh21 is_174 is_176 rfl).trans ((my_up_role fh15 is_174 is_175 rfl).trans (rfl : h9 174 j = h9 174 j)))
        have a175 : ∀ j : Int, h21 175 j = h15 175 j := fun j => ((my_up_role fh21 is_175 is_176 rfl).trans (rfl : h15 175 j = h15 175 j))
        have a178 : ∀ j : Int, h21 178 j = h207_0 178 j := fun j => ((my_up_role fh21 is_178 is_176 rfl).trans ((my_up_role fh15 is_178 is_175 rfl).trans ((my_up_role fh9 is_178 is_174 rfl).trans (rfl : h207_0 178 j = h207_0 178 j))))
        have a179 : ∀ j : Int, h21 179 j = h207_0 179 j := fun j => ((my_up_role fh21 is_179 is_176 rfl).trans ((my_up_role fh15 is_179 is_175 rfl).trans ((my_up_role fh9 is_179 is_174 rfl).trans (rfl : h207_0 179 j = h207_0 179 j))))
        exact ih_207_0 ((p207_0 + 1)) (v1) h21 (gh21) (by omega) (by omega) (by omega) (by omega) (by omega) (((my_up_role fh21 is_151 is_176 rfl).trans ((my_up_role fh15 is_151 is_175 rfl).trans ((my_up_role fh9 is_151 is_174 rfl).trans ev1.symm))).trans (by omega)) (by first | omega | (subst_vars; omega) | omega) (by first | omega | (subst_vars; omega) | omega) (by first | (intro j a b; exfalso; omega) | (intro j a b; rw [a178, a179]; exact k45_145_0 j a (by omega)) | (intro j a b; rw [a178, a179]; exact k45_207_0 j a b) | (intro j a b; rw [a178, a179]; rcases (by omega : j = p207_0 ∨ j < p207_0) with q | q <;> first | (rw [my_up_ne f164 (by omega), my_up_ne f176 (by omega), b179]; exact k45_145_0 j a q) | (rw [my_up_at f164 (by omega), my_up_at f176 (by omega)]; have z := s45_145_0 j; have z2 := c175 j; subst q; omega)) | omega) (by first | (intro p j a b; exfalso; omega) | (intro p j a b c; rw [a175] at c; rw [a174]; rcases (by omega : j = p207_0 ∨ j < p207_0) with q | q <;> first | (rw [my_up_ne f258 (by omega), b175] at c; rw [my_up_ne f236 (by omega)]; exact n7_207_0 p j a q c) | (subst q; rw [my_up_at f258 (by omega)] at c; exact n7s p c)) | omega) (by omega)
  have J145_0 : ∀ (n : Nat) (p145_0 : Int) (h145_0 : my_H), my_fr [(10, 27), (73, -1), (74, -1), (75, -1), (77, -1), (78, -1), (79, -1)] h h145_0 → 0 ≤ p145_0 → p145_0 ≤ 8 → p145_0 ≤ k151_27 → h145_0 151 27 = k151_27 → h 168 x1 = 3 → (∀ j : Int, 0 ≤ j → j < p145_0 → h145_0 178 j = h 174 j ∧ h145_0 179 j = h 175 j) → (∀ j : Int, h145_0 174 j = h 174 j ∧ h145_0 175 j = h 175 j) → 9 - p145_0 ≤ (n : Int) → wp l rho d 182 145 [(2, 151), (0, x1), (0, p145_0)] [] h145_0 Q := by
    intro n
    induction n with
    | zero => intro p145_0 h145_0 gh_145_0 q0_145_0 q1_145_0 q2_145_0 c151_27_145_0 k3_145_0 k45_145_0 s45_145_0 hm_145_0; exfalso; omega
    | succ n ih_145_0 =>
      intro p145_0 h145_0 gh_145_0 q0_145_0 q1_145_0 q2_145_0 c151_27_145_0 k3_145_0 k45_145_0 s45_145_0 hm_145_0
      refine w_iload_n gz_182_145 rfl ?_
      refine w_aload_n gz_182_146 rfl ?_
      refine v_getI (j := 27) gz_182_147 rfl is_151 rd_10 rfl (fun v23 ev23 pv23 qv23 => ?_)
      have zv23 := ev23.trans c151_27_145_0
      refine w_icge (t := 195) gz_182_150 rfl (fun u24 => ?_) (fun u24 => ?_)
      ·
        refine w_aload_n gz_182_195 rfl ?_
        refine w_aload_n gz_182_196 rfl ?_
        refine w_getX (v := 171) gz_182_197 is_151 rd_10 rfl (by decide) rfl ?_
        refine w_iload_n gz_182_200 rfl ?_
        refine w_iald gz_182_201 is_171 rd_70 (by omega) (by omega) (fun v26 ev26 pv26 qv26 => ?_)
        have a171 : h145_0 171 x1 = h 171 x1 := my_fr.at gh_145_0 is_171 rfl
        refine v_putI (j := 27) gz_182_202 rfl is_151 rd_10 rfl (by omega) (by omega) rfl (fun h27 fh27 => ?_)
        have gh27 : my_fr [(10, 27), (73, -1), (74, -1), (75, -1), (77, -1), (78, -1), (79, -1)] h h27 := my_fr.up gh_145_0 is_151 fh27 rfl
        refine w_iconst gz_182_205 (by decide) ?_
        refine w_istore_n (ls' := [(2, 151), (0, x1), (0, 0)]) gz_182_206 gm_182 rfl rfl rfl ?_
        have ce28 : h27 151 27 = v26 := (my_up_self fh27)
        have a174 : ∀ j : Int, h27 174 j = h145_0 174 j := fun j => ((my_up_role fh27 is_174 is_151 rfl).trans (rfl : h145_0 174 j = h145_0 174 j))
        have a175 : ∀ j : Int, h27 175 j = h145_0 175 j := fun j => ((my_up_role fh27 is_175 is_151 rfl).trans (rfl : h145_0 175 j = h145_0 175 j))
        have a178 : ∀ j : Int, h27 178 j = h145_0 178 j := fun j => ((my_up_role fh27 is_178 is_151 rfl).trans (rfl : h145_0 178 j = h145_0 178 j))
        have a179 : ∀ j : Int, h27 179 j = h145_0 179 j := fun j => ((my_up_role fh27 is_179 is_151 rfl).trans (rfl : h145_0 179 j = h145_0 179 j))
        exact J207_0 9 (0) (v26) h27 (gh27) (by omega) (by omega) (by omega) (by omega) (by omega) ((my_up_self fh27).trans (by omega)) (by first | omega | (subst_vars; omega) | omega) (by first | omega | (subst_vars; omega) | omega) (by first | (intro j a b; exfalso; omega) | (intro j a b; rw [a178, a179]; exact k45_145_0 j a (by omega)) | (intro j a b; rw [a178, a179]; exact k45_207_0 j a b) | (intro j a b; rw [a178, a179]; rcases (by omega : j = p207_0 ∨ j < p207_0) with q | q <;> first | (rw [my_up_ne f164 (by omega), my_up_ne f176 (by omega), b179]; exact k45_145_0 j a q) | (rw [my_up_at f164 (by omega), my_up_at f176 (by omega)]; have z := s45_145_0 j; have z2 := c175 j; subst q; omega)) | omega) (by first | (intro p j a b; exfalso; omega) | (intro p j a b c; rw [a175] at c; rw [a174]; rcases (by omega : j = p207_0 ∨ j < p207_0) with q | q <;> first | (rw [my_up_ne f258 (by omega), b175] at c; rw [my_up_ne f236 (by omega)]; exact n7_207_0 p j a q c) | (subst q; rw [my_up_at f258 (by omega)] at c; exact n7s p c)) | omega) (by omega)
      ·
        refine w_aload_n gz_182_153 rfl ?_
        refine w_getX (v := 178) gz_182_154 is_151 rd_10 rfl (by decide) rfl ?_
        refine w_iload_n gz_182_157 rfl ?_
        refine w_aload_n gz_182_158 rfl ?_
        refine w_getX (v := 174) gz_182_159 is_151 rd_10 rfl (by decide) rfl ?_
        refine w_iload_n gz_182_162 rfl ?_
        refine w_iald gz_182_163 is_174 rd_73 (by omega) (by omega) (fun v31 ev31 pv31 qv31 => ?_)
        refine w_iast gz_182_164 is_178 rd_77 (by omega) (by omega) (by omega) (by omega) (fun h32 fh32 => ?_)
        have gh32 : my_fr [(10, 27), (73, -1), (74, -1), (75, -1), (77, -1), (78, -1), (79, -1)] h h32 := my_fr.up gh_145_0 is_178 fh32 rfl
        have f164 := fh32
        refine w_aload_n gz_182_165 rfl ?_
        refine w_getX (v := 179) gz_182_166 is_151 rd_10 rfl (by decide) rfl ?_
        refine w_iload_n gz_182_169 rfl ?_
        refine w_aload_n gz_182_170 rfl ?_
        refine w_getX (v := 175) gz_182_171 is_151 rd_10 rfl (by decide) rfl ?_
        refine w_iload_n gz_182_174 rfl ?_
        refine w_iald gz_182_175 is_175 rd_74 (by omega) (by omega) (fun v35 ev35 pv35 qv35 => ?_)
        have b179 : ∀ j : Int, h32 179 j = h145_0 179 j := fun j => ((my_up_role fh32 is_179 is_178 rfl).trans (rfl : h145_0 179 j = h145_0 179 j))
        have c175 : ∀ j : Int, h32 175 j = h145_0 175 j := fun j => ((my_up_role fh32 is_175 is_178 rfl).trans (rfl : h145_0 175 j = h145_0 175 j))
        refine w_iast gz_182_176 is_179 rd_78 (by omega) (by omega) (by omega) (by omega) (fun h36 fh36 => ?_)
        have gh36 : my_fr [(10, 27), (73, -1), (74, -1), (75, -1), (77, -1), (78, -1), (79, -1)] h h36 := my_fr.up gh32 is_179 fh36 rfl
        have f176 := fh36
        refine w_aload_n gz_182_177 rfl ?_
        refine w_getX (v := 180) gz_182_178 is_151 rd_10 rfl (by decide) rfl ?_
        refine w_iload_n gz_182_181 rfl ?_
        refine w_aload_n gz_182_182 rfl ?_
        refine w_getX (v := 176) gz_182_183 is_151 rd_10 rfl (by decide) rfl ?_
        refine w_iload_n gz_182_186 rfl ?_
        refine w_bald gz_182_187 is_176 rd_75 (by omega) (by omega) (fun v39 ev39 pv39 qv39 => ?_)
        refine w_bast gz_182_188 is_180 rd_79 (by omega) (by omega) (by omega) (by omega) (fun h40 fh40 => ?_)
        have gh40 : my_fr [(10, 27), (73, -1), (74, -1), (75, -1), (77, -1), (78, -1), (79, -1)] h h40 := my_fr.up gh36 is_180 fh40 rfl
        refine w_iinc (ls' := [(2, 151), (0, x1), (0, (p145_0 + 1))]) gz_182_189 rfl gm_182 rfl rfl rfl ⟨by omega, by omega⟩ ?_
        refine w_goto (t := 145) gz_182_192 rfl ?_
        have a174 : ∀ j : Int, h40 174 j = h145_0 174 j := fun j => ((my_up_role fh40 is_174 is_180 rfl).trans ((my_up_role fh36 is_174 is_179 rfl).trans ((my_up_role fh32 is_174 is_178 rfl).trans (rfl : h145_0 174 j = h145_0 174 j))))
        have a175 : ∀ j : Int, h40 175 j = h145_0 175 j := fun j => ((my_up_role fh40 is_175 is_180 rfl).trans ((my_up_role fh36 is_175 is_179 rfl).trans ((my_up_role fh32 is_175 is_178 rfl).trans (rfl : h145_0 175 j = h145_0 175 j))))
        have a178 : ∀ j : Int, h40 178 j = h32 178 j := fun j => ((my_up_role fh40 is_178 is_180 rfl).trans ((my_up_role fh36 is_178 is_179 rfl).trans (rfl : h32 178 j = h32 178 j)))
        have a179 : ∀ j : Int, h40 179 j = h36 179 j := fun j => ((my_up_role fh40 is_179 is_180 rfl).trans (rfl : h36 179 j = h36 179 j))
        exact ih_145_0 ((p145_0 + 1)) h40 (gh40) (by omega) (by omega) (by omega) (((my_up_role fh40 is_151 is_180 rfl).trans ((my_up_role fh36 is_151 is_179 rfl).trans ((my_up_role fh32 is_151 is_178 rfl).trans ev23.symm))).trans (by omega)) (by first | omega | (subst_vars; omega) | omega) (by first | (intro j a b; exfalso; omega) | (intro j a b; rw [a178, a179]; exact k45_145_0 j a (by omega)) | (intro j a b; rw [a178, a179]; exact k45_207_0 j a b) | (intro j a b; rw [a178, a179]; rcases (by omega : j = p145_0 ∨ j < p145_0) with q | q <;> first | (rw [my_up_ne f164 (by omega), my_up_ne f176 (by omega), b179]; exact k45_145_0 j a q) | (rw [my_up_at f164 (by omega), my_up_at f176 (by omega)]; have z := s45_145_0 j; have z2 := c175 j; subst q; omega)) | omega) (by first | (intro j; exact ⟨a174 j, a175 j⟩) | (intro j; rw [a174, a175]; exact s45_145_0 j) | omega) (by omega)
  have J64_0 : ∀ (n : Nat) (p64_0 p64_1 : Int) (h64_0 : my_H), my_fr [(10, 27), (73, -1), (74, -1), (75, -1), (77, -1), (78, -1), (79, -1)] h h64_0 → 1 ≤ p64_0 → p64_0 ≤ 4 → 0 ≤ p64_1 → p64_1 ≤ 8 → p64_0 ≤ (p64_1 + 1) → k151_27 ≤ p64_1 → h64_0 151 27 = p64_1 → h 168 x1 = 4 → h64_0 151 27 = h 151 27 + p64_0 - 1 → p64_0 ≤ h 157 (h 170 x1) → (Pfw h x1 → FwW h64_0 (h64_0 151 27)) → 5 - p64_0 ≤ (n : Int) → wp l rho d 182 64 [(2, 151), (0, x1), (0, p64_0)] [] h64_0 Q := by
    intro n
    induction n with
    | zero => intro p64_0 p64_1 h64_0 gh_64_0 q0_64_0 q1_64_0 q2_64_0 q3_64_0 q4_64_0 q5_64_0 c151_27_64_0 k4_64_0 wd_64_0 lc_64_0 j4_64_0 hm_64_0; exfalso; omega
    | succ n ih_64_0 =>
      intro p64_0 p64_1 h64_0 gh_64_0 q0_64_0 q1_64_0 q2_64_0 q3_64_0 q4_64_0 q5_64_0 c151_27_64_0 k4_64_0 wd_64_0 lc_64_0 j4_64_0 hm_64_0
      have a170 : h64_0 170 x1 = h 170 x1 := my_fr.at gh_64_0 is_170 rfl
      have a157 : h64_0 157 (h 170 x1) = h 157 (h 170 x1) := my_fr.at gh_64_0 is_157 rfl
      have pq := pj k4_64_0
      refine w_iload_n gz_182_64 rfl ?_
      refine w_aload_n gz_182_65 rfl ?_
      refine w_getX (v := 157) gz_182_66 is_151 rd_10 rfl (by decide) rfl ?_
      refine w_aload_n gz_182_69 rfl ?_
      refine w_getX (v := 170) gz_182_70 is_151 rd_10 rfl (by decide) rfl ?_
      refine w_iload_n gz_182_73 rfl ?_
      refine w_iald gz_182_74 is_170 rd_69 (by omega) (by omega) (fun v43 ev43 pv43 qv43 => ?_)
      have a170b : h64_0 170 x1 = h 170 x1 := my_fr.at gh_64_0 is_170 rfl
      have e75 : v43 = h 170 x1 := by omega
      have f75 : h64_0 157 v43 = h 157 v43 := my_fr.at gh_64_0 is_157 rfl
      have pq2 := pj k4_64_0
      have hi44 : 0 ≤ v43 := by omega
      have hi45 : v43 ≤ 2 := by omega
      refine w_iald gz_182_75 is_157 rd_56 (by omega) (by omega) (fun v46 ev46 pv46 qv46 => ?_)
      have a76 : v46 = h 157 (h 170 x1) := by rw [← e75]; omega
      refine w_icge (t := 130) gz_182_76 rfl (fun u47 => ?_) (fun u47 => ?_)
      ·
        refine w_goto (t := 287) gz_182_130 rfl ?_
        have ce48 : h64_0 151 27 = p64_1 := c151_27_64_0
        exact w_vret gz_182_287 gm_182 (k0 h64_0 (gh_64_0) (by first | (intro p; exact p.1) | exact j4_64_0 | (intro p j a b c; exact n7_207_0 p j a (by omega) c) | (intro p j a b c; exfalso; have z := s7_17_0 j a (by omega); omega) | (unfold ms; (repeat (first | rw [if_pos (by omega)] | rw [if_neg (by omega)])); (try omega)) | omega) (by first | (intro p; exact p.1) | exact j4_64_0 | (intro p j a b c; exact n7_207_0 p j a (by omega) c) | (intro p j a b c; exfalso; have z := s7_17_0 j a (by omega); omega) | (unfold ms; (repeat (first | rw [if_pos (by omega)] | rw [if_neg (by omega)])); (try omega)) | omega))
      ·
        refine w_aload_n gz_182_79 rfl ?_
        refine w_getX (v := 174) gz_182_80 is_151 rd_10 rfl (by decide) rfl ?_
        refine w_aload_n gz_182_83 rfl ?_
        refine v_getI (j := 27) gz_182_84 rfl is_151 rd_10 rfl (fun v50 ev50 pv50 qv50 => ?_)
        have zv50 := ev50.trans c151_27_64_0
        refine w_aload_n gz_182_87 rfl ?_
        refine w_getX (v := 170) gz_182_88 is_151 rd_10 rfl (by decide) rfl ?_
        refine w_iload_n gz_182_91 rfl ?_
        refine w_iald gz_182_92 is_170 rd_69 (by omega) (by omega) (fun v52 ev52 pv52 qv52 => ?_)
        have zv52 := ev52.trans ev43.symm
        have hi53 : 0 ≤ v50 := by first | omega | (subst_vars; omega) | grind | omega
        have hi54 : v50 ≤ 7 := by first | omega | (subst_vars; omega) | grind | omega
        refine w_iast gz_182_93 is_174 rd_73 (by omega) (by omega) (by omega) (by omega) (fun h55 fh55 => ?_)
        have gh55 : my_fr [(10, 27), (73, -1), (74, -1), (75, -1), (77, -1), (78, -1), (79, -1)] h h55 := my_fr.up gh_64_0 is_174 fh55 rfl
        have f93 := fh55
        refine w_aload_n gz_182_94 rfl ?_
        refine w_getX (v := 175) gz_182_95 is_151 rd_10 rfl (by decide) rfl ?_
        refine w_aload_n gz_182_98 rfl ?_
        refine v_getI (j := 27) gz_182_99 rfl is_151 rd_10 rfl (fun v57 ev57 pv57 qv57 => ?_)
        have zv57 := ev57.trans ((my_up_role fh55 is_151 is_174 rfl).trans ev50.symm)
        refine w_iload_n gz_182_102 rfl ?_
        have b175 : ∀ j : Int, h55 175 j = h64_0 175 j := fun j => ((my_up_role fh55 is_175 is_174 rfl).trans (rfl : h64_0 175 j = h64_0 175 j))
        refine w_iast gz_182_103 is_175 rd_74 (by omega) (by omega) (by omega) (by omega) (fun h58 fh58 => ?_)
        have gh58 : my_fr [(10, 27), (73, -1), (74, -1), (75, -1), (77, -1), (78, -1), (79, -1)] h h58 := my_fr.up gh55 is_175 fh58 rfl
        have f103 := fh58
        refine w_aload_n gz_182_104 rfl ?_
        refine w_getX (v := 176) gz_182_105 is_151 rd_10 rfl (by decide) rfl ?_
        refine w_aload_n gz_182_108 rfl ?_
        refine v_getI (j := 27) gz_182_109 rfl is_151 rd_10 rfl (fun v60 ev60 pv60 qv60 => ?_)
        have zv60 := ev60.trans ((my_up_role fh58 is_151 is_175 rfl).trans ev57.symm)
        refine w_iconst gz_182_112 (by decide) ?_
        refine w_bast gz_182_113 is_176 rd_75 (by omega) (by omega) (by omega) (by omega) (fun h61 fh61 => ?_)
        have gh61 : my_fr [(10, 27), (73, -1), (74, -1), (75, -1), (77, -1), (78, -1), (79, -1)] h h61 := my_fr.up gh58 is_176 fh61 rfl
        refine w_aload_n gz_182_114 rfl ?_
        refine w_dup gz_182_115 rfl ?_
        refine v_getI (j := 27) gz_182_116 rfl is_151 rd_10 rfl (fun v62 ev62 pv62 qv62 => ?_)
        have zv62 := ev62.trans ((my_up_role fh61 is_151 is_176 rfl).trans ev60.symm)
        refine w_iconst gz_182_119 (by decide) ?_
        refine w_iadd gz_182_120 ⟨by omega, by omega⟩ ?_
        refine v_putI (j := 27) gz_182_121 rfl is_151 rd_10 rfl (by omega) (by omega) rfl (fun h63 fh63 => ?_)
        have gh63 : my_fr [(10, 27), (73, -1), (74, -1), (75, -1), (77, -1), (78, -1), (79, -1)] h h63 := my_fr.up gh61 is_151 fh63 rfl
        refine w_iinc (ls' := [(2, 151), (0, x1), (0, (p64_0 + 1))]) gz_182_124 rfl gm_182 rfl rfl rfl ⟨by omega, by omega⟩ ?_
        refine w_goto (t := 64) gz_182_127 rfl ?_
        have ce64 : h63 151 27 = (v62 + 1) := (my_up_self fh63)
        have a174 : ∀ j : Int, h63 174 j = h55 174 j := fun j => ((my_up_role fh63 is_174 is_151 rfl).trans ((my_up_role fh61 is_174 is_176 rfl).trans ((my_up_role fh58 is_174 is_175 rfl).trans (rfl : h55 174 j = h55 174 j))))
        have a175 : ∀ j : Int, h63 175 j = h58 175 j := fun j => ((my_up_role fh63 is_175 is_151 rfl).trans ((my_up_role fh61 is_175 is_176 rfl).trans (rfl : h58 175 j = h58 175 j)))
        have a178 : ∀ j : Int, h63 178 j = h64_0 178 j := fun j => ((my_up_role fh63 is_178 is_151 rfl).trans ((my_up_role fh61 is_178 is_176 rfl).trans ((my_up_role fh58 is_178 is_175 rfl).trans ((my_up_role fh55 is_178 is_174 rfl).trans (rfl : h64_0 178 j = h64_0 178 j)))))
        have a179 : ∀ j : Int, h63 179 j = h64_0 179 j := fun j => ((my_up_role fh63 is_179 is_151 rfl).trans ((my_up_role fh61 is_179 is_176 rfl).trans ((my_up_role fh58 is_179 is_175 rfl).trans ((my_up_role fh55 is_179 is_174 rfl).trans (rfl : h64_0 179 j = h64_0 179 j)))))
        exact ih_64_0 ((p64_0 + 1)) ((v62 + 1)) h63 (gh63) (by omega) (by omega) (by omega) (by omega) (by omega) (by omega) ((my_up_self fh63).trans (by omega)) (by first | omega | (subst_vars; omega) | omega) (by first | omega | (subst_vars; omega) | omega) (by first | omega | (subst_vars; omega) | omega) (by first | (intro p; exact p.1) | (intro p; exact FwW_s (j4_64_0 p) (fun j q => ⟨(a174 j).trans (my_up_ne f93 (by omega)), (a175 j).trans ((my_up_ne f103 (by omega)).trans (b175 j))⟩) (by rw [a174, my_up_at f93 (by omega)]; omega) (by omega)) | omega) (by omega)
  have J17_0 : ∀ (n : Nat) (p17_0 : Int) (h17_0 : my_H), my_fr [(10, 27), (73, -1), (74, -1), (75, -1), (77, -1), (78, -1), (79, -1)] h h17_0 → 0 ≤ p17_0 → p17_0 ≤ 2 → h17_0 151 27 = 2 → h 168 x1 = 5 → h17_0 151 27 = 2 → (∀ j : Int, 0 ≤ j → j < p17_0 → h17_0 175 j = -1) → 3 - p17_0 ≤ (n : Int) → wp l rho d 182 17 [(2, 151), (0, x1), (0, p17_0)] [] h17_0 Q := by
    intro n
    induction n with
    | zero => intro p17_0 h17_0 gh_17_0 q0_17_0 q1_17_0 c151_27_17_0 k5_17_0 w5_17_0 s7_17_0 hm_17_0; exfalso; omega
    | succ n ih_17_0 =>
      intro p17_0 h17_0 gh_17_0 q0_17_0 q1_17_0 c151_27_17_0 k5_17_0 w5_17_0 s7_17_0 hm_17_0
      refine w_iload_n gz_182_17 rfl ?_
      refine w_iconst gz_182_18 (by decide) ?_
      refine w_icge (t := 49) gz_182_19 rfl (fun u65 => ?_) (fun u65 => ?_)
      ·
        refine w_goto (t := 287) gz_182_49 rfl ?_
        have ce66 : h17_0 151 27 = 2 := c151_27_17_0
        exact w_vret gz_182_287 gm_182 (k0 h17_0 (gh_17_0) (by first | (intro p; exact p.1) | exact j4_64_0 | (intro p j a b c; exact n7_207_0 p j a (by omega) c) | (intro p j a b c; exfalso; have z := s7_17_0 j a (by omega); omega) | (unfold ms; (repeat (first | rw [if_pos (by omega)] | rw [if_neg (by omega)])); (try omega)) | omega) (by first | (intro p; exact p.1) | exact j4_64_0 | (intro p j a b c; exact n7_207_0 p j a (by omega) c) | (intro p j a b c; exfalso; have z := s7_17_0 j a (by omega); omega) | (unfold ms; (repeat (first | rw [if_pos (by omega)] | rw [if_neg (by omega)])); (try omega)) | omega))
      ·
        refine w_aload_n gz_182_22 rfl ?_
        refine w_getX (v := 174) gz_182_23 is_151 rd_10 rfl (by decide) rfl ?_
        refine w_iload_n gz_182_26 rfl ?_
        refine w_iconst gz_182_27 (by decide) ?_
        refine w_iast gz_182_28 is_174 rd_73 (by omega) (by omega) (by omega) (by omega) (fun h68 fh68 => ?_)
        have gh68 : my_fr [(10, 27), (73, -1), (74, -1), (75, -1), (77, -1), (78, -1), (79, -1)] h h68 := my_fr.up gh_17_0 is_174 fh68 rfl
        refine w_aload_n gz_182_29 rfl ?_
        refine w_getX (v := 175) gz_182_30 is_151 rd_10 rfl (by decide) rfl ?_
        refine w_iload_n gz_182_33 rfl ?_
        refine w_iconst gz_182_34 (by decide) ?_
        have b175 : ∀ j : Int, h68 175 j = h17_0 175 j := fun j => ((my_up_role fh68 is_175 is_174 rfl).trans (rfl : h17_0 175 j = h17_0 175 j))
        refine w_iast gz_182_35 is_175 rd_74 (by omega) (by omega) (by omega) (by omega) (fun h70 fh70 => ?_)
        have gh70 : my_fr [(10, 27), (73, -1), (74, -1), (75, -1), (77, -1), (78, -1), (79, -1)] h h70 := my_fr.up gh68 is_175 fh70 rfl
        have f35 := fh70
        refine w_aload_n gz_182_36 rfl ?_
        refine w_getX (v := 176) gz_182_37 is_151 rd_10 rfl (by decide) rfl ?_
        refine w_iload_n gz_182_40 rfl ?_
        refine w_iconst gz_182_41 (by decide) ?_
        refine w_bast gz_182_42 is_176 rd_75 (by omega) (by omega) (by omega) (by omega) (fun h72 fh72 => ?_)
        have gh72 : my_fr [(10, 27), (73, -1), (74, -1), (75, -1), (77, -1), (78, -1), (79, -1)] h h72 := my_fr.up gh70 is_176 fh72 rfl
        refine w_iinc (ls' := [(2, 151), (0, x1), (0, (p17_0 + 1))]) gz_182_43 rfl gm_182 rfl rfl rfl ⟨by omega, by omega⟩ ?_
        refine w_goto (t := 17) gz_182_46 rfl ?_
        have ce73 : h72 151 27 = 2 := ((my_up_role fh72 is_151 is_176 rfl).trans ((my_up_role fh70 is_151 is_175 rfl).trans ((my_up_role fh68 is_151 is_174 rfl).trans c151_27_17_0)))
        have a174 : ∀ j : Int, h72 174 j = h68 174 j := fun j => ((my_up_role fh72 is_174 is_176 rfl).trans ((my_up_role fh70 is_174 is_175 rfl).trans (rfl : h68 174 j = h68 174 j)))
        have a175 : ∀ j : Int, h72 175 j = h70 175 j := fun j => ((my_up_role fh72 is_175 is_176 rfl).trans (rfl : h70 175 j = h70 175 j))
        have a178 : ∀ j : Int, h72 178 j = h17_0 178 j := fun j => ((my_up_role fh72 is_178 is_176 rfl).trans ((my_up_role fh70 is_178 is_175 rfl).trans ((my_up_role fh68 is_178 is_174 rfl).trans (rfl : h17_0 178 j = h17_0 178 j))))
        have a179 : ∀ j : Int, h72 179 j = h17_0 179 j := fun j => ((my_up_role fh72 is_179 is_176 rfl).trans ((my_up_role fh70 is_179 is_175 rfl).trans ((my_up_role fh68 is_179 is_174 rfl).trans (rfl : h17_0 179 j = h17_0 179 j))))
        exact ih_17_0 ((p17_0 + 1)) h72 (gh72) (by omega) (by omega) (((my_up_role fh72 is_151 is_176 rfl).trans ((my_up_role fh70 is_151 is_175 rfl).trans ((my_up_role fh68 is_151 is_174 rfl).trans c151_27_17_0))).trans (by omega)) (by first | omega | (subst_vars; omega) | omega) (by first | omega | (subst_vars; omega) | omega) (by first | (intro j a b; exfalso; omega) | (intro j a b; rw [a175]; rcases (by omega : j = p17_0 ∨ j < p17_0) with q | q <;> first | (rw [my_up_ne f35 (by omega), b175]; exact s7_17_0 j a q) | (rw [my_up_at f35 (by omega)])) | omega) (by omega)
  refine w_aload_n gz_182_0 rfl ?_
  refine w_getX (v := 168) gz_182_1 is_151 rd_10 rfl (by decide) rfl ?_
  refine w_iload_n gz_182_4 rfl ?_
  refine w_iald gz_182_5 is_168 rd_67 (by omega) (by omega) (fun v75 ev75 pv75 qv75 => ?_)
  refine w_iconst gz_182_6 (by decide) ?_
  refine w_icne (t := 52) gz_182_7 rfl (fun u76 => ?_) (fun u76 => ?_)
  ·
    refine w_aload_n gz_182_52 rfl ?_
    refine w_getX (v := 168) gz_182_53 is_151 rd_10 rfl (by decide) rfl ?_
    refine w_iload_n gz_182_56 rfl ?_
    refine w_iald gz_182_57 is_168 rd_67 (by omega) (by omega) (fun v78 ev78 pv78 qv78 => ?_)
    have zv78 := ev78.trans ev75.symm
    refine w_iconst gz_182_58 (by decide) ?_
    refine w_icne (t := 133) gz_182_59 rfl (fun u79 => ?_) (fun u79 => ?_)
    ·
      refine w_aload_n gz_182_133 rfl ?_
      refine w_getX (v := 168) gz_182_134 is_151 rd_10 rfl (by decide) rfl ?_
      refine w_iload_n gz_182_137 rfl ?_
      refine w_iald gz_182_138 is_168 rd_67 (by omega) (by omega) (fun v81 ev81 pv81 qv81 => ?_)
      have zv81 := ev81.trans ev78.symm
      refine w_iconst gz_182_139 (by decide) ?_
      refine w_icne (t := 287) gz_182_140 rfl (fun u82 => ?_) (fun u82 => ?_)
      ·
        have ce83 : h 151 27 = k151_27 := ek151_27.symm
        exact w_vret gz_182_287 gm_182 (k0 h (my_fr.rf) (by first | (intro p; exact p.1) | exact j4_64_0 | (intro p j a b c; exact n7_207_0 p j a (by omega) c) | (intro p j a b c; exfalso; have z := s7_17_0 j a (by omega); omega) | (unfold ms; (repeat (first | rw [if_pos (by omega)] | rw [if_neg (by omega)])); (try omega)) | omega) (by first | (intro p; exact p.1) | exact j4_64_0 | (intro p j a b c; exact n7_207_0 p j a (by omega) c) | (intro p j a b c; exfalso; have z := s7_17_0 j a (by omega); omega) | (unfold ms; (repeat (first | rw [if_pos (by omega)] | rw [if_neg (by omega)])); (try omega)) | omega))
      ·
        refine w_iconst gz_182_143 (by decide) ?_
        refine w_istore_n (ls' := [(2, 151), (0, x1), (0, 0)]) gz_182_144 gm_182 rfl rfl rfl ?_
        have a174 : ∀ j : Int, h 174 j = h 174 j := fun _ => rfl
        have a175 : ∀ j : Int, h 175 j = h 175 j := fun _ => rfl
        have a178 : ∀ j : Int, h 178 j = h 178 j := fun _ => rfl
        have a179 : ∀ j : Int, h 179 j = h 179 j := fun _ => rfl
        exact J145_0 9 (0) h (my_fr.rf) (by omega) (by omega) (by omega) (ek151_27.symm.trans (by omega)) (by first | omega | (subst_vars; omega) | omega) (by first | (intro j a b; exfalso; omega) | (intro j a b; rw [a178, a179]; exact k45_145_0 j a (by omega)) | (intro j a b; rw [a178, a179]; exact k45_207_0 j a b) | (intro j a b; rw [a178, a179]; rcases (by omega : j = p145_0 ∨ j < p145_0) with q | q <;> first | (rw [my_up_ne f164 (by omega), my_up_ne f176 (by omega), b179]; exact k45_145_0 j a q) | (rw [my_up_at f164 (by omega), my_up_at f176 (by omega)]; have z := s45_145_0 j; have z2 := c175 j; subst q; omega)) | omega) (by first | (intro j; exact ⟨a174 j, a175 j⟩) | (intro j; rw [a174, a175]; exact s45_145_0 j) | omega) (by omega)
    ·
      refine w_iconst gz_182_62 (by decide) ?_
      refine w_istore_n (ls' := [(2, 151), (0, x1), (0, 1)]) gz_182_63 gm_182 rfl rfl rfl ?_
      have ce84 : h 151 27 = k151_27 := ek151_27.symm
      have a174 : ∀ j : Int, h 174 j = h 174 j := fun _ => rfl
      have a175 : ∀ j : Int, h 175 j = h 175 j := fun _ => rfl
      have a178 : ∀ j : Int, h 178 j = h 178 j := fun _ => rfl
      have a179 : ∀ j : Int, h 179 j = h 179 j := fun _ => rfl
      exact J64_0 4 (1) (k151_27) h (my_fr.rf) (by omega) (by omega) (by omega) (by omega) (by omega) (by omega) (ek151_27.symm.trans (by omega)) (by first | omega | (subst_vars; omega) | omega) (by first | omega | (subst_vars; omega) | omega) (by first | omega | (subst_vars; omega) | omega) (by first | (intro p; exact p.1) | (intro p; exact FwW_s (j4_64_0 p) (fun j q => ⟨(a174 j).trans (my_up_ne f93 (by omega)), (a175 j).trans ((my_up_ne f103 (by omega)).trans (b175 j))⟩) (by rw [a174, my_up_at f93 (by omega)]; omega) (by omega)) | omega) (by omega)
  ·
    refine w_aload_n gz_182_10 rfl ?_
    refine w_iconst gz_182_11 (by decide) ?_
    refine v_putI (j := 27) gz_182_12 rfl is_151 rd_10 rfl (by omega) (by omega) rfl (fun h85 fh85 => ?_)
    have gh85 : my_fr [(10, 27), (73, -1), (74, -1), (75, -1), (77, -1), (78, -1), (79, -1)] h h85 := my_fr.up my_fr.rf is_151 fh85 rfl
    refine w_iconst gz_182_15 (by decide) ?_
    refine w_istore_n (ls' := [(2, 151), (0, x1), (0, 0)]) gz_182_16 gm_182 rfl rfl rfl ?_
    have ce86 : h85 151 27 = 2 := (my_up_self fh85)
    have a174 : ∀ j : Int, h85 174 j = h 174 j := fun j => ((my_up_role fh85 is_174 is_151 rfl).trans (rfl : h 174 j = h 174 j))
    have a175 : ∀ j : Int, h85 175 j = h 175 j := fun j => ((my_up_role fh85 is_175 is_151 rfl).trans (rfl : h 175 j = h 175 j))
    have a178 : ∀ j : Int, h85 178 j = h 178 j := fun j => ((my_up_role fh85 is_178 is_151 rfl).trans (rfl : h 178 j = h 178 j))
    have a179 : ∀ j : Int, h85 179 j = h 179 j := fun j => ((my_up_role fh85 is_179 is_151 rfl).trans (rfl : h 179 j = h 179 j))
    exact J17_0 3 (0) h85 (gh85) (by omega) (by omega) ((my_up_self fh85).trans (by omega)) (by first | omega | (subst_vars; omega) | omega) (by first | omega | (subst_vars; omega) | omega) (by first | (intro j a b; exfalso; omega) | (intro j a b; rw [a175]; rcases (by omega : j = p17_0 ∨ j < p17_0) with q | q <;> first | (rw [my_up_ne f35 (by omega), b175]; exact s7_17_0 j a q) | (rw [my_up_at f35 (by omega)])) | omega) (by omega)
theorem c_Model_readJoin_f0 {l : Launch} {rho : Nat → Int32} {d : Nat} {h : my_H} {Q : my_H → my_V → Prop} {x1 : Int} {wv : Int} (a1 : 36 ≤ x1) (b1 : x1 ≤ 41) (cf : h 151 8 = 0) (hwv : wv ≤ 5) (hwv0 : 0 ≤ wv) (n_Tok : Tok h) (n_Mq : Mq h wv) (hp : x1 = 36 + h 167 6) (k0 : ∀ (h' : my_H), my_fr [(10, 7), (10, 8), (67, -1), (68, -1), (69, -1)] h h' → 1 ≤ h' 151 8 → h' 151 8 ≤ 16005 → h 151 7 ≤ h' 151 7 → Tok h' → Mq h' wv → Q h' (9, 0)) (k1 : ∀ (h' : my_H), my_fr [(10, 7), (10, 8), (67, -1), (68, -1), (69, -1)] h h' → 1 ≤ h' 151 7 → h' 151 7 ≤ 1001 → h' 151 8 = 0 → PaneOk h' x1 → Pk3 h' x1 (h' 151 27) → h 151 7 ≤ h' 151 7 → Tok h' → Mq h' wv → Q h' (9, 0)) : wp l rho (d + 3) 189 0 [(2, 151), (0, x1), (9, 0)] [] h Q := by
  refine v_know (x := 151) (j := 7) (b := 7) rfl is_151 rd_10 rfl (fun k151_7 ek151_7 pk151_7 qk151_7 => ?_)
  refine v_know (x := 151) (j := 27) (b := 27) rfl is_151 rd_10 rfl (fun k151_27 ek151_27 pk151_27 qk151_27 => ?_)
  refine w_aload_n gz_189_0 rfl ?_
  refine w_getX (v := 168) gz_189_1 is_151 rd_10 rfl (by decide) rfl ?_
  refine w_iload_n gz_189_4 rfl ?_
  refine w_iconst gz_189_5 (by decide) ?_
  refine w_iast gz_189_6 is_168 rd_67 (by omega) (by omega) (by omega) (by omega) (fun h2 fh2 => ?_)
  have gh2 : my_fr [(10, 7), (10, 8), (67, -1), (68, -1), (69, -1)] h h2 := my_fr.up my_fr.rf is_168 fh2 rfl
  have Tok_h2 : Tok h2 := Tok_ag (my_ag.up fh2 is_168 rfl) n_Tok
  have Mq_h2 : Mq h2 wv := Mq_u (a := 168) hwv (by decide) (by omega) fh2 n_Mq
  have P6_h2 : h2 167 6 = h 167 6 := P6_ag (my_ag.up fh2 is_168 rfl) (rfl)
  have k168 : h2 168 x1 = 4 := my_up_self fh2
  refine w_aload_n gz_189_7 rfl ?_
  refine v_getI (j := 8) gz_189_8 rfl is_151 rd_10 rfl (fun v3 ev3 pv3 qv3 => ?_)
  have zv3 := ev3.trans ((my_up_role fh2 is_151 is_168 rfl).trans cf)
  refine w_ifne (t := 89) gz_189_11 rfl (fun u4 => by exfalso; omega) (fun u4 => ?_)
  refine w_aload_n gz_189_14 rfl ?_
  refine w_getX (v := 153) gz_189_15 is_151 rd_10 rfl (by decide) rfl ?_
  refine w_aload_n gz_189_18 rfl ?_
  refine v_getI (j := 7) gz_189_19 rfl is_151 rd_10 rfl (fun v6 ev6 pv6 qv6 => ?_)
  have zv6 := ev6.trans ((my_up_role fh2 is_151 is_168 rfl).trans ek151_7.symm)
  refine w_iald gz_189_22 is_153 rd_52 (by omega) (by omega) (fun v7 ev7 pv7 qv7 => ?_)
  refine w_iconst gz_189_23 (by decide) ?_
  refine w_icne (t := 89) gz_189_24 rfl (fun u8 => ?_) (fun u8 => ?_)
  ·
    refine w_aload_n gz_189_89 rfl ?_
    refine w_getX (v := 170) gz_189_90 is_151 rd_10 rfl (by decide) rfl ?_
    refine w_iload_n gz_189_93 rfl ?_
    refine w_aload_n gz_189_94 rfl ?_
    refine w_iconst gz_189_95 (by decide) ?_
    have ce10 : h2 151 7 = v6 := ev6.symm
    have ce11 : h2 151 27 = k151_27 := ((my_up_role fh2 is_151 is_168 rfl).trans ek151_27.symm)
    refine w_inv (k := 0) (as := [(0, 2)]) (r := [(0, x1), (2, 170)]) (x := 151) (ls0 := [(2, 151), (0, 2)]) gz_189_96 gm_187 rfl is_151 rd_10 rfl rfl rfl rfl rfl (c_Model_takeNumber2_f0 (d := (d + 1)) (x1 := 2) (by omega) (by omega) (ev3.symm.trans (by omega)) Tok_h2 (fun h12 frh12 w13 w14 xp15 Tok_h12t16 => ?_) (fun h17 v18 frh17 w19 w20 w21 w22 w23 xp24 xp25 xp26 xp27 xp28 Tok_h17t29 => ?_))
    ·
      have gh12 : my_fr [(10, 7), (10, 8), (67, -1), (68, -1), (69, -1)] h h12 := my_fr.tr gh2 (frh12.mo rfl)
      have Mq_h12 : Mq h12 wv := Mq_ag (my_ag.fr frh12 rfl) Mq_h2
      have P6_h12 : h12 167 6 = h 167 6 := P6_ag (my_ag.fr frh12 rfl) P6_h2
      show wp l rho (d + 3) 189 99 [(2, 151), (0, x1), (9, 0)] [(0, 0), (0, x1), (2, 170)] h12 Q
      have hi30 : 0 ≤ 0 := by omega
      have hi31 : 0 ≤ 2 := by omega
      refine w_iast gz_189_99 is_170 rd_69 (by omega) (by omega) (by omega) (by omega) (fun h32 fh32 => ?_)
      have gh32 : my_fr [(10, 7), (10, 8), (67, -1), (68, -1), (69, -1)] h h32 := my_fr.up gh12 is_170 fh32 rfl
      have Mq_h32 : Mq h32 wv := Mq_u (a := 170) hwv (by decide) (by omega) fh32 Mq_h12
      have P6_h32 : h32 167 6 = h 167 6 := P6_ag (my_ag.up fh32 is_170 rfl) P6_h12
      have Tok_h32 : Tok h32 := Tok_ag (my_ag.up fh32 is_170 rfl) Tok_h12t16
      have k170 := my_up_self fh32
      refine w_aload_n gz_189_100 rfl ?_
      refine w_bipush gz_189_101 (by decide) ?_
      have ce33 : h32 151 7 = h12 151 7 := ((my_up_role fh32 is_151 is_170 rfl).trans (rfl : h12 151 7 = h12 151 7))
      have ce34 : h32 151 27 = k151_27 := ((my_up_role fh32 is_151 is_170 rfl).trans ((my_fr.at frh12 is_151 rfl).trans ((my_up_role fh2 is_151 is_168 rfl).trans ek151_27.symm)))
      refine w_inv (k := 0) (as := [(0, 9)]) (r := []) (x := 151) (ls0 := [(2, 151), (0, 9)]) gz_189_103 gm_175 rfl is_151 rd_10 rfl rfl rfl rfl rfl (c_Model_takeWord_f1 (d := d)  ((h12 151 8)) (((my_up_role fh32 is_151 is_170 rfl).trans (rfl : h12 151 8 = h12 151 8))) (by omega) (by omega) Tok_h32 (fun h35 frh35 w36 w37 xp38 Tok_h35t39 => ?_))
      have gh35 : my_fr [(10, 7), (10, 8), (67, -1), (68, -1), (69, -1)] h h35 := my_fr.tr gh32 (frh35.mo rfl)
      have Mq_h35 : Mq h35 wv := Mq_ag (my_ag.fr frh35 rfl) Mq_h32
      have P6_h35 : h35 167 6 = h 167 6 := P6_ag (my_ag.fr frh35 rfl) P6_h32
      show wp l rho (d + 3) 189 106 [(2, 151), (0, x1), (9, 0)] [] h35 Q
      refine w_aload_n gz_189_106 rfl ?_
      refine w_getX (v := 169) gz_189_107 is_151 rd_10 rfl (by decide) rfl ?_
      refine w_iload_n gz_189_110 rfl ?_
      refine w_aload_n gz_189_111 rfl ?_
      refine w_aload_n gz_189_112 rfl ?_
      refine v_getI (j := 27) gz_189_113 rfl is_151 rd_10 rfl (fun v41 ev41 pv41 qv41 => ?_)
      have zv41 := ev41.trans ((my_fr.at frh35 is_151 rfl).trans ((my_up_role fh32 is_151 is_170 rfl).trans ((my_fr.at frh12 is_151 rfl).trans ((my_up_role fh2 is_151 is_168 rfl).trans ek151_27.symm))))
      refine w_iconst gz_189_116 (by decide) ?_
      refine w_isub gz_189_117 ⟨by omega, by omega⟩ ?_
      have ce42 : h35 151 27 = v41 := ev41.symm
      refine w_inv (k := 0) (as := [(0, (v41 - 1))]) (r := [(0, x1), (2, 169)]) (x := 151) (ls0 := [(2, 151), (0, (v41 - 1))]) gz_189_118 gm_187 rfl is_151 rd_10 rfl rfl rfl rfl rfl (c_Model_takeNumber2_f1 (d := (d + 1)) (x1 := (v41 - 1)) (by omega) (by omega) ((h12 151 8)) (((my_fr.at frh35 is_151 rfl).trans ((my_up_role fh32 is_151 is_170 rfl).trans (rfl : h12 151 8 = h12 151 8)))) (by omega) (by omega) Tok_h35t39 (fun w43 w44 xp45 Tok_h35t46 => ?_))
      show wp l rho (d + 3) 189 121 [(2, 151), (0, x1), (9, 0)] [(0, 0), (0, x1), (2, 169)] h35 Q
      have hi47 : 0 ≤ 0 := by omega
      have hi48 : 0 ≤ 7 := by omega
      refine w_iast gz_189_121 is_169 rd_68 (by omega) (by omega) (by omega) (by omega) (fun h49 fh49 => ?_)
      have gh49 : my_fr [(10, 7), (10, 8), (67, -1), (68, -1), (69, -1)] h h49 := my_fr.up gh35 is_169 fh49 rfl
      have Mq_h49 : Mq h49 wv := Mq_u (a := 169) hwv (by decide) (by omega) fh49 Mq_h35
      have P6_h49 : h49 167 6 = h 167 6 := P6_ag (my_ag.up fh49 is_169 rfl) P6_h35
      have Tok_h49 : Tok h49 := Tok_ag (my_ag.up fh49 is_169 rfl) Tok_h35t46
      have k169 := my_up_self fh49
      have ce50 : h49 151 7 = h35 151 7 := ((my_up_role fh49 is_151 is_169 rfl).trans (rfl : h35 151 7 = h35 151 7))
      have ce51 : h49 151 27 = v41 := ((my_up_role fh49 is_151 is_169 rfl).trans ev41.symm)
      have a168 : ∀ j : Int, h49 168 j = h2 168 j := fun j => ((my_up_role fh49 is_168 is_169 rfl).trans ((my_fr.at frh35 is_168 rfl).trans ((my_up_role fh32 is_168 is_170 rfl).trans ((my_fr.at frh12 is_168 rfl).trans (rfl : h2 168 j = h2 168 j)))))
      have a170 : ∀ j : Int, h49 170 j = h32 170 j := fun j => ((my_up_role fh49 is_170 is_169 rfl).trans ((my_fr.at frh35 is_170 rfl).trans (rfl : h32 170 j = h32 170 j)))
      have a169 : ∀ j : Int, h49 169 j = h49 169 j := fun _ => rfl
      have a157 : ∀ j : Int, h49 157 j = h 157 j := fun j => ((my_up_role fh49 is_157 is_169 rfl).trans ((my_fr.at frh35 is_157 rfl).trans ((my_up_role fh32 is_157 is_170 rfl).trans ((my_fr.at frh12 is_157 rfl).trans ((my_up_role fh2 is_157 is_168 rfl).trans (rfl : h 157 j = h 157 j))))))
      have c52 := ((my_up_role fh49 is_151 is_169 rfl).trans ((my_fr.at frh35 is_151 rfl).trans ((my_up_role fh32 is_151 is_170 rfl).trans (rfl : h12 151 8 = h12 151 8))))
      exact w_vret gz_189_122 gm_189 (k0 h49 (gh49) (by omega) (by omega) (by first | omega | (exfalso; subst_vars; omega) | (exfalso; (try clear k0); (try clear k1); grind) | omega | (refine ⟨fun q => ?_, fun q => ?_⟩ <;> first | (rw [a168, k168] at q; omega) | (have kz := k170.trans (show _ = vz by omega); rw [a170, kz, a157]; omega)) | (refine ⟨fun q => ?_, fun q => ?_, fun q => ?_⟩ <;> first | (exfalso; rw [a168, k168] at q; omega) | (rw [a169, k169]; omega)) | omega) Tok_h49 Mq_h49)
    ·
      have gh17 : my_fr [(10, 7), (10, 8), (67, -1), (68, -1), (69, -1)] h h17 := my_fr.tr gh2 (frh17.mo rfl)
      have Mq_h17 : Mq h17 wv := Mq_ag (my_ag.fr frh17 rfl) Mq_h2
      have P6_h17 : h17 167 6 = h 167 6 := P6_ag (my_ag.fr frh17 rfl) P6_h2
      show wp l rho (d + 3) 189 99 [(2, 151), (0, x1), (9, 0)] [(0, v18), (0, x1), (2, 170)] h17 Q
      have hi53 : 0 ≤ v18 := by omega
      have hi54 : v18 ≤ 2 := by omega
      refine w_iast gz_189_99 is_170 rd_69 (by omega) (by omega) (by omega) (by omega) (fun h55 fh55 => ?_)
      have gh55 : my_fr [(10, 7), (10, 8), (67, -1), (68, -1), (69, -1)] h h55 := my_fr.up gh17 is_170 fh55 rfl
      have Mq_h55 : Mq h55 wv := Mq_u (a := 170) hwv (by decide) (by omega) fh55 Mq_h17
      have P6_h55 : h55 167 6 = h 167 6 := P6_ag (my_ag.up fh55 is_170 rfl) P6_h17
      have Tok_h55 : Tok h55 := Tok_ag (my_ag.up fh55 is_170 rfl) Tok_h17t29
      have k170 := my_up_self fh55
      refine w_aload_n gz_189_100 rfl ?_
      refine w_bipush gz_189_101 (by decide) ?_
      have ce56 : h55 151 7 = (h17 151 7) := ((my_up_role fh55 is_151 is_170 rfl).trans (rfl : h17 151 7 = h17 151 7))
      have ce57 : h55 151 27 = k151_27 := ((my_up_role fh55 is_151 is_170 rfl).trans ((my_fr.at frh17 is_151 rfl).trans ((my_up_role fh2 is_151 is_168 rfl).trans ek151_27.symm)))
      refine w_inv (k := 0) (as := [(0, 9)]) (r := []) (x := 151) (ls0 := [(2, 151), (0, 9)]) gz_189_103 gm_175 rfl is_151 rd_10 rfl rfl rfl rfl rfl (c_Model_takeWord_f0 (d := d) (x1 := 9) (by omega) (by omega) (((my_up_role fh55 is_151 is_170 rfl).trans w23).trans (by omega)) Tok_h55 (fun h58 frh58 w59 w60 xp61 Tok_h58t62 => ?_) (fun h63 frh63 w64 w65 w66 xp67 Tok_h63t68 => ?_))
      ·
        have gh58 : my_fr [(10, 7), (10, 8), (67, -1), (68, -1), (69, -1)] h h58 := my_fr.tr gh55 (frh58.mo rfl)
        have Mq_h58 : Mq h58 wv := Mq_ag (my_ag.fr frh58 rfl) Mq_h55
        have P6_h58 : h58 167 6 = h 167 6 := P6_ag (my_ag.fr frh58 rfl) P6_h55
        show wp l rho (d + 3) 189 106 [(2, 151), (0, x1), (9, 0)] [] h58 Q
        refine w_aload_n gz_189_106 rfl ?_
        refine w_getX (v := 169) gz_189_107 is_151 rd_10 rfl (by decide) rfl ?_
        refine w_iload_n gz_189_110 rfl ?_
        refine w_aload_n gz_189_111 rfl ?_
        refine w_aload_n gz_189_112 rfl ?_
        refine v_getI (j := 27) gz_189_113 rfl is_151 rd_10 rfl (fun v70 ev70 pv70 qv70 => ?_)
        have zv70 := ev70.trans ((my_fr.at frh58 is_151 rfl).trans ((my_up_role fh55 is_151 is_170 rfl).trans ((my_fr.at frh17 is_151 rfl).trans ((my_up_role fh2 is_151 is_168 rfl).trans ek151_27.symm))))
        refine w_iconst gz_189_116 (by decide) ?_
        refine w_isub gz_189_117 ⟨by omega, by omega⟩ ?_
        have ce71 : h58 151 27 = v70 := ev70.symm
        refine w_inv (k := 0) (as := [(0, (v70 - 1))]) (r := [(0, x1), (2, 169)]) (x := 151) (ls0 := [(2, 151), (0, (v70 - 1))]) gz_189_118 gm_187 rfl is_151 rd_10 rfl rfl rfl rfl rfl (c_Model_takeNumber2_f1 (d := (d + 1)) (x1 := (v70 - 1)) (by omega) (by omega) ((h58 151 8)) ((rfl : h58 151 8 = h58 151 8)) (by omega) (by omega) Tok_h58t62 (fun w72 w73 xp74 Tok_h58t75 => ?_))
        show wp l rho (d + 3) 189 121 [(2, 151), (0, x1), (9, 0)] [(0, 0), (0, x1), (2, 169)] h58 Q
        have hi76 : 0 ≤ 0 := by omega
        have hi77 : 0 ≤ 7 := by omega
        refine w_iast gz_189_121 is_169 rd_68 (by omega) (by omega) (by omega) (by omega) (fun h78 fh78 => ?_)
        have gh78 : my_fr [(10, 7), (10, 8), (67, -1), (68, -1), (69, -1)] h h78 := my_fr.up gh58 is_169 fh78 rfl
        have Mq_h78 : Mq h78 wv := Mq_u (a := 169) hwv (by decide) (by omega) fh78 Mq_h58
        have P6_h78 : h78 167 6 = h 167 6 := P6_ag (my_ag.up fh78 is_169 rfl) P6_h58
        have Tok_h78 : Tok h78 := Tok_ag (my_ag.up fh78 is_169 rfl) Tok_h58t75
        have k169 := my_up_self fh78
        have ce79 : h78 151 7 = h58 151 7 := ((my_up_role fh78 is_151 is_169 rfl).trans (rfl : h58 151 7 = h58 151 7))
        have ce80 : h78 151 27 = v70 := ((my_up_role fh78 is_151 is_169 rfl).trans ev70.symm)
        have a168 : ∀ j : Int, h78 168 j = h2 168 j := fun j => ((my_up_role fh78 is_168 is_169 rfl).trans ((my_fr.at frh58 is_168 rfl).trans ((my_up_role fh55 is_168 is_170 rfl).trans ((my_fr.at frh17 is_168 rfl).trans (rfl : h2 168 j = h2 168 j)))))
        have a170 : ∀ j : Int, h78 170 j = h55 170 j := fun j => ((my_up_role fh78 is_170 is_169 rfl).trans ((my_fr.at frh58 is_170 rfl).trans (rfl : h55 170 j = h55 170 j)))
        have a169 : ∀ j : Int, h78 169 j = h78 169 j := fun _ => rfl
        have a157 : ∀ j : Int, h78 157 j = h 157 j := fun j => ((my_up_role fh78 is_157 is_169 rfl).trans ((my_fr.at frh58 is_157 rfl).trans ((my_up_role fh55 is_157 is_170 rfl).trans ((my_fr.at frh17 is_157 rfl).trans ((my_up_role fh2 is_157 is_168 rfl).trans (rfl : h 157 j = h 157 j))))))
        have c81 := ((my_up_role fh78 is_151 is_169 rfl).trans (rfl : h58 151 8 = h58 151 8))
        exact w_vret gz_189_122 gm_189 (k0 h78 (gh78) (by omega) (by omega) (by first | omega | (exfalso; subst_vars; omega) | (exfalso; (try clear k0); (try clear k1); grind) | omega | (refine ⟨fun q => ?_, fun q => ?_⟩ <;> first | (rw [a168, k168] at q; omega) | (have kz := k170.trans (show _ = vz by omega); rw [a170, kz, a157]; omega)) | (refine ⟨fun q => ?_, fun q => ?_, fun q => ?_⟩ <;> first | (exfalso; rw [a168, k168] at q; omega) | (rw [a169, k169]; omega)) | omega) Tok_h78 Mq_h78)
      ·
        have gh63 : my_fr [(10, 7), (10, 8), (67, -1), (68, -1), (69, -1)] h h63 := my_fr.tr gh55 (frh63.mo rfl)
        have Mq_h63 : Mq h63 wv := Mq_ag (my_ag.fr frh63 rfl) Mq_h55
        have P6_h63 : h63 167 6 = h 167 6 := P6_ag (my_ag.fr frh63 rfl) P6_h55
        show wp l rho (d + 3) 189 106 [(2, 151), (0, x1), (9, 0)] [] h63 Q
        refine w_aload_n gz_189_106 rfl ?_
        refine w_getX (v := 169) gz_189_107 is_151 rd_10 rfl (by decide) rfl ?_
        refine w_iload_n gz_189_110 rfl ?_
        refine w_aload_n gz_189_111 rfl ?_
        refine w_aload_n gz_189_112 rfl ?_
        refine v_getI (j := 27) gz_189_113 rfl is_151 rd_10 rfl (fun v83 ev83 pv83 qv83 => ?_)
        have zv83 := ev83.trans ((my_fr.at frh63 is_151 rfl).trans ((my_up_role fh55 is_151 is_170 rfl).trans ((my_fr.at frh17 is_151 rfl).trans ((my_up_role fh2 is_151 is_168 rfl).trans ek151_27.symm))))
        refine w_iconst gz_189_116 (by decide) ?_
        refine w_isub gz_189_117 ⟨by omega, by omega⟩ ?_
        have ce84 : h63 151 7 = (h63 151 7) := (rfl : h63 151 7 = h63 151 7)
        have ce85 : h63 151 27 = v83 := ev83.symm
        refine w_inv (k := 0) (as := [(0, (v83 - 1))]) (r := [(0, x1), (2, 169)]) (x := 151) (ls0 := [(2, 151), (0, (v83 - 1))]) gz_189_118 gm_187 rfl is_151 rd_10 rfl rfl rfl rfl rfl (c_Model_takeNumber2_f0 (d := (d + 1)) (x1 := (v83 - 1)) (by omega) (by omega) (w66.trans (by omega)) Tok_h63t68 (fun h86 frh86 w87 w88 xp89 Tok_h86t90 => ?_) (fun h91 v92 frh91 w93 w94 w95 w96 w97 xp98 xp99 xp100 xp101 xp102 Tok_h91t103 => ?_))
        ·
          have gh86 : my_fr [(10, 7), (10, 8), (67, -1), (68, -1), (69, -1)] h h86 := my_fr.tr gh63 (frh86.mo rfl)
          have Mq_h86 : Mq h86 wv := Mq_ag (my_ag.fr frh86 rfl) Mq_h63
          have P6_h86 : h86 167 6 = h 167 6 := P6_ag (my_ag.fr frh86 rfl) P6_h63
          show wp l rho (d + 3) 189 121 [(2, 151), (0, x1), (9, 0)] [(0, 0), (0, x1), (2, 169)] h86 Q
          have hi104 : 0 ≤ 0 := by omega
          have hi105 : 0 ≤ 7 := by omega
          refine w_iast gz_189_121 is_169 rd_68 (by omega) (by omega) (by omega) (by omega) (fun h106 fh106 => ?_)
          have gh106 : my_fr [(10, 7), (10, 8), (67, -1), (68, -1), (69, -1)] h h106 := my_fr.up gh86 is_169 fh106 rfl
          have Mq_h106 : Mq h106 wv := Mq_u (a := 169) hwv (by decide) (by omega) fh106 Mq_h86
          have P6_h106 : h106 167 6 = h 167 6 := P6_ag (my_ag.up fh106 is_169 rfl) P6_h86
          have Tok_h106 : Tok h106 := Tok_ag (my_ag.up fh106 is_169 rfl) Tok_h86t90
          have k169 := my_up_self fh106
          have ce107 : h106 151 7 = h86 151 7 := ((my_up_role fh106 is_151 is_169 rfl).trans (rfl : h86 151 7 = h86 151 7))
          have ce108 : h106 151 27 = v83 := ((my_up_role fh106 is_151 is_169 rfl).trans ((my_fr.at frh86 is_151 rfl).trans ev83.symm))
          have a168 : ∀ j : Int, h106 168 j = h2 168 j := fun j => ((my_up_role fh106 is_168 is_169 rfl).trans ((my_fr.at frh86 is_168 rfl).trans ((my_fr.at frh63 is_168 rfl).trans ((my_up_role fh55 is_168 is_170 rfl).trans ((my_fr.at frh17 is_168 rfl).trans (rfl : h2 168 j = h2 168 j))))))
          have a170 : ∀ j : Int, h106 170 j = h55 170 j := fun j => ((my_up_role fh106 is_170 is_169 rfl).trans ((my_fr.at frh86 is_170 rfl).trans ((my_fr.at frh63 is_170 rfl).trans (rfl : h55 170 j = h55 170 j))))
          have a169 : ∀ j : Int, h106 169 j = h106 169 j := fun _ => rfl
          have a157 : ∀ j : Int, h106 157 j = h 157 j := fun j => ((my_up_role fh106 is_157 is_169 rfl).trans ((my_fr.at frh86 is_157 rfl).trans ((my_fr.at frh63 is_157 rfl).trans ((my_up_role fh55 is_157 is_170 rfl).trans ((my_fr.at frh17 is_157 rfl).trans ((my_up_role fh2 is_157 is_168 rfl).trans (rfl : h 157 j = h 157 j)))))))
          have c109 := ((my_up_role fh106 is_151 is_169 rfl).trans (rfl : h86 151 8 = h86 151 8))
          exact w_vret gz_189_122 gm_189 (k0 h106 (gh106) (by omega) (by omega) (by first | omega | (exfalso; subst_vars; omega) | (exfalso; (try clear k0); (try clear k1); grind) | omega | (refine ⟨fun q => ?_, fun q => ?_⟩ <;> first | (rw [a168, k168] at q; omega) | (have kz := k170.trans (show _ = vz by omega); rw [a170, kz, a157]; omega)) | (refine ⟨fun q => ?_, fun q => ?_, fun q => ?_⟩ <;> first | (exfalso; rw [a168, k168] at q; omega) | (rw [a169, k169]; omega)) | omega) Tok_h106 Mq_h106)
        ·
          have gh91 : my_fr [(10, 7), (10, 8), (67, -1), (68, -1), (69, -1)] h h91 := my_fr.tr gh63 (frh91.mo rfl)
          have Mq_h91 : Mq h91 wv := Mq_ag (my_ag.fr frh91 rfl) Mq_h63
          have P6_h91 : h91 167 6 = h 167 6 := P6_ag (my_ag.fr frh91 rfl) P6_h63
          show wp l rho (d + 3) 189 121 [(2, 151), (0, x1), (9, 0)] [(0, v92), (0, x1), (2, 169)] h91 Q
          have hi110 : 0 ≤ v92 := by omega
          have hi111 : v92 ≤ 7 := by omega
          refine w_iast gz_189_121 is_169 rd_68 (by omega) (by omega) (by omega) (by omega) (fun h112 fh112 => ?_)
          have gh112 : my_fr [(10, 7), (10, 8), (67, -1), (68, -1), (69, -1)] h h112 := my_fr.up gh91 is_169 fh112 rfl
          have Mq_h112 : Mq h112 wv := Mq_u (a := 169) hwv (by decide) (by omega) fh112 Mq_h91
          have P6_h112 : h112 167 6 = h 167 6 := P6_ag (my_ag.up fh112 is_169 rfl) P6_h91
          have Tok_h112 : Tok h112 := Tok_ag (my_ag.up fh112 is_169 rfl) Tok_h91t103
          have k169 := my_up_self fh112
          have ce113 : h112 151 7 = (h91 151 7) := ((my_up_role fh112 is_151 is_169 rfl).trans (rfl : h91 151 7 = h91 151 7))
          have ce114 : h112 151 27 = v83 := ((my_up_role fh112 is_151 is_169 rfl).trans ((my_fr.at frh91 is_151 rfl).trans ev83.symm))
          have a168 : ∀ j : Int, h112 168 j = h2 168 j := fun j => ((my_up_role fh112 is_168 is_169 rfl).trans ((my_fr.at frh91 is_168 rfl).trans ((my_fr.at frh63 is_168 rfl).trans ((my_up_role fh55 is_168 is_170 rfl).trans ((my_fr.at frh17 is_168 rfl).trans (rfl : h2 168 j = h2 168 j))))))
          have a170 : ∀ j : Int, h112 170 j = h55 170 j := fun j => ((my_up_role fh112 is_170 is_169 rfl).trans ((my_fr.at frh91 is_170 rfl).trans ((my_fr.at frh63 is_170 rfl).trans (rfl : h55 170 j = h55 170 j))))
          have a169 : ∀ j : Int, h112 169 j = h112 169 j := fun _ => rfl
          have a157 : ∀ j : Int, h112 157 j = h 157 j := fun j => ((my_up_role fh112 is_157 is_169 rfl).trans ((my_fr.at frh91 is_157 rfl).trans ((my_fr.at frh63 is_157 rfl).trans ((my_up_role fh55 is_157 is_170 rfl).trans ((my_fr.at frh17 is_157 rfl).trans ((my_up_role fh2 is_157 is_168 rfl).trans (rfl : h 157 j = h 157 j)))))))
          have c115 := ((my_up_role fh112 is_151 is_169 rfl).trans (rfl : h91 151 7 = h91 151 7))
          have c116 := ((my_up_role fh112 is_151 is_169 rfl).trans w97)
          exact w_vret gz_189_122 gm_189 (k1 h112 (gh112) (by omega) (by omega) (by omega) (by first | omega | (exfalso; subst_vars; omega) | (exfalso; (try clear k0); (try clear k1); grind) | omega | (refine ⟨fun q => ?_, fun q => ?_⟩ <;> first | (rw [a168, k168] at q; omega) | (have kz := k170.trans (show _ = vz by omega); rw [a170, kz, a157]; omega)) | (refine ⟨fun q => ?_, fun q => ?_, fun q => ?_⟩ <;> first | (exfalso; rw [a168, k168] at q; omega) | (rw [a169, k169]; omega)) | omega) (by first | omega | (exfalso; subst_vars; omega) | (exfalso; (try clear k0); (try clear k1); grind) | omega | (refine ⟨fun q => ?_, fun q => ?_⟩ <;> first | (rw [a168, k168] at q; omega) | (have kz := k170.trans (show _ = vz by omega); rw [a170, kz, a157]; omega)) | (refine ⟨fun q => ?_, fun q => ?_, fun q => ?_⟩ <;> first | (exfalso; rw [a168, k168] at q; omega) | (rw [a169, k169]; omega)) | omega) (by first | omega | (exfalso; subst_vars; omega) | (exfalso; (try clear k0); (try clear k1); grind) | omega | (refine ⟨fun q => ?_, fun q => ?_⟩ <;> first | (rw [a168, k168] at q; omega) | (have kz := k170.trans (show _ = vz by omega); rw [a170, kz, a157]; omega)) | (refine ⟨fun q => ?_, fun q => ?_, fun q => ?_⟩ <;> first | (exfalso; rw [a168, k168] at q; omega) | (rw [a169, k169]; omega)) | omega) Tok_h112 Mq_h112)
  ·
    refine w_aload_n gz_189_27 rfl ?_
    refine w_getX (v := 155) gz_189_28 is_151 rd_10 rfl (by decide) rfl ?_
    refine w_aload_n gz_189_31 rfl ?_
    refine v_getI (j := 7) gz_189_32 rfl is_151 rd_10 rfl (fun v118 ev118 pv118 qv118 => ?_)
    have zv118 := ev118.trans ev6.symm
    refine w_lald gz_189_35 is_155 rd_54 (by omega) (by omega) (fun v119 ev119 pv119 => ?_)
    refine w_ldc2 gz_189_36 rfl ?_
    refine w_lcmpE gz_189_39 (fun v120 pv120 qv120 xv120 => ?_)
    refine w_ifgt (t := 89) gz_189_40 rfl (fun u121 => ?_) (fun u121 => ?_)
    ·
      refine w_aload_n gz_189_89 rfl ?_
      refine w_getX (v := 170) gz_189_90 is_151 rd_10 rfl (by decide) rfl ?_
      refine w_iload_n gz_189_93 rfl ?_
      refine w_aload_n gz_189_94 rfl ?_
      refine w_iconst gz_189_95 (by decide) ?_
      have ce123 : h2 151 7 = v118 := ev118.symm
      have ce124 : h2 151 27 = k151_27 := ((my_up_role fh2 is_151 is_168 rfl).trans ek151_27.symm)
      refine w_inv (k := 0) (as := [(0, 2)]) (r := [(0, x1), (2, 170)]) (x := 151) (ls0 := [(2, 151), (0, 2)]) gz_189_96 gm_187 rfl is_151 rd_10 rfl rfl rfl rfl rfl (c_Model_takeNumber2_f0 (d := (d + 1)) (x1 := 2) (by omega) (by omega) (ev3.symm.trans (by omega)) Tok_h2 (fun h125 frh125 w126 w127 xp128 Tok_h125t129 => ?_) (fun h130 v131 frh130 w132 w133 w134 w135 w136 xp137 xp138 xp139 xp140 xp141 Tok_h130t142 => ?_))
      ·
        have gh125 : my_fr [(10, 7), (10, 8), (67, -1), (68, -1), (69, -1)] h h125 := my_fr.tr gh2 (frh125.mo rfl)
        have Mq_h125 : Mq h125 wv := Mq_ag (my_ag.fr frh125 rfl) Mq_h2
        have P6_h125 : h125 167 6 = h 167 6 := P6_ag (my_ag.fr frh125 rfl) P6_h2
        show wp l rho (d + 3) 189 99 [(2, 151), (0, x1), (9, 0)] [(0, 0), (0, x1), (2, 170)] h125 Q
        have hi143 : 0 ≤ 0 := by omega
        have hi144 : 0 ≤ 2 := by omega
        refine w_iast gz_189_99 is_170 rd_69 (by omega) (by omega) (by omega) (by omega) (fun h145 fh145 => ?_)
        have gh145 : my_fr [(10, 7), (10, 8), (67, -1), (68, -1), (69, -1)] h h145 := my_fr.up gh125 is_170 fh145 rfl
        have Mq_h145 : Mq h145 wv := Mq_u (a := 170) hwv (by decide) (by omega) fh145 Mq_h125
        have P6_h145 : h145 167 6 = h 167 6 := P6_ag (my_ag.up fh145 is_170 rfl) P6_h125
        have Tok_h145 : Tok h145 := Tok_ag (my_ag.up fh145 is_170 rfl) Tok_h125t129
        have k170 := my_up_self fh145
        refine w_aload_n gz_189_100 rfl ?_
        refine w_bipush gz_189_101 (by decide) ?_
        have ce146 : h145 151 7 = h125 151 7 := ((my_up_role fh145 is_151 is_170 rfl).trans (rfl : h125 151 7 = h125 151 7))
        have ce147 : h145 151 27 = k151_27 := ((my_up_role fh145 is_151 is_170 rfl).trans ((my_fr.at frh125 is_151 rfl).trans ((my_up_role fh2 is_151 is_168 rfl).trans ek151_27.symm)))
        refine w_inv (k := 0) (as := [(0, 9)]) (r := []) (x := 151) (ls0 := [(2, 151), (0, 9)]) gz_189_103 gm_175 rfl is_151 rd_10 rfl rfl rfl rfl rfl (c_Model_takeWord_f1 (d := d)  ((h125 151 8)) (((my_up_role fh145 is_151 is_170 rfl).trans (rfl : h125 151 8 = h125 151 8))) (by omega) (by omega) Tok_h145 (fun h148 frh148 w149 w150 xp151 Tok_h148t152 => ?_))
        have gh148 : my_fr [(10, 7), (10, 8), (67, -1), (68, -1), (69, -1)] h h148 := my_fr.tr gh145 (frh148.mo rfl)
        have Mq_h148 : Mq h148 wv := Mq_ag (my_ag.fr frh148 rfl) Mq_h145
        have P6_h148 : h148 167 6 = h 167 6 := P6_ag (my_ag.fr frh148 rfl) P6_h145
        show wp l rho (d + 3) 189 106 [(2, 151), (0, x1), (9, 0)] [] h148 Q
        refine w_aload_n gz_189_106 rfl ?_
        refine w_getX (v := 169) gz_189_107 is_151 rd_10 rfl (by decide) rfl ?_
        refine w_iload_n gz_189_110 rfl ?_
        refine w_aload_n gz_189_111 rfl ?_
        refine w_aload_n gz_189_112 rfl ?_
        refine v_getI (j := 27) gz_189_113 rfl is_151 rd_10 rfl (fun v154 ev154 pv154 qv154 => ?_)
        have zv154 := ev154.trans ((my_fr.at frh148 is_151 rfl).trans ((my_up_role fh145 is_151 is_170 rfl).trans ((my_fr.at frh125 is_151 rfl).trans ((my_up_role fh2 is_151 is_168 rfl).trans ek151_27.symm))))
        refine w_iconst gz_189_116 (by decide) ?_
        refine w_isub gz_189_117 ⟨by omega, by omega⟩ ?_
        have ce155 : h148 151 27 = v154 := ev154.symm
        refine w_inv (k := 0) (as := [(0, (v154 - 1))]) (r := [(0, x1), (2, 169)]) (x := 151) (ls0 := [(2, 151), (0, (v154 - 1))]) gz_189_118 gm_187 rfl is_151 rd_10 rfl rfl rfl rfl rfl (c_Model_takeNumber2_f1 (d := (d + 1)) (x1 := (v154 - 1)) (by omega) (by omega) ((h125 151 8)) (((my_fr.at frh148 is_151 rfl).trans ((my_up_role fh145 is_151 is_170 rfl).trans (rfl : h125 151 8 = h125 151 8)))) (by omega) (by omega) Tok_h148t152 (fun w156 w157 xp158 Tok_h148t159 => ?_))
        show wp l rho (d + 3) 189 121 [(2, 151), (0, x1), (9, 0)] [(0, 0), (0, x1), (2, 169)] h148 Q
        have hi160 : 0 ≤ 0 := by omega
        have hi161 : 0 ≤ 7 := by omega
        refine w_iast gz_189_121 is_169 rd_68 (by omega) (by omega) (by omega) (by omega) (fun h162 fh162 => ?_)
        have gh162 : my_fr [(10, 7), (10, 8), (67, -1), (68, -1), (69, -1)] h h162 := my_fr.up gh148 is_169 fh162 rfl
        have Mq_h162 : Mq h162 wv := Mq_u (a := 169) hwv (by decide) (by omega) fh162 Mq_h148
        have P6_h162 : h162 167 6 = h 167 6 := P6_ag (my_ag.up fh162 is_169 rfl) P6_h148
        have Tok_h162 : Tok h162 := Tok_ag (my_ag.up fh162 is_169 rfl) Tok_h148t159
        have k169 := my_up_self fh162
        have ce163 : h162 151 7 = h148 151 7 := ((my_up_role fh162 is_151 is_169 rfl).trans (rfl : h148 151 7 = h148 151 7))
        have ce164 : h162 151 27 = v154 := ((my_up_role fh162 is_151 is_169 rfl).trans ev154.symm)
        have a168 : ∀ j : Int, h162 168 j = h2 168 j := fun j => ((my_up_role fh162 is_168 is_169 rfl).trans ((my_fr.at frh148 is_168 rfl).trans ((my_up_role fh145 is_168 is_170 rfl).trans ((my_fr.at frh125 is_168 rfl).trans (rfl : h2 168 j = h2 168 j)))))
        have a170 : ∀ j : Int, h162 170 j = h145 170 j := fun j => ((my_up_role fh162 is_170 is_169 rfl).trans ((my_fr.at frh148 is_170 rfl).trans (rfl : h145 170 j = h145 170 j)))
        have a169 : ∀ j : Int, h162 169 j = h162 169 j := fun _ => rfl
        have a157 : ∀ j : Int, h162 157 j = h 157 j := fun j => ((my_up_role fh162 is_157 is_169 rfl).trans ((my_fr.at frh148 is_157 rfl).trans ((my_up_role fh145 is_157 is_170 rfl).trans ((my_fr.at frh125 is_157 rfl).trans ((my_up_role fh2 is_157 is_168 rfl).trans (rfl : h 157 j = h 157 j))))))
        have c165 := ((my_up_role fh162 is_151 is_169 rfl).trans ((my_fr.at frh148 is_151 rfl).trans ((my_up_role fh145 is_151 is_170 rfl).trans (rfl : h125 151 8 = h125 151 8))))
        exact w_vret gz_189_122 gm_189 (k0 h162 (gh162) (by omega) (by omega) (by first | omega | (exfalso; subst_vars; omega) | (exfalso; (try clear k0); (try clear k1); grind) | omega | (refine ⟨fun q => ?_, fun q => ?_⟩ <;> first | (rw [a168, k168] at q; omega) | (have kz := k170.trans (show _ = vz by omega); rw [a170, kz, a157]; omega)) | (refine ⟨fun q => ?_, fun q => ?_, fun q => ?_⟩ <;> first | (exfalso; rw [a168, k168] at q; omega) | (rw [a169, k169]; omega)) | omega) Tok_h162 Mq_h162)
      ·
        have gh130 : my_fr [(10, 7), (10, 8), (67, -1), (68, -1), (69, -1)] h h130 := my_fr.tr gh2 (frh130.mo rfl)
        have Mq_h130 : Mq h130 wv := Mq_ag (my_ag.fr frh130 rfl) Mq_h2
        have P6_h130 : h130 167 6 = h 167 6 := P6_ag (my_ag.fr frh130 rfl) P6_h2
        show wp l rho (d + 3) 189 99 [(2, 151), (0, x1), (9, 0)] [(0, v131), (0, x1), (2, 170)] h130 Q
        have hi166 : 0 ≤ v131 := by omega
        have hi167 : v131 ≤ 2 := by omega
        refine w_iast gz_189_99 is_170 rd_69 (by omega) (by omega) (by omega) (by omega) (fun h168 fh168 => ?_)
        have gh168 : my_fr [(10, 7), (10, 8), (67, -1), (68, -1), (69, -1)] h h168 := my_fr.up gh130 is_170 fh168 rfl
        have Mq_h168 : Mq h168 wv := Mq_u (a := 170) hwv (by decide) (by omega) fh168 Mq_h130
        have P6_h168 : h168 167 6 = h 167 6 := P6_ag (my_ag.up fh168 is_170 rfl) P6_h130
        have Tok_h168 : Tok h168 := Tok_ag (my_ag.up fh168 is_170 rfl) Tok_h130t142
        have k170 := my_up_self fh168
        refine w_aload_n gz_189_100 rfl ?_
        refine w_bipush gz_189_101 (by decide) ?_
        have ce169 : h168 151 7 = (h130 151 7) := ((my_up_role fh168 is_151 is_170 rfl).trans (rfl : h130 151 7 = h130 151 7))
        have ce170 : h168 151 27 = k151_27 := ((my_up_role fh168 is_151 is_170 rfl).trans ((my_fr.at frh130 is_151 rfl).trans ((my_up_role fh2 is_151 is_168 rfl).trans ek151_27.symm)))
        refine w_inv (k := 0) (as := [(0, 9)]) (r := []) (x := 151) (ls0 := [(2, 151), (0, 9)]) gz_189_103 gm_175 rfl is_151 rd_10 rfl rfl rfl rfl rfl (c_Model_takeWord_f0 (d := d) (x1 := 9) (by omega) (by omega) (((my_up_role fh168 is_151 is_170 rfl).trans w136).trans (by omega)) Tok_h168 (fun h171 frh171 w172 w173 xp174 Tok_h171t175 => ?_) (fun h176 frh176 w177 w178 w179 xp180 Tok_h176t181 => ?_))
        ·
          have gh171 : my_fr [(10, 7), (10, 8), (67, -1), (68, -1), (69, -1)] h h171 := my_fr.tr gh168 (frh171.mo rfl)
          have Mq_h171 : Mq h171 wv := Mq_ag (my_ag.fr frh171 rfl) Mq_h168
          have P6_h171 : h171 167 6 = h 167 6 := P6_ag (my_ag.fr frh171 rfl) P6_h168
          show wp l rho (d + 3) 189 106 [(2, 151), (0, x1), (9, 0)] [] h171 Q
          refine w_aload_n gz_189_106 rfl ?_
          refine w_getX (v := 169) gz_189_107 is_151 rd_10 rfl (by decide) rfl ?_
          refine w_iload_n gz_189_110 rfl ?_
          refine w_aload_n gz_189_111 rfl ?_
          refine w_aload_n gz_189_112 rfl ?_
          refine v_getI (j := 27) gz_189_113 rfl is_151 rd_10 rfl (fun v183 ev183 pv183 qv183 => ?_)
          have zv183 := ev183.trans ((my_fr.at frh171 is_151 rfl).trans ((my_up_role fh168 is_151 is_170 rfl).trans ((my_fr.at frh130 is_151 rfl).trans ((my_up_role fh2 is_151 is_168 rfl).trans ek151_27.symm))))
          refine w_iconst gz_189_116 (by decide) ?_
          refine w_isub gz_189_117 ⟨by omega, by omega⟩ ?_
          have ce184 : h171 151 27 = v183 := ev183.symm
          refine w_inv (k := 0) (as := [(0, (v183 - 1))]) (r := [(0, x1), (2, 169)]) (x := 151) (ls0 := [(2, 151), (0, (v183 - 1))]) gz_189_118 gm_187 rfl is_151 rd_10 rfl rfl rfl rfl rfl (c_Model_takeNumber2_f1 (d := (d + 1)) (x1 := (v183 - 1)) (by omega) (by omega) ((h171 151 8)) ((rfl : h171 151 8 = h171 151 8)) (by omega) (by omega) Tok_h171t175 (fun w185 w186 xp187 Tok_h171t188 => ?_))
          show wp l rho (d + 3) 189 121 [(2, 151), (0, x1), (9, 0)] [(0, 0), (0, x1), (2, 169)] h171 Q
          have hi189 : 0 ≤ 0 := by omega
          have hi190 : 0 ≤ 7 := by omega
          refine w_iast gz_189_121 is_169 rd_68 (by omega) (by omega) (by omega) (by omega) (fun h191 fh191 => ?_)
          have gh191 : my_fr [(10, 7), (10, 8), (67, -1), (68, -1), (69, -1)] h h191 := my_fr.up gh171 is_169 fh191 rfl
          have Mq_h191 : Mq h191 wv := Mq_u (a := 169) hwv (by decide) (by omega) fh191 Mq_h171
          have P6_h191 : h191 167 6 = h 167 6 := P6_ag (my_ag.up fh191 is_169 rfl) P6_h171
          have Tok_h191 : Tok h191 := Tok_ag (my_ag.up fh191 is_169 rfl) Tok_h171t188
          have k169 := my_up_self fh191
          have ce192 : h191 151 7 = h171 151 7 := ((my_up_role fh191 is_151 is_169 rfl).trans (rfl : h171 151 7 = h171 151 7))
          have ce193 : h191 151 27 = v183 := ((my_up_role fh191 is_151 is_169 rfl).trans ev183.symm)
          have a168 : ∀ j : Int, h191 168 j = h2 168 j := fun j => ((my_up_role fh191 is_168 is_169 rfl).trans ((my_fr.at frh171 is_168 rfl).trans ((my_up_role fh168 is_168 is_170 rfl).trans ((my_fr.at frh130 is_168 rfl).trans (rfl : h2 168 j = h2 168 j)))))
          have a170 : ∀ j : Int, h191 170 j = h168 170 j := fun j => ((my_up_role fh191 is_170 is_169 rfl).trans ((my_fr.at frh171 is_170 rfl).trans (rfl : h168 170 j = h168 170 j)))
          have a169 : ∀ j : Int, h191 169 j = h191 169 j := fun _ => rfl
          have a157 : ∀ j : Int, h191 157 j = h 157 j := fun j => ((my_up_role fh191 is_157 is_169 rfl).trans ((my_fr.at frh171 is_157 rfl).trans ((my_up_role fh168 is_157 is_170 rfl).trans ((my_fr.at frh130 is_157 rfl).trans ((my_up_role fh2 is_157 is_168 rfl).trans (rfl : h 157 j = h 157 j))))))
          have c194 := ((my_up_role fh191 is_151 is_169 rfl).trans (rfl : h171 151 8 = h171 151 8))
          exact w_vret gz_189_122 gm_189 (k0 h191 (gh191) (by omega) (by omega) (by first | omega | (exfalso; subst_vars; omega) | (exfalso; (try clear k0); (try clear k1); grind) | omega | (refine ⟨fun q => ?_, fun q => ?_⟩ <;> first | (rw [a168, k168] at q; omega) | (have kz := k170.trans (show _ = vz by omega); rw [a170, kz, a157]; omega)) | (refine ⟨fun q => ?_, fun q => ?_, fun q => ?_⟩ <;> first | (exfalso; rw [a168, k168] at q; omega) | (rw [a169, k169]; omega)) | omega) Tok_h191 Mq_h191)
        ·
          have gh176 : my_fr [(10, 7), (10, 8), (67, -1), (68, -1), (69, -1)] h h176 := my_fr.tr gh168 (frh176.mo rfl)
          have Mq_h176 : Mq h176 wv := Mq_ag (my_ag.fr frh176 rfl) Mq_h168
          have P6_h176 : h176 167 6 = h 167 6 := P6_ag (my_ag.fr frh176 rfl) P6_h168
          show wp l rho (d + 3) 189 106 [(2, 151), (0, x1), (9, 0)] [] h176 Q
          refine w_aload_n gz_189_106 rfl ?_
          refine w_getX (v := 169) gz_189_107 is_151 rd_10 rfl (by decide) rfl ?_
          refine w_iload_n gz_189_110 rfl ?_
          refine w_aload_n gz_189_111 rfl ?_
          refine w_aload_n gz_189_112 rfl ?_
          refine v_getI (j := 27) gz_189_113 rfl is_151 rd_10 rfl (fun v196 ev196 pv196 qv196 => ?_)
          have zv196 := ev196.trans ((my_fr.at frh176 is_151 rfl).trans ((my_up_role fh168 is_151 is_170 rfl).trans ((my_fr.at frh130 is_151 rfl).trans ((my_up_role fh2 is_151 is_168 rfl).trans ek151_27.symm))))
          refine w_iconst gz_189_116 (by decide) ?_
          refine w_isub gz_189_117 ⟨by omega, by omega⟩ ?_
          have ce197 : h176 151 7 = (h176 151 7) := (rfl : h176 151 7 = h176 151 7)
          have ce198 : h176 151 27 = v196 := ev196.symm
          refine w_inv (k := 0) (as := [(0, (v196 - 1))]) (r := [(0, x1), (2, 169)]) (x := 151) (ls0 := [(2, 151), (0, (v196 - 1))]) gz_189_118 gm_187 rfl is_151 rd_10 rfl rfl rfl rfl rfl (c_Model_takeNumber2_f0 (d := (d + 1)) (x1 := (v196 - 1)) (by omega) (by omega) (w179.trans (by omega)) Tok_h176t181 (fun h199 frh199 w200 w201 xp202 Tok_h199t203 => ?_) (fun h204 v205 frh204 w206 w207 w208 w209 w210 xp211 xp212 xp213 xp214 xp215 Tok_h204t216 => ?_))
          ·
            have gh199 : my_fr [(10, 7), (10, 8), (67, -1), (68, -1), (69, -1)] h h199 := my_fr.tr gh176 (frh199.mo rfl)
            have Mq_h199 : Mq h199 wv := Mq_ag (my_ag.fr frh199 rfl) Mq_h176
            have P6_h199 : h199 167 6 = h 167 6 := P6_ag (my_ag.fr frh199 rfl) P6_h176
            show wp l rho (d + 3) 189 121 [(2, 151), (0, x1), (9, 0)] [(0, 0), (0, x1), (2, 169)] h199 Q
            have hi217 : 0 ≤ 0 := by omega
            have hi218 : 0 ≤ 7 := by omega
            refine w_iast gz_189_121 is_169 rd_68 (by omega) (by omega) (by omega) (by omega) (fun h219 fh219 => ?_)
            have gh219 : my_fr [(10, 7), (10, 8), (67, -1), (68, -1), (69, -1)] h h219 := my_fr.up gh199 is_169 fh219 rfl
            have Mq_h219 : Mq h219 wv := Mq_u (a := 169) hwv (by decide) (by omega) fh219 Mq_h199
            have P6_h219 : h219 167 6 = h 167 6 := P6_ag (my_ag.up fh219 is_169 rfl) P6_h199
            have Tok_h219 : Tok h219 := Tok_ag (my_ag.up fh219 is_169 rfl) Tok_h199t203
            have k169 := my_up_self fh219
            have ce220 : h219 151 7 = h199 151 7 := ((my_up_role fh219 is_151 is_169 rfl).trans (rfl : h199 151 7 = h199 151 7))
            have ce221 : h219 151 27 = v196 := ((my_up_role fh219 is_151 is_169 rfl).trans ((my_fr.at frh199 is_151 rfl).trans ev196.symm))
            have a168 : ∀ j : Int, h219 168 j = h2 168 j := fun j => ((my_up_role fh219 is_168 is_169 rfl).trans ((my_fr.at frh199 is_168 rfl).trans ((my_fr.at frh176 is_168 rfl).trans ((my_up_role fh168 is_168 is_170 rfl).trans ((my_fr.at frh130 is_168 rfl).trans (rfl : h2 168 j = h2 168 j))))))
            have a170 : ∀ j : Int, h219 170 j = h168 170 j := fun j => ((my_up_role fh219 is_170 is_169 rfl).trans ((my_fr.at frh199 is_170 rfl).trans ((my_fr.at frh176 is_170 rfl).trans (rfl : h168 170 j = h168 170 j))))
            have a169 : ∀ j : Int, h219 169 j = h219 169 j := fun _ => rfl
            have a157 : ∀ j : Int, h219 157 j = h 157 j := fun j => ((my_up_role fh219 is_157 is_169 rfl).trans ((my_fr.at frh199 is_157 rfl).trans ((my_fr.at frh176 is_157 rfl).trans ((my_up_role fh168 is_157 is_170 rfl).trans ((my_fr.at frh130 is_157 rfl).trans ((my_up_role fh2 is_157 is_168 rfl).trans (rfl : h 157 j = h 157 j)))))))
            have c222 := ((my_up_role fh219 is_151 is_169 rfl).trans (rfl : h199 151 8 = h199 151 8))
            exact w_vret gz_189_122 gm_189 (k0 h219 (gh219) (by omega) (by omega) (by first | omega | (exfalso; subst_vars; omega) | (exfalso; (try clear k0); (try clear k1); grind) | omega | (refine ⟨fun q => ?_, fun q => ?_⟩ <;> first | (rw [a168, k168] at q; omega) | (have kz := k170.trans (show _ = vz by omega); rw [a170, kz, a157]; omega)) | (refine ⟨fun q => ?_, fun q => ?_, fun q => ?_⟩ <;> first | (exfalso; rw [a168, k168] at q; omega) | (rw [a169, k169]; omega)) | omega) Tok_h219 Mq_h219)
          ·
            have gh204 : my_fr [(10, 7), (10, 8), (67, -1), (68, -1), (69, -1)] h h204 := my_fr.tr gh176 (frh204.mo rfl)
            have Mq_h204 : Mq h204 wv := Mq_ag (my_ag.fr frh204 rfl) Mq_h176
            have P6_h204 : h204 167 6 = h 167 6 := P6_ag (my_ag.fr frh204 rfl) P6_h176
            show wp l rho (d + 3) 189 121 [(2, 151), (0, x1), (9, 0)] [(0, v205), (0, x1), (2, 169)] h204 Q
            have hi223 : 0 ≤ v205 := by omega
            have hi224 : v205 ≤ 7 := by omega
            refine w_iast gz_189_121 is_169 rd_68 (by omega) (by omega) (by omega) (by omega) (fun h225 fh225 => ?_)
            have gh225 : my_fr [(10, 7), (10, 8), (67, -1), (68, -1), (69, -1)] h h225 := my_fr.up gh204 is_169 fh225 rfl
            have Mq_h225 : Mq h225 wv := Mq_u (a := 169) hwv (by decide) (by omega) fh225 Mq_h204
            have P6_h225 : h225 167 6 = h 167 6 := P6_ag (my_ag.up fh225 is_169 rfl) P6_h204
            have Tok_h225 : Tok h225 := Tok_ag (my_ag.up fh225 is_169 rfl) Tok_h204t216
            have k169 := my_up_self fh225
            have ce226 : h225 151 7 = (h204 151 7) := ((my_up_role fh225 is_151 is_169 rfl).trans (rfl : h204 151 7 = h204 151 7))
            have ce227 : h225 151 27 = v196 := ((my_up_role fh225 is_151 is_169 rfl).trans ((my_fr.at frh204 is_151 rfl).trans ev196.symm))
            have a168 : ∀ j : Int, h225 168 j = h2 168 j := fun j => ((my_up_role fh225 is_168 is_169 rfl).trans ((my_fr.at frh204 is_168 rfl).trans ((my_fr.at frh176 is_168 rfl).trans ((my_up_role fh168 is_168 is_170 rfl).trans ((my_fr.at frh130 is_168 rfl).trans (rfl : h2 168 j = h2 168 j))))))
            have a170 : ∀ j : Int, h225 170 j = h168 170 j := fun j => ((my_up_role fh225 is_170 is_169 rfl).trans ((my_fr.at frh204 is_170 rfl).trans ((my_fr.at frh176 is_170 rfl).trans (rfl : h168 170 j = h168 170 j))))
            have a169 : ∀ j : Int, h225 169 j = h225 169 j := fun _ => rfl
            have a157 : ∀ j : Int, h225 157 j = h 157 j := fun j => ((my_up_role fh225 is_157 is_169 rfl).trans ((my_fr.at frh204 is_157 rfl).trans ((my_fr.at frh176 is_157 rfl).trans ((my_up_role fh168 is_157 is_170 rfl).trans ((my_fr.at frh130 is_157 rfl).trans ((my_up_role fh2 is_157 is_168 rfl).trans (rfl : h 157 j = h 157 j)))))))
            have c228 := ((my_up_role fh225 is_151 is_169 rfl).trans (rfl : h204 151 7 = h204 151 7))
            have c229 := ((my_up_role fh225 is_151 is_169 rfl).trans w210)
            exact w_vret gz_189_122 gm_189 (k1 h225 (gh225) (by omega) (by omega) (by omega) (by first | omega | (exfalso; subst_vars; omega) | (exfalso; (try clear k0); (try clear k1); grind) | omega | (refine ⟨fun q => ?_, fun q => ?_⟩ <;> first | (rw [a168, k168] at q; omega) | (have kz := k170.trans (show _ = vz by omega); rw [a170, kz, a157]; omega)) | (refine ⟨fun q => ?_, fun q => ?_, fun q => ?_⟩ <;> first | (exfalso; rw [a168, k168] at q; omega) | (rw [a169, k169]; omega)) | omega) (by first | omega | (exfalso; subst_vars; omega) | (exfalso; (try clear k0); (try clear k1); grind) | omega | (refine ⟨fun q => ?_, fun q => ?_⟩ <;> first | (rw [a168, k168] at q; omega) | (have kz := k170.trans (show _ = vz by omega); rw [a170, kz, a157]; omega)) | (refine ⟨fun q => ?_, fun q => ?_, fun q => ?_⟩ <;> first | (exfalso; rw [a168, k168] at q; omega) | (rw [a169, k169]; omega)) | omega) (by first | omega | (exfalso; subst_vars; omega) | (exfalso; (try clear k0); (try clear k1); grind) | omega | (refine ⟨fun q => ?_, fun q => ?_⟩ <;> first | (rw [a168, k168] at q; omega) | (have kz := k170.trans (show _ = vz by omega); rw [a170, kz, a157]; omega)) | (refine ⟨fun q => ?_, fun q => ?_, fun q => ?_⟩ <;> first | (exfalso; rw [a168, k168] at q; omega) | (rw [a169, k169]; omega)) | omega) Tok_h225 Mq_h225)
    ·
      refine w_aload_n gz_189_43 rfl ?_
      refine w_getX (v := 157) gz_189_44 is_151 rd_10 rfl (by decide) rfl ?_
      refine w_aload_n gz_189_47 rfl ?_
      refine w_getX (v := 155) gz_189_48 is_151 rd_10 rfl (by decide) rfl ?_
      refine w_aload_n gz_189_51 rfl ?_
      refine v_getI (j := 7) gz_189_52 rfl is_151 rd_10 rfl (fun v232 ev232 pv232 qv232 => ?_)
      have zv232 := ev232.trans ev118.symm
      refine w_lald gz_189_55 is_155 rd_54 (by omega) (by omega) (fun v233 ev233 pv233 => ?_)
      have tb : 0 ≤ v233 ∧ v233 ≤ 999 := by
        have q := Tok_at Tok_h2
        subst_vars
        omega
      refine w_l2iE gz_189_56 (fun v234 pv234 qv234 xv234 => ?_)
      have z155 : v234 = h2 155 (h2 151 7) := by subst_vars; omega
      have hi235 : 0 ≤ v234 := by subst_vars; omega
      have hi236 : v234 ≤ 2 := by subst_vars; omega
      refine w_iald gz_189_57 is_157 rd_56 (by omega) (by omega) (fun v237 ev237 pv237 qv237 => ?_)
      have b157 : ∀ j : Int, h2 157 j = h 157 j := fun j => ((my_up_role fh2 is_157 is_168 rfl).trans (rfl : h 157 j = h 157 j))
      obtain ⟨vz, ez⟩ : ∃ vz : Int, vz = h2 155 (h2 151 7) := ⟨_, rfl⟩
      have c157 : v237 = h 157 vz := by rw [ez, ← z155, ← b157]; omega
      refine w_istore_n (ls' := [(2, 151), (0, x1), (0, v237)]) gz_189_58 gm_189 rfl rfl rfl ?_
      refine w_iload_n gz_189_59 rfl ?_
      refine w_ifeq (t := 76) gz_189_60 rfl (fun u238 => ?_) (fun u238 => ?_)
      ·
        refine w_aload_n gz_189_76 rfl ?_
        refine w_iload_n gz_189_77 rfl ?_
        refine w_ifne (t := 85) gz_189_78 rfl (fun u239 => by exfalso; omega) (fun u239 => ?_)
        refine w_iconst gz_189_81 (by decide) ?_
        refine w_goto (t := 86) gz_189_82 rfl ?_
        have ce240 : h2 151 7 = v232 := ev232.symm
        have ce241 : h2 151 27 = k151_27 := ((my_up_role fh2 is_151 is_168 rfl).trans ek151_27.symm)
        refine w_inv (k := 0) (as := [(0, 2)]) (r := []) (x := 151) (ls0 := [(2, 151), (0, 2)]) gz_189_86 gm_178 rfl is_151 rd_10 rfl rfl rfl rfl rfl ?_
        refine w_aload_n gz_178_0 rfl ?_
        refine v_getI (j := 8) gz_178_1 rfl is_151 rd_10 rfl (fun v242 ev242 pv242 qv242 => ?_)
        have zv242 := ev242.trans ev3.symm
        refine w_ifne (t := 25) gz_178_4 rfl (fun u243 => by exfalso; omega) (fun u243 => ?_)
        refine w_aload_n gz_178_7 rfl ?_
        refine w_iload_n gz_178_8 rfl ?_
        refine w_bipush gz_178_9 (by decide) ?_
        refine w_aload_n gz_178_11 rfl ?_
        refine w_getX (v := 154) gz_178_12 is_151 rd_10 rfl (by decide) rfl ?_
        refine w_aload_n gz_178_15 rfl ?_
        refine v_getI (j := 7) gz_178_16 rfl is_151 rd_10 rfl (fun v245 ev245 pv245 qv245 => ?_)
        have zv245 := ev245.trans ev232.symm
        refine w_iald gz_178_19 is_154 rd_53 (by omega) (by omega) (fun v246 ev246 pv246 qv246 => ?_)
        refine w_imul gz_178_20 ⟨by omega, by omega⟩ ?_
        refine w_iadd gz_178_21 ⟨by omega, by omega⟩ ?_
        refine v_putI (j := 8) gz_178_22 rfl is_151 rd_10 rfl (by omega) (by omega) rfl (fun h247 fh247 => ?_)
        have gh247 : my_fr [(10, 7), (10, 8), (67, -1), (68, -1), (69, -1)] h h247 := my_fr.up gh2 is_151 fh247 rfl
        have Tok_h247 : Tok h247 := Tok_ag (my_ag.up fh247 is_151 rfl) Tok_h2
        have Mq_h247 : Mq h247 wv := Mq_ag (my_ag.up fh247 is_151 rfl) Mq_h2
        have P6_h247 : h247 167 6 = h 167 6 := P6_ag (my_ag.up fh247 is_151 rfl) P6_h2
        refine w_vret gz_178_25 gm_178 ?_
        show wp l rho (d + 3) 189 89 [(2, 151), (0, x1), (0, v237)] [] h247 Q
        refine w_aload_n gz_189_89 rfl ?_
        refine w_getX (v := 170) gz_189_90 is_151 rd_10 rfl (by decide) rfl ?_
        refine w_iload_n gz_189_93 rfl ?_
        refine w_aload_n gz_189_94 rfl ?_
        refine w_iconst gz_189_95 (by decide) ?_
        have ce249 : h247 151 7 = v245 := ((my_up_fld fh247 (by decide)).trans ev245.symm)
        have ce250 : h247 151 27 = k151_27 := ((my_up_fld fh247 (by decide)).trans ((my_up_role fh2 is_151 is_168 rfl).trans ek151_27.symm))
        refine w_inv (k := 0) (as := [(0, 2)]) (r := [(0, x1), (2, 170)]) (x := 151) (ls0 := [(2, 151), (0, 2)]) gz_189_96 gm_187 rfl is_151 rd_10 rfl rfl rfl rfl rfl (c_Model_takeNumber2_f1 (d := (d + 1)) (x1 := 2) (by omega) (by omega) ((2 + (16 * v246))) ((my_up_self fh247)) (by omega) (by omega) Tok_h247 (fun w251 w252 xp253 Tok_h247t254 => ?_))
        show wp l rho (d + 3) 189 99 [(2, 151), (0, x1), (0, v237)] [(0, 0), (0, x1), (2, 170)] h247 Q
        have hi255 : 0 ≤ 0 := by omega
        have hi256 : 0 ≤ 2 := by omega
        refine w_iast gz_189_99 is_170 rd_69 (by omega) (by omega) (by omega) (by omega) (fun h257 fh257 => ?_)
        have gh257 : my_fr [(10, 7), (10, 8), (67, -1), (68, -1), (69, -1)] h h257 := my_fr.up gh247 is_170 fh257 rfl
        have Tok_h257 : Tok h257 := Tok_ag (my_ag.up fh257 is_170 rfl) Tok_h247t254
        have Mq_h257 : Mq h257 wv := Mq_u (a := 170) hwv (by decide) (by omega) fh257 Mq_h247
        have P6_h257 : h257 167 6 = h 167 6 := P6_ag (my_ag.up fh257 is_170 rfl) P6_h247
        have k170 := my_up_self fh257
        refine w_aload_n gz_189_100 rfl ?_
        refine w_bipush gz_189_101 (by decide) ?_
        have ce258 : h257 151 7 = v245 := ((my_up_role fh257 is_151 is_170 rfl).trans ((my_up_fld fh247 (by decide)).trans ev245.symm))
        have ce259 : h257 151 27 = k151_27 := ((my_up_role fh257 is_151 is_170 rfl).trans ((my_up_fld fh247 (by decide)).trans ((my_up_role fh2 is_151 is_168 rfl).trans ek151_27.symm)))
        refine w_inv (k := 0) (as := [(0, 9)]) (r := []) (x := 151) (ls0 := [(2, 151), (0, 9)]) gz_189_103 gm_175 rfl is_151 rd_10 rfl rfl rfl rfl rfl (c_Model_takeWord_f1 (d := d)  ((2 + (16 * v246))) (((my_up_role fh257 is_151 is_170 rfl).trans (my_up_self fh247))) (by omega) (by omega) Tok_h257 (fun h260 frh260 w261 w262 xp263 Tok_h260t264 => ?_))
        have gh260 : my_fr [(10, 7), (10, 8), (67, -1), (68, -1), (69, -1)] h h260 := my_fr.tr gh257 (frh260.mo rfl)
        have Mq_h260 : Mq h260 wv := Mq_ag (my_ag.fr frh260 rfl) Mq_h257
        have P6_h260 : h260 167 6 = h 167 6 := P6_ag (my_ag.fr frh260 rfl) P6_h257
        show wp l rho (d + 3) 189 106 [(2, 151), (0, x1), (0, v237)] [] h260 Q
        refine w_aload_n gz_189_106 rfl ?_
        refine w_getX (v := 169) gz_189_107 is_151 rd_10 rfl (by decide) rfl ?_
        refine w_iload_n gz_189_110 rfl ?_
        refine w_aload_n gz_189_111 rfl ?_
        refine w_aload_n gz_189_112 rfl ?_
        refine v_getI (j := 27) gz_189_113 rfl is_151 rd_10 rfl (fun v266 ev266 pv266 qv266 => ?_)
        have zv266 := ev266.trans ((my_fr.at frh260 is_151 rfl).trans ((my_up_role fh257 is_151 is_170 rfl).trans ((my_up_fld fh247 (by decide)).trans ((my_up_role fh2 is_151 is_168 rfl).trans ek151_27.symm))))
        refine w_iconst gz_189_116 (by decide) ?_
        refine w_isub gz_189_117 ⟨by omega, by omega⟩ ?_
        have ce267 : h260 151 27 = v266 := ev266.symm
        refine w_inv (k := 0) (as := [(0, (v266 - 1))]) (r := [(0, x1), (2, 169)]) (x := 151) (ls0 := [(2, 151), (0, (v266 - 1))]) gz_189_118 gm_187 rfl is_151 rd_10 rfl rfl rfl rfl rfl (c_Model_takeNumber2_f1 (d := (d + 1)) (x1 := (v266 - 1)) (by omega) (by omega) ((2 + (16 * v246))) (((my_fr.at frh260 is_151 rfl).trans ((my_up_role fh257 is_151 is_170 rfl).trans (my_up_self fh247)))) (by omega) (by omega) Tok_h260t264 (fun w268 w269 xp270 Tok_h260t271 => ?_))
        show wp l rho (d + 3) 189 121 [(2, 151), (0, x1), (0, v237)] [(0, 0), (0, x1), (2, 169)] h260 Q
        have hi272 : 0 ≤ 0 := by omega
        have hi273 : 0 ≤ 7 := by omega
        refine w_iast gz_189_121 is_169 rd_68 (by omega) (by omega) (by omega) (by omega) (fun h274 fh274 => ?_)
        have gh274 : my_fr [(10, 7), (10, 8), (67, -1), (68, -1), (69, -1)] h h274 := my_fr.up gh260 is_169 fh274 rfl
        have Mq_h274 : Mq h274 wv := Mq_u (a := 169) hwv (by decide) (by omega) fh274 Mq_h260
        have P6_h274 : h274 167 6 = h 167 6 := P6_ag (my_ag.up fh274 is_169 rfl) P6_h260
        have Tok_h274 : Tok h274 := Tok_ag (my_ag.up fh274 is_169 rfl) Tok_h260t271
        have k169 := my_up_self fh274
        have ce275 : h274 151 7 = h260 151 7 := ((my_up_role fh274 is_151 is_169 rfl).trans (rfl : h260 151 7 = h260 151 7))
        have ce276 : h274 151 27 = v266 := ((my_up_role fh274 is_151 is_169 rfl).trans ev266.symm)
        have a168 : ∀ j : Int, h274 168 j = h2 168 j := fun j => ((my_up_role fh274 is_168 is_169 rfl).trans ((my_fr.at frh260 is_168 rfl).trans ((my_up_role fh257 is_168 is_170 rfl).trans ((my_up_role fh247 is_168 is_151 rfl).trans (rfl : h2 168 j = h2 168 j)))))
        have a170 : ∀ j : Int, h274 170 j = h257 170 j := fun j => ((my_up_role fh274 is_170 is_169 rfl).trans ((my_fr.at frh260 is_170 rfl).trans (rfl : h257 170 j = h257 170 j)))
        have a169 : ∀ j : Int, h274 169 j = h274 169 j := fun _ => rfl
        have a157 : ∀ j : Int, h274 157 j = h 157 j := fun j => ((my_up_role fh274 is_157 is_169 rfl).trans ((my_fr.at frh260 is_157 rfl).trans ((my_up_role fh257 is_157 is_170 rfl).trans ((my_up_role fh247 is_157 is_151 rfl).trans ((my_up_role fh2 is_157 is_168 rfl).trans (rfl : h 157 j = h 157 j))))))
        have c277 := ((my_up_role fh274 is_151 is_169 rfl).trans ((my_fr.at frh260 is_151 rfl).trans ((my_up_role fh257 is_151 is_170 rfl).trans (my_up_self fh247))))
        exact w_vret gz_189_122 gm_189 (k0 h274 (gh274) (by omega) (by omega) (by first | omega | (exfalso; subst_vars; omega) | (exfalso; (try clear k0); (try clear k1); grind) | omega | (refine ⟨fun q => ?_, fun q => ?_⟩ <;> first | (rw [a168, k168] at q; omega) | (have kz := k170.trans (show _ = vz by omega); rw [a170, kz, a157]; omega)) | (refine ⟨fun q => ?_, fun q => ?_, fun q => ?_⟩ <;> first | (exfalso; rw [a168, k168] at q; omega) | (rw [a169, k169]; omega)) | omega) Tok_h274 Mq_h274)
      ·
        refine w_aload_n gz_189_63 rfl ?_
        refine v_getI (j := 27) gz_189_64 rfl is_151 rd_10 rfl (fun v278 ev278 pv278 qv278 => ?_)
        have zv278 := ev278.trans ((my_up_role fh2 is_151 is_168 rfl).trans ek151_27.symm)
        refine w_iload_n gz_189_67 rfl ?_
        refine w_iadd gz_189_68 ⟨by omega, by omega⟩ ?_
        refine w_iconst gz_189_69 (by decide) ?_
        refine w_isub gz_189_70 ⟨by omega, by omega⟩ ?_
        refine w_bipush gz_189_71 (by decide) ?_
        refine w_icle (t := 89) gz_189_73 rfl (fun u279 => ?_) (fun u279 => ?_)
        ·
          refine w_aload_n gz_189_89 rfl ?_
          refine w_getX (v := 170) gz_189_90 is_151 rd_10 rfl (by decide) rfl ?_
          refine w_iload_n gz_189_93 rfl ?_
          refine w_aload_n gz_189_94 rfl ?_
          refine w_iconst gz_189_95 (by decide) ?_
          have ce281 : h2 151 7 = v232 := ev232.symm
          have ce282 : h2 151 27 = v278 := ev278.symm
          refine w_inv (k := 0) (as := [(0, 2)]) (r := [(0, x1), (2, 170)]) (x := 151) (ls0 := [(2, 151), (0, 2)]) gz_189_96 gm_187 rfl is_151 rd_10 rfl rfl rfl rfl rfl (c_Model_takeNumber2_f0 (d := (d + 1)) (x1 := 2) (by omega) (by omega) (ev3.symm.trans (by omega)) Tok_h2 (fun h283 frh283 w284 w285 xp286 Tok_h283t287 => ?_) (fun h288 v289 frh288 w290 w291 w292 w293 w294 xp295 xp296 xp297 xp298 xp299 Tok_h288t300 => ?_))
          ·
            have gh283 : my_fr [(10, 7), (10, 8), (67, -1), (68, -1), (69, -1)] h h283 := my_fr.tr gh2 (frh283.mo rfl)
            have Mq_h283 : Mq h283 wv := Mq_ag (my_ag.fr frh283 rfl) Mq_h2
            have P6_h283 : h283 167 6 = h 167 6 := P6_ag (my_ag.fr frh283 rfl) P6_h2
            show wp l rho (d + 3) 189 99 [(2, 151), (0, x1), (0, v237)] [(0, 0), (0, x1), (2, 170)] h283 Q
            have hi301 : 0 ≤ 0 := by omega
            have hi302 : 0 ≤ 2 := by omega
            refine w_iast gz_189_99 is_170 rd_69 (by omega) (by omega) (by omega) (by omega) (fun h303 fh303 => ?_)
            have gh303 : my_fr [(10, 7), (10, 8), (67, -1), (68, -1), (69, -1)] h h303 := my_fr.up gh283 is_170 fh303 rfl
            have Mq_h303 : Mq h303 wv := Mq_u (a := 170) hwv (by decide) (by omega) fh303 Mq_h283
            have P6_h303 : h303 167 6 = h 167 6 := P6_ag (my_ag.up fh303 is_170 rfl) P6_h283
            have Tok_h303 : Tok h303 := Tok_ag (my_ag.up fh303 is_170 rfl) Tok_h283t287
            have k170 := my_up_self fh303
            refine w_aload_n gz_189_100 rfl ?_
            refine w_bipush gz_189_101 (by decide) ?_
            have ce304 : h303 151 7 = h283 151 7 := ((my_up_role fh303 is_151 is_170 rfl).trans (rfl : h283 151 7 = h283 151 7))
            have ce305 : h303 151 27 = v278 := ((my_up_role fh303 is_151 is_170 rfl).trans ((my_fr.at frh283 is_151 rfl).trans ev278.symm))
            refine w_inv (k := 0) (as := [(0, 9)]) (r := []) (x := 151) (ls0 := [(2, 151), (0, 9)]) gz_189_103 gm_175 rfl is_151 rd_10 rfl rfl rfl rfl rfl (c_Model_takeWord_f1 (d := d)  ((h283 151 8)) (((my_up_role fh303 is_151 is_170 rfl).trans (rfl : h283 151 8 = h283 151 8))) (by omega) (by omega) Tok_h303 (fun h306 frh306 w307 w308 xp309 Tok_h306t310 => ?_))
            have gh306 : my_fr [(10, 7), (10, 8), (67, -1), (68, -1), (69, -1)] h h306 := my_fr.tr gh303 (frh306.mo rfl)
            have Mq_h306 : Mq h306 wv := Mq_ag (my_ag.fr frh306 rfl) Mq_h303
            have P6_h306 : h306 167 6 = h 167 6 := P6_ag (my_ag.fr frh306 rfl) P6_h303
            show wp l rho (d + 3) 189 106 [(2, 151), (0, x1), (0, v237)] [] h306 Q
            refine w_aload_n gz_189_106 rfl ?_
            refine w_getX (v := 169) gz_189_107 is_151 rd_10 rfl (by decide) rfl ?_
            refine w_iload_n gz_189_110 rfl ?_
            refine w_aload_n gz_189_111 rfl ?_
            refine w_aload_n gz_189_112 rfl ?_
            refine v_getI (j := 27) gz_189_113 rfl is_151 rd_10 rfl (fun v312 ev312 pv312 qv312 => ?_)
            have zv312 := ev312.trans ((my_fr.at frh306 is_151 rfl).trans ((my_up_role fh303 is_151 is_170 rfl).trans ((my_fr.at frh283 is_151 rfl).trans ev278.symm)))
            refine w_iconst gz_189_116 (by decide) ?_
            refine w_isub gz_189_117 ⟨by omega, by omega⟩ ?_
            have ce313 : h306 151 27 = v312 := ev312.symm
            refine w_inv (k := 0) (as := [(0, (v312 - 1))]) (r := [(0, x1), (2, 169)]) (x := 151) (ls0 := [(2, 151), (0, (v312 - 1))]) gz_189_118 gm_187 rfl is_151 rd_10 rfl rfl rfl rfl rfl (c_Model_takeNumber2_f1 (d := (d + 1)) (x1 := (v312 - 1)) (by omega) (by omega) ((h283 151 8)) (((my_fr.at frh306 is_151 rfl).trans ((my_up_role fh303 is_151 is_170 rfl).trans (rfl : h283 151 8 = h283 151 8)))) (by omega) (by omega) Tok_h306t310 (fun w314 w315 xp316 Tok_h306t317 => ?_))
            show wp l rho (d + 3) 189 121 [(2, 151), (0, x1), (0, v237)] [(0, 0), (0, x1), (2, 169)] h306 Q
            have hi318 : 0 ≤ 0 := by omega
            have hi319 : 0 ≤ 7 := by omega
            refine w_iast gz_189_121 is_169 rd_68 (by omega) (by omega) (by omega) (by omega) (fun h320 fh320 => ?_)
            have gh320 : my_fr [(10, 7), (10, 8), (67, -1), (68, -1), (69, -1)] h h320 := my_fr.up gh306 is_169 fh320 rfl
            have Mq_h320 : Mq h320 wv := Mq_u (a := 169) hwv (by decide) (by omega) fh320 Mq_h306
            have P6_h320 : h320 167 6 = h 167 6 := P6_ag (my_ag.up fh320 is_169 rfl) P6_h306
            have Tok_h320 : Tok h320 := Tok_ag (my_ag.up fh320 is_169 rfl) Tok_h306t317
            have k169 := my_up_self fh320
            have ce321 : h320 151 7 = h306 151 7 := ((my_up_role fh320 is_151 is_169 rfl).trans (rfl : h306 151 7 = h306 151 7))
            have ce322 : h320 151 27 = v312 := ((my_up_role fh320 is_151 is_169 rfl).trans ev312.symm)
            have a168 : ∀ j : Int, h320 168 j = h2 168 j := fun j => ((my_up_role fh320 is_168 is_169 rfl).trans ((my_fr.at frh306 is_168 rfl).trans ((my_up_role fh303 is_168 is_170 rfl).trans ((my_fr.at frh283 is_168 rfl).trans (rfl : h2 168 j = h2 168 j)))))
            have a170 : ∀ j : Int, h320 170 j = h303 170 j := fun j => ((my_up_role fh320 is_170 is_169 rfl).trans ((my_fr.at frh306 is_170 rfl).trans (rfl : h303 170 j = h303 170 j)))
            have a169 : ∀ j : Int, h320 169 j = h320 169 j := fun _ => rfl
            have a157 : ∀ j : Int, h320 157 j = h 157 j := fun j => ((my_up_role fh320 is_157 is_169 rfl).trans ((my_fr.at frh306 is_157 rfl).trans ((my_up_role fh303 is_157 is_170 rfl).trans ((my_fr.at frh283 is_157 rfl).trans ((my_up_role fh2 is_157 is_168 rfl).trans (rfl : h 157 j = h 157 j))))))
            have c323 := ((my_up_role fh320 is_151 is_169 rfl).trans ((my_fr.at frh306 is_151 rfl).trans ((my_up_role fh303 is_151 is_170 rfl).trans (rfl : h283 151 8 = h283 151 8))))
            exact w_vret gz_189_122 gm_189 (k0 h320 (gh320) (by omega) (by omega) (by first | omega | (exfalso; subst_vars; omega) | (exfalso; (try clear k0); (try clear k1); grind) | omega | (refine ⟨fun q => ?_, fun q => ?_⟩ <;> first | (rw [a168, k168] at q; omega) | (have kz := k170.trans (show _ = vz by omega); rw [a170, kz, a157]; omega)) | (refine ⟨fun q => ?_, fun q => ?_, fun q => ?_⟩ <;> first | (exfalso; rw [a168, k168] at q; omega) | (rw [a169, k169]; omega)) | omega) Tok_h320 Mq_h320)
          ·
            have gh288 : my_fr [(10, 7), (10, 8), (67, -1), (68, -1), (69, -1)] h h288 := my_fr.tr gh2 (frh288.mo rfl)
            have Mq_h288 : Mq h288 wv := Mq_ag (my_ag.fr frh288 rfl) Mq_h2
            have P6_h288 : h288 167 6 = h 167 6 := P6_ag (my_ag.fr frh288 rfl) P6_h2
            show wp l rho (d + 3) 189 99 [(2, 151), (0, x1), (0, v237)] [(0, v289), (0, x1), (2, 170)] h288 Q
            have hi324 : 0 ≤ v289 := by omega
            have hi325 : v289 ≤ 2 := by omega
            refine w_iast gz_189_99 is_170 rd_69 (by omega) (by omega) (by omega) (by omega) (fun h326 fh326 => ?_)
            have gh326 : my_fr [(10, 7), (10, 8), (67, -1), (68, -1), (69, -1)] h h326 := my_fr.up gh288 is_170 fh326 rfl
            have Mq_h326 : Mq h326 wv := Mq_u (a := 170) hwv (by decide) (by omega) fh326 Mq_h288
            have P6_h326 : h326 167 6 = h 167 6 := P6_ag (my_ag.up fh326 is_170 rfl) P6_h288
            have Tok_h326 : Tok h326 := Tok_ag (my_ag.up fh326 is_170 rfl) Tok_h288t300
            have k170 := my_up_self fh326
            refine w_aload_n gz_189_100 rfl ?_
            refine w_bipush gz_189_101 (by decide) ?_
            have ce327 : h326 151 7 = (h288 151 7) := ((my_up_role fh326 is_151 is_170 rfl).trans (rfl : h288 151 7 = h288 151 7))
            have ce328 : h326 151 27 = v278 := ((my_up_role fh326 is_151 is_170 rfl).trans ((my_fr.at frh288 is_151 rfl).trans ev278.symm))
            refine w_inv (k := 0) (as := [(0, 9)]) (r := []) (x := 151) (ls0 := [(2, 151), (0, 9)]) gz_189_103 gm_175 rfl is_151 rd_10 rfl rfl rfl rfl rfl (c_Model_takeWord_f0 (d := d) (x1 := 9) (by omega) (by omega) (((my_up_role fh326 is_151 is_170 rfl).trans w294).trans (by omega)) Tok_h326 (fun h329 frh329 w330 w331 xp332 Tok_h329t333 => ?_) (fun h334 frh334 w335 w336 w337 xp338 Tok_h334t339 => ?_))
            ·
              have gh329 : my_fr [(10, 7), (10, 8), (67, -1), (68, -1), (69, -1)] h h329 := my_fr.tr gh326 (frh329.mo rfl)
              have Mq_h329 : Mq h329 wv := Mq_ag (my_ag.fr frh329 rfl) Mq_h326
              have P6_h329 : h329 167 6 = h 167 6 := P6_ag (my_ag.fr frh329 rfl) P6_h326
              show wp l rho (d + 3) 189 106 [(2, 151), (0, x1), (0, v237)] [] h329 Q
              refine w_aload_n gz_189_106 rfl ?_
              refine w_getX (v := 169) gz_189_107 is_151 rd_10 rfl (by decide) rfl ?_
              refine w_iload_n gz_189_110 rfl ?_
              refine w_aload_n gz_189_111 rfl ?_
              refine w_aload_n gz_189_112 rfl ?_
              refine v_getI (j := 27) gz_189_113 rfl is_151 rd_10 rfl (fun v341 ev341 pv341 qv341 => ?_)
              have zv341 := ev341.trans ((my_fr.at frh329 is_151 rfl).trans ((my_up_role fh326 is_151 is_170 rfl).trans ((my_fr.at frh288 is_151 rfl).trans ev278.symm)))
              refine w_iconst gz_189_116 (by decide) ?_
              refine w_isub gz_189_117 ⟨by omega, by omega⟩ ?_
              have ce342 : h329 151 27 = v341 := ev341.symm
              refine w_inv (k := 0) (as := [(0, (v341 - 1))]) (r := [(0, x1), (2, 169)]) (x := 151) (ls0 := [(2, 151), (0, (v341 - 1))]) gz_189_118 gm_187 rfl is_151 rd_10 rfl rfl rfl rfl rfl (c_Model_takeNumber2_f1 (d := (d + 1)) (x1 := (v341 - 1)) (by omega) (by omega) ((h329 151 8)) ((rfl : h329 151 8 = h329 151 8)) (by omega) (by omega) Tok_h329t333 (fun w343 w344 xp345 Tok_h329t346 => ?_))
              show wp l rho (d + 3) 189 121 [(2, 151), (0, x1), (0, v237)] [(0, 0), (0, x1), (2, 169)] h329 Q
              have hi347 : 0 ≤ 0 := by omega
              have hi348 : 0 ≤ 7 := by omega
              refine w_iast gz_189_121 is_169 rd_68 (by omega) (by omega) (by omega) (by omega) (fun h349 fh349 => ?_)
              have gh349 : my_fr [(10, 7), (10, 8), (67, -1), (68, -1), (69, -1)] h h349 := my_fr.up gh329 is_169 fh349 rfl
              have Mq_h349 : Mq h349 wv := Mq_u (a := 169) hwv (by decide) (by omega) fh349 Mq_h329
              have P6_h349 : h349 167 6 = h 167 6 := P6_ag (my_ag.up fh349 is_169 rfl) P6_h329
              have Tok_h349 : Tok h349 := Tok_ag (my_ag.up fh349 is_169 rfl) Tok_h329t346
              have k169 := my_up_self fh349
              have ce350 : h349 151 7 = h329 151 7 := ((my_up_role fh349 is_151 is_169 rfl).trans (rfl : h329 151 7 = h329 151 7))
              have ce351 : h349 151 27 = v341 := ((my_up_role fh349 is_151 is_169 rfl).trans ev341.symm)
              have a168 : ∀ j : Int, h349 168 j = h2 168 j := fun j => ((my_up_role fh349 is_168 is_169 rfl).trans ((my_fr.at frh329 is_168 rfl).trans ((my_up_role fh326 is_168 is_170 rfl).trans ((my_fr.at frh288 is_168 rfl).trans (rfl : h2 168 j = h2 168 j)))))
              have a170 : ∀ j : Int, h349 170 j = h326 170 j := fun j => ((my_up_role fh349 is_170 is_169 rfl).trans ((my_fr.at frh329 is_170 rfl).trans (rfl : h326 170 j = h326 170 j)))
              have a169 : ∀ j : Int, h349 169 j = h349 169 j := fun _ => rfl
              have a157 : ∀ j : Int, h349 157 j = h 157 j := fun j => ((my_up_role fh349 is_157 is_169 rfl).trans ((my_fr.at frh329 is_157 rfl).trans ((my_up_role fh326 is_157 is_170 rfl).trans ((my_fr.at frh288 is_157 rfl).trans ((my_up_role fh2 is_157 is_168 rfl).trans (rfl : h 157 j = h 157 j))))))
              have c352 := ((my_up_role fh349 is_151 is_169 rfl).trans (rfl : h329 151 8 = h329 151 8))
              exact w_vret gz_189_122 gm_189 (k0 h349 (gh349) (by omega) (by omega) (by first | omega | (exfalso; subst_vars; omega) | (exfalso; (try clear k0); (try clear k1); grind) | omega | (refine ⟨fun q => ?_, fun q => ?_⟩ <;> first | (rw [a168, k168] at q; omega) | (have kz := k170.trans (show _ = vz by omega); rw [a170, kz, a157]; omega)) | (refine ⟨fun q => ?_, fun q => ?_, fun q => ?_⟩ <;> first | (exfalso; rw [a168, k168] at q; omega) | (rw [a169, k169]; omega)) | omega) Tok_h349 Mq_h349)
            ·
              have gh334 : my_fr [(10, 7), (10, 8), (67, -1), (68, -1), (69, -1)] h h334 := my_fr.tr gh326 (frh334.mo rfl)
              have Mq_h334 : Mq h334 wv := Mq_ag (my_ag.fr frh334 rfl) Mq_h326
              have P6_h334 : h334 167 6 = h 167 6 := P6_ag (my_ag.fr frh334 rfl) P6_h326
              show wp l rho (d + 3) 189 106 [(2, 151), (0, x1), (0, v237)] [] h334 Q
              refine w_aload_n gz_189_106 rfl ?_
              refine w_getX (v := 169) gz_189_107 is_151 rd_10 rfl (by decide) rfl ?_
              refine w_iload_n gz_189_110 rfl ?_
              refine w_aload_n gz_189_111 rfl ?_
              refine w_aload_n gz_189_112 rfl ?_
              refine v_getI (j := 27) gz_189_113 rfl is_151 rd_10 rfl (fun v354 ev354 pv354 qv354 => ?_)
              have zv354 := ev354.trans ((my_fr.at frh334 is_151 rfl).trans ((my_up_role fh326 is_151 is_170 rfl).trans ((my_fr.at frh288 is_151 rfl).trans ev278.symm)))
              refine w_iconst gz_189_116 (by decide) ?_
              refine w_isub gz_189_117 ⟨by omega, by omega⟩ ?_
              have ce355 : h334 151 7 = (h334 151 7) := (rfl : h334 151 7 = h334 151 7)
              have ce356 : h334 151 27 = v354 := ev354.symm
              refine w_inv (k := 0) (as := [(0, (v354 - 1))]) (r := [(0, x1), (2, 169)]) (x := 151) (ls0 := [(2, 151), (0, (v354 - 1))]) gz_189_118 gm_187 rfl is_151 rd_10 rfl rfl rfl rfl rfl (c_Model_takeNumber2_f0 (d := (d + 1)) (x1 := (v354 - 1)) (by omega) (by omega) (w337.trans (by omega)) Tok_h334t339 (fun h357 frh357 w358 w359 xp360 Tok_h357t361 => ?_) (fun h362 v363 frh362 w364 w365 w366 w367 w368 xp369 xp370 xp371 xp372 xp373 Tok_h362t374 => ?_))
              ·
                have gh357 : my_fr [(10, 7), (10, 8), (67, -1), (68, -1), (69, -1)] h h357 := my_fr.tr gh334 (frh357.mo rfl)
                have Mq_h357 : Mq h357 wv := Mq_ag (my_ag.fr frh357 rfl) Mq_h334
                have P6_h357 : h357 167 6 = h 167 6 := P6_ag (my_ag.fr frh357 rfl) P6_h334
                show wp l rho (d + 3) 189 121 [(2, 151), (0, x1), (0, v237)] [(0, 0), (0, x1), (2, 169)] h357 Q
                have hi375 : 0 ≤ 0 := by omega
                have hi376 : 0 ≤ 7 := by omega
                refine w_iast gz_189_121 is_169 rd_68 (by omega) (by omega) (by omega) (by omega) (fun h377 fh377 => ?_)
                have gh377 : my_fr [(10, 7), (10, 8), (67, -1), (68, -1), (69, -1)] h h377 := my_fr.up gh357 is_169 fh377 rfl
                have Mq_h377 : Mq h377 wv := Mq_u (a := 169) hwv (by decide) (by omega) fh377 Mq_h357
                have P6_h377 : h377 167 6 = h 167 6 := P6_ag (my_ag.up fh377 is_169 rfl) P6_h357
                have Tok_h377 : Tok h377 := Tok_ag (my_ag.up fh377 is_169 rfl) Tok_h357t361
                have k169 := my_up_self fh377
                have ce378 : h377 151 7 = h357 151 7 := ((my_up_role fh377 is_151 is_169 rfl).trans (rfl : h357 151 7 = h357 151 7))
                have ce379 : h377 151 27 = v354 := ((my_up_role fh377 is_151 is_169 rfl).trans ((my_fr.at frh357 is_151 rfl).trans ev354.symm))
                have a168 : ∀ j : Int, h377 168 j = h2 168 j := fun j => ((my_up_role fh377 is_168 is_169 rfl).trans ((my_fr.at frh357 is_168 rfl).trans ((my_fr.at frh334 is_168 rfl).trans ((my_up_role fh326 is_168 is_170 rfl).trans ((my_fr.at frh288 is_168 rfl).trans (rfl : h2 168 j = h2 168 j))))))
                have a170 : ∀ j : Int, h377 170 j = h326 170 j := fun j => ((my_up_role fh377 is_170 is_169 rfl).trans ((my_fr.at frh357 is_170 rfl).trans ((my_fr.at frh334 is_170 rfl).trans (rfl : h326 170 j = h326 170 j))))
                have a169 : ∀ j : Int, h377 169 j = h377 169 j := fun _ => rfl
                have a157 : ∀ j : Int, h377 157 j = h 157 j := fun j => ((my_up_role fh377 is_157 is_169 rfl).trans ((my_fr.at frh357 is_157 rfl).trans ((my_fr.at frh334 is_157 rfl).trans ((my_up_role fh326 is_157 is_170 rfl).trans ((my_fr.at frh288 is_157 rfl).trans ((my_up_role fh2 is_157 is_168 rfl).trans (rfl : h 157 j = h 157 j)))))))
                have c380 := ((my_up_role fh377 is_151 is_169 rfl).trans (rfl : h357 151 8 = h357 151 8))
                exact w_vret gz_189_122 gm_189 (k0 h377 (gh377) (by omega) (by omega) (by first | omega | (exfalso; subst_vars; omega) | (exfalso; (try clear k0); (try clear k1); grind) | omega | (refine ⟨fun q => ?_, fun q => ?_⟩ <;> first | (rw [a168, k168] at q; omega) | (have kz := k170.trans (show _ = vz by omega); rw [a170, kz, a157]; omega)) | (refine ⟨fun q => ?_, fun q => ?_, fun q => ?_⟩ <;> first | (exfalso; rw [a168, k168] at q; omega) | (rw [a169, k169]; omega)) | omega) Tok_h377 Mq_h377)
              ·
                have gh362 : my_fr [(10, 7), (10, 8), (67, -1), (68, -1), (69, -1)] h h362 := my_fr.tr gh334 (frh362.mo rfl)
                have Mq_h362 : Mq h362 wv := Mq_ag (my_ag.fr frh362 rfl) Mq_h334
                have P6_h362 : h362 167 6 = h 167 6 := P6_ag (my_ag.fr frh362 rfl) P6_h334
                show wp l rho (d + 3) 189 121 [(2, 151), (0, x1), (0, v237)] [(0, v363), (0, x1), (2, 169)] h362 Q
                have hi381 : 0 ≤ v363 := by omega
                have hi382 : v363 ≤ 7 := by omega
                refine w_iast gz_189_121 is_169 rd_68 (by omega) (by omega) (by omega) (by omega) (fun h383 fh383 => ?_)
                have gh383 : my_fr [(10, 7), (10, 8), (67, -1), (68, -1), (69, -1)] h h383 := my_fr.up gh362 is_169 fh383 rfl
                have Mq_h383 : Mq h383 wv := Mq_u (a := 169) hwv (by decide) (by omega) fh383 Mq_h362
                have P6_h383 : h383 167 6 = h 167 6 := P6_ag (my_ag.up fh383 is_169 rfl) P6_h362
                have Tok_h383 : Tok h383 := Tok_ag (my_ag.up fh383 is_169 rfl) Tok_h362t374
                have k169 := my_up_self fh383
                have ce384 : h383 151 7 = (h362 151 7) := ((my_up_role fh383 is_151 is_169 rfl).trans (rfl : h362 151 7 = h362 151 7))
                have ce385 : h383 151 27 = v354 := ((my_up_role fh383 is_151 is_169 rfl).trans ((my_fr.at frh362 is_151 rfl).trans ev354.symm))
                have a168 : ∀ j : Int, h383 168 j = h2 168 j := fun j => ((my_up_role fh383 is_168 is_169 rfl).trans ((my_fr.at frh362 is_168 rfl).trans ((my_fr.at frh334 is_168 rfl).trans ((my_up_role fh326 is_168 is_170 rfl).trans ((my_fr.at frh288 is_168 rfl).trans (rfl : h2 168 j = h2 168 j))))))
                have a170 : ∀ j : Int, h383 170 j = h326 170 j := fun j => ((my_up_role fh383 is_170 is_169 rfl).trans ((my_fr.at frh362 is_170 rfl).trans ((my_fr.at frh334 is_170 rfl).trans (rfl : h326 170 j = h326 170 j))))
                have a169 : ∀ j : Int, h383 169 j = h383 169 j := fun _ => rfl
                have a157 : ∀ j : Int, h383 157 j = h 157 j := fun j => ((my_up_role fh383 is_157 is_169 rfl).trans ((my_fr.at frh362 is_157 rfl).trans ((my_fr.at frh334 is_157 rfl).trans ((my_up_role fh326 is_157 is_170 rfl).trans ((my_fr.at frh288 is_157 rfl).trans ((my_up_role fh2 is_157 is_168 rfl).trans (rfl : h 157 j = h 157 j)))))))
                have c386 := ((my_up_role fh383 is_151 is_169 rfl).trans (rfl : h362 151 7 = h362 151 7))
                have c387 := ((my_up_role fh383 is_151 is_169 rfl).trans w368)
                exact w_vret gz_189_122 gm_189 (k1 h383 (gh383) (by omega) (by omega) (by omega) (by first | omega | (exfalso; subst_vars; omega) | (exfalso; (try clear k0); (try clear k1); grind) | omega | (refine ⟨fun q => ?_, fun q => ?_⟩ <;> first | (rw [a168, k168] at q; omega) | (have kz := k170.trans (show _ = vz by omega); rw [a170, kz, a157]; omega)) | (refine ⟨fun q => ?_, fun q => ?_, fun q => ?_⟩ <;> first | (exfalso; rw [a168, k168] at q; omega) | (rw [a169, k169]; omega)) | omega) (by first | omega | (exfalso; subst_vars; omega) | (exfalso; (try clear k0); (try clear k1); grind) | omega | (refine ⟨fun q => ?_, fun q => ?_⟩ <;> first | (rw [a168, k168] at q; omega) | (have kz := k170.trans (show _ = vz by omega); rw [a170, kz, a157]; omega)) | (refine ⟨fun q => ?_, fun q => ?_, fun q => ?_⟩ <;> first | (exfalso; rw [a168, k168] at q; omega) | (rw [a169, k169]; omega)) | omega) (by first | omega | (exfalso; subst_vars; omega) | (exfalso; (try clear k0); (try clear k1); grind) | omega | (refine ⟨fun q => ?_, fun q => ?_⟩ <;> first | (rw [a168, k168] at q; omega) | (have kz := k170.trans (show _ = vz by omega); rw [a170, kz, a157]; omega)) | (refine ⟨fun q => ?_, fun q => ?_, fun q => ?_⟩ <;> first | (exfalso; rw [a168, k168] at q; omega) | (rw [a169, k169]; omega)) | omega) Tok_h383 Mq_h383)
        ·
          refine w_aload_n gz_189_76 rfl ?_
          refine w_iload_n gz_189_77 rfl ?_
          refine w_ifne (t := 85) gz_189_78 rfl (fun u388 => ?_) (fun u388 => by exfalso; omega)
          refine w_iconst gz_189_85 (by decide) ?_
          have ce389 : h2 151 7 = v232 := ev232.symm
          have ce390 : h2 151 27 = v278 := ev278.symm
          refine w_inv (k := 0) (as := [(0, 5)]) (r := []) (x := 151) (ls0 := [(2, 151), (0, 5)]) gz_189_86 gm_178 rfl is_151 rd_10 rfl rfl rfl rfl rfl ?_
          refine w_aload_n gz_178_0 rfl ?_
          refine v_getI (j := 8) gz_178_1 rfl is_151 rd_10 rfl (fun v391 ev391 pv391 qv391 => ?_)
          have zv391 := ev391.trans ev3.symm
          refine w_ifne (t := 25) gz_178_4 rfl (fun u392 => by exfalso; omega) (fun u392 => ?_)
          refine w_aload_n gz_178_7 rfl ?_
          refine w_iload_n gz_178_8 rfl ?_
          refine w_bipush gz_178_9 (by decide) ?_
          refine w_aload_n gz_178_11 rfl ?_
          refine w_getX (v := 154) gz_178_12 is_151 rd_10 rfl (by decide) rfl ?_
          refine w_aload_n gz_178_15 rfl ?_
          refine v_getI (j := 7) gz_178_16 rfl is_151 rd_10 rfl (fun v394 ev394 pv394 qv394 => ?_)
          have zv394 := ev394.trans ev232.symm
          refine w_iald gz_178_19 is_154 rd_53 (by omega) (by omega) (fun v395 ev395 pv395 qv395 => ?_)
          refine w_imul gz_178_20 ⟨by omega, by omega⟩ ?_
          refine w_iadd gz_178_21 ⟨by omega, by omega⟩ ?_
          refine v_putI (j := 8) gz_178_22 rfl is_151 rd_10 rfl (by omega) (by omega) rfl (fun h396 fh396 => ?_)
          have gh396 : my_fr [(10, 7), (10, 8), (67, -1), (68, -1), (69, -1)] h h396 := my_fr.up gh2 is_151 fh396 rfl
          have Tok_h396 : Tok h396 := Tok_ag (my_ag.up fh396 is_151 rfl) Tok_h2
          have Mq_h396 : Mq h396 wv := Mq_ag (my_ag.up fh396 is_151 rfl) Mq_h2
          have P6_h396 : h396 167 6 = h 167 6 := P6_ag (my_ag.up fh396 is_151 rfl) P6_h2
          refine w_vret gz_178_25 gm_178 ?_
          show wp l rho (d + 3) 189 89 [(2, 151), (0, x1), (0, v237)] [] h396 Q
          refine w_aload_n gz_189_89 rfl ?_
          refine w_getX (v := 170) gz_189_90 is_151 rd_10 rfl (by decide) rfl ?_
          refine w_iload_n gz_189_93 rfl ?_
          refine w_aload_n gz_189_94 rfl ?_
          refine w_iconst gz_189_95 (by decide) ?_
          have ce398 : h396 151 7 = v394 := ((my_up_fld fh396 (by decide)).trans ev394.symm)
          have ce399 : h396 151 27 = v278 := ((my_up_fld fh396 (by decide)).trans ev278.symm)
          refine w_inv (k := 0) (as := [(0, 2)]) (r := [(0, x1), (2, 170)]) (x := 151) (ls0 := [(2, 151), (0, 2)]) gz_189_96 gm_187 rfl is_151 rd_10 rfl rfl rfl rfl rfl (c_Model_takeNumber2_f1 (d := (d + 1)) (x1 := 2) (by omega) (by omega) ((5 + (16 * v395))) ((my_up_self fh396)) (by omega) (by omega) Tok_h396 (fun w400 w401 xp402 Tok_h396t403 => ?_))
          show wp l rho (d + 3) 189 99 [(2, 151), (0, x1), (0, v237)] [(0, 0), (0, x1), (2, 170)] h396 Q
          have hi404 : 0 ≤ 0 := by omega
          have hi405 : 0 ≤ 2 := by omega
          refine w_iast gz_189_99 is_170 rd_69 (by omega) (by omega) (by omega) (by omega) (fun h406 fh406 => ?_)
          have gh406 : my_fr [(10, 7), (10, 8), (67, -1), (68, -1), (69, -1)] h h406 := my_fr.up gh396 is_170 fh406 rfl
          have Tok_h406 : Tok h406 := Tok_ag (my_ag.up fh406 is_170 rfl) Tok_h396t403
          have Mq_h406 : Mq h406 wv := Mq_u (a := 170) hwv (by decide) (by omega) fh406 Mq_h396
          have P6_h406 : h406 167 6 = h 167 6 := P6_ag (my_ag.up fh406 is_170 rfl) P6_h396
          have k170 := my_up_self fh406
          refine w_aload_n gz_189_100 rfl ?_
          refine w_bipush gz_189_101 (by decide) ?_
          have ce407 : h406 151 7 = v394 := ((my_up_role fh406 is_151 is_170 rfl).trans ((my_up_fld fh396 (by decide)).trans ev394.symm))
          have ce408 : h406 151 27 = v278 := ((my_up_role fh406 is_151 is_170 rfl).trans ((my_up_fld fh396 (by decide)).trans ev278.symm))
          refine w_inv (k := 0) (as := [(0, 9)]) (r := []) (x := 151) (ls0 := [(2, 151), (0, 9)]) gz_189_103 gm_175 rfl is_151 rd_10 rfl rfl rfl rfl rfl (c_Model_takeWord_f1 (d := d)  ((5 + (16 * v395))) (((my_up_role fh406 is_151 is_170 rfl).trans (my_up_self fh396))) (by omega) (by omega) Tok_h406 (fun h409 frh409 w410 w411 xp412 Tok_h409t413 => ?_))
          have gh409 : my_fr [(10, 7), (10, 8), (67, -1), (68, -1), (69, -1)] h h409 := my_fr.tr gh406 (frh409.mo rfl)
          have Mq_h409 : Mq h409 wv := Mq_ag (my_ag.fr frh409 rfl) Mq_h406
          have P6_h409 : h409 167 6 = h 167 6 := P6_ag (my_ag.fr frh409 rfl) P6_h406
          show wp l rho (d + 3) 189 106 [(2, 151), (0, x1), (0, v237)] [] h409 Q
          refine w_aload_n gz_189_106 rfl ?_
          refine w_getX (v := 169) gz_189_107 is_151 rd_10 rfl (by decide) rfl ?_
          refine w_iload_n gz_189_110 rfl ?_
          refine w_aload_n gz_189_111 rfl ?_
          refine w_aload_n gz_189_112 rfl ?_
          refine v_getI (j := 27) gz_189_113 rfl is_151 rd_10 rfl (fun v415 ev415 pv415 qv415 => ?_)
          have zv415 := ev415.trans ((my_fr.at frh409 is_151 rfl).trans ((my_up_role fh406 is_151 is_170 rfl).trans ((my_up_fld fh396 (by decide)).trans ev278.symm)))
          refine w_iconst gz_189_116 (by decide) ?_
          refine w_isub gz_189_117 ⟨by omega, by omega⟩ ?_
          have ce416 : h409 151 27 = v415 := ev415.symm
          refine w_inv (k := 0) (as := [(0, (v415 - 1))]) (r := [(0, x1), (2, 169)]) (x := 151) (ls0 := [(2, 151), (0, (v415 - 1))]) gz_189_118 gm_187 rfl is_151 rd_10 rfl rfl rfl rfl rfl (c_Model_takeNumber2_f1 (d := (d + 1)) (x1 := (v415 - 1)) (by omega) (by omega) ((5 + (16 * v395))) (((my_fr.at frh409 is_151 rfl).trans ((my_up_role fh406 is_151 is_170 rfl).trans (my_up_self fh396)))) (by omega) (by omega) Tok_h409t413 (fun w417 w418 xp419 Tok_h409t420 => ?_))
          show wp l rho (d + 3) 189 121 [(2, 151), (0, x1), (0, v237)] [(0, 0), (0, x1), (2, 169)] h409 Q
          have hi421 : 0 ≤ 0 := by omega
          have hi422 : 0 ≤ 7 := by omega
          refine w_iast gz_189_121 is_169 rd_68 (by omega) (by omega) (by omega) (by omega) (fun h423 fh423 => ?_)
          have gh423 : my_fr [(10, 7), (10, 8), (67, -1), (68, -1), (69, -1)] h h423 := my_fr.up gh409 is_169 fh423 rfl
          have Mq_h423 : Mq h423 wv := Mq_u (a := 169) hwv (by decide) (by omega) fh423 Mq_h409
          have P6_h423 : h423 167 6 = h 167 6 := P6_ag (my_ag.up fh423 is_169 rfl) P6_h409
          have Tok_h423 : Tok h423 := Tok_ag (my_ag.up fh423 is_169 rfl) Tok_h409t420
          have k169 := my_up_self fh423
          have ce424 : h423 151 7 = h409 151 7 := ((my_up_role fh423 is_151 is_169 rfl).trans (rfl : h409 151 7 = h409 151 7))
          have ce425 : h423 151 27 = v415 := ((my_up_role fh423 is_151 is_169 rfl).trans ev415.symm)
          have a168 : ∀ j : Int, h423 168 j = h2 168 j := fun j => ((my_up_role fh423 is_168 is_169 rfl).trans ((my_fr.at frh409 is_168 rfl).trans ((my_up_role fh406 is_168 is_170 rfl).trans ((my_up_role fh396 is_168 is_151 rfl).trans (rfl : h2 168 j = h2 168 j)))))
          have a170 : ∀ j : Int, h423 170 j = h406 170 j := fun j => ((my_up_role fh423 is_170 is_169 rfl).trans ((my_fr.at frh409 is_170 rfl).trans (rfl : h406 170 j = h406 170 j)))
          have a169 : ∀ j : Int, h423 169 j = h423 169 j := fun _ => rfl
          have a157 : ∀ j : Int, h423 157 j = h 157 j := fun j => ((my_up_role fh423 is_157 is_169 rfl).trans ((my_fr.at frh409 is_157 rfl).trans ((my_up_role fh406 is_157 is_170 rfl).trans ((my_up_role fh396 is_157 is_151 rfl).trans ((my_up_role fh2 is_157 is_168 rfl).trans (rfl : h 157 j = h 157 j))))))
          have c426 := ((my_up_role fh423 is_151 is_169 rfl).trans ((my_fr.at frh409 is_151 rfl).trans ((my_up_role fh406 is_151 is_170 rfl).trans (my_up_self fh396))))
          exact w_vret gz_189_122 gm_189 (k0 h423 (gh423) (by omega) (by omega) (by first | omega | (exfalso; subst_vars; omega) | (exfalso; (try clear k0); (try clear k1); grind) | omega | (refine ⟨fun q => ?_, fun q => ?_⟩ <;> first | (rw [a168, k168] at q; omega) | (have kz := k170.trans (show _ = vz by omega); rw [a170, kz, a157]; omega)) | (refine ⟨fun q => ?_, fun q => ?_, fun q => ?_⟩ <;> first | (exfalso; rw [a168, k168] at q; omega) | (rw [a169, k169]; omega)) | omega) Tok_h423 Mq_h423)
theorem c_Model_readSum2_f0 {l : Launch} {rho : Nat → Int32} {d : Nat} {h : my_H} {Q : my_H → my_V → Prop} {x1 : Int} {wv : Int} (a1 : 36 ≤ x1) (b1 : x1 ≤ 41) (cf : h 151 8 = 0) (hwv : wv ≤ 5) (hwv0 : 0 ≤ wv) (n_Tok : Tok h) (n_Mq : Mq h wv) (hp : x1 = 36 + h 167 6) (k0 : ∀ (h' : my_H), my_fr [(10, 7), (10, 8), (67, -1), (68, -1), (69, -1)] h h' → 1 ≤ h' 151 8 → h' 151 8 ≤ 16004 → h 151 7 ≤ h' 151 7 → Tok h' → Mq h' wv → Q h' (9, 0)) (k1 : ∀ (h' : my_H), my_fr [(10, 7), (10, 8), (67, -1), (68, -1), (69, -1)] h h' → 1 ≤ h' 151 7 → h' 151 7 ≤ 1001 → h' 151 8 = 0 → PaneOk h' x1 → Pk3 h' x1 (h' 151 27) → h 151 7 ≤ h' 151 7 → Tok h' → Mq h' wv → Q h' (9, 0)) : wp l rho (d + 3) 190 0 [(2, 151), (0, x1)] [] h Q := by
  refine v_know (x := 151) (j := 7) (b := 7) rfl is_151 rd_10 rfl (fun k151_7 ek151_7 pk151_7 qk151_7 => ?_)
  refine v_know (x := 151) (j := 27) (b := 27) rfl is_151 rd_10 rfl (fun k151_27 ek151_27 pk151_27 qk151_27 => ?_)
  refine w_aload_n gz_190_0 rfl ?_
  refine w_getX (v := 168) gz_190_1 is_151 rd_10 rfl (by decide) rfl ?_
  refine w_iload_n gz_190_4 rfl ?_
  refine w_iconst gz_190_5 (by decide) ?_
  refine w_iast gz_190_6 is_168 rd_67 (by omega) (by omega) (by omega) (by omega) (fun h2 fh2 => ?_)
  have gh2 : my_fr [(10, 7), (10, 8), (67, -1), (68, -1), (69, -1)] h h2 := my_fr.up my_fr.rf is_168 fh2 rfl
  have Tok_h2 : Tok h2 := Tok_ag (my_ag.up fh2 is_168 rfl) n_Tok
  have Mq_h2 : Mq h2 wv := Mq_u (a := 168) hwv (by decide) (by omega) fh2 n_Mq
  have P6_h2 : h2 167 6 = h 167 6 := P6_ag (my_ag.up fh2 is_168 rfl) (rfl)
  have k168 : h2 168 x1 = 5 := my_up_self fh2
  refine w_aload_n gz_190_7 rfl ?_
  refine w_getX (v := 170) gz_190_8 is_151 rd_10 rfl (by decide) rfl ?_
  refine w_iload_n gz_190_11 rfl ?_
  refine w_aload_n gz_190_12 rfl ?_
  refine w_aload_n gz_190_13 rfl ?_
  refine v_getI (j := 27) gz_190_14 rfl is_151 rd_10 rfl (fun v4 ev4 pv4 qv4 => ?_)
  have zv4 := ev4.trans ((my_up_role fh2 is_151 is_168 rfl).trans ek151_27.symm)
  refine w_iconst gz_190_17 (by decide) ?_
  refine w_isub gz_190_18 ⟨by omega, by omega⟩ ?_
  have ce5 : h2 151 7 = k151_7 := ((my_up_role fh2 is_151 is_168 rfl).trans ek151_7.symm)
  have ce6 : h2 151 27 = v4 := ev4.symm
  refine w_inv (k := 0) (as := [(0, (v4 - 1))]) (r := [(0, x1), (2, 170)]) (x := 151) (ls0 := [(2, 151), (0, (v4 - 1))]) gz_190_19 gm_187 rfl is_151 rd_10 rfl rfl rfl rfl rfl (c_Model_takeNumber2_f0 (d := (d + 1)) (x1 := (v4 - 1)) (by omega) (by omega) (((my_up_role fh2 is_151 is_168 rfl).trans cf).trans (by omega)) Tok_h2 (fun h7 frh7 w8 w9 xp10 Tok_h7t11 => ?_) (fun h12 v13 frh12 w14 w15 w16 w17 w18 xp19 xp20 xp21 xp22 xp23 Tok_h12t24 => ?_))
  ·
    have gh7 : my_fr [(10, 7), (10, 8), (67, -1), (68, -1), (69, -1)] h h7 := my_fr.tr gh2 (frh7.mo rfl)
    have Mq_h7 : Mq h7 wv := Mq_ag (my_ag.fr frh7 rfl) Mq_h2
    have P6_h7 : h7 167 6 = h 167 6 := P6_ag (my_ag.fr frh7 rfl) P6_h2
    show wp l rho (d + 3) 190 22 [(2, 151), (0, x1)] [(0, 0), (0, x1), (2, 170)] h7 Q
    have hi25 : 0 ≤ 0 := by omega
    have hi26 : 0 ≤ 7 := by omega
    refine w_iast gz_190_22 is_170 rd_69 (by omega) (by omega) (by omega) (by omega) (fun h27 fh27 => ?_)
    have gh27 : my_fr [(10, 7), (10, 8), (67, -1), (68, -1), (69, -1)] h h27 := my_fr.up gh7 is_170 fh27 rfl
    have Mq_h27 : Mq h27 wv := Mq_u (a := 170) hwv (by decide) (by omega) fh27 Mq_h7
    have P6_h27 : h27 167 6 = h 167 6 := P6_ag (my_ag.up fh27 is_170 rfl) P6_h7
    have Tok_h27 : Tok h27 := Tok_ag (my_ag.up fh27 is_170 rfl) Tok_h7t11
    have k170 := my_up_self fh27
    refine w_aload_n gz_190_23 rfl ?_
    refine w_bipush gz_190_24 (by decide) ?_
    have ce28 : h27 151 7 = h7 151 7 := ((my_up_role fh27 is_151 is_170 rfl).trans (rfl : h7 151 7 = h7 151 7))
    have ce29 : h27 151 27 = v4 := ((my_up_role fh27 is_151 is_170 rfl).trans ((my_fr.at frh7 is_151 rfl).trans ev4.symm))
    refine w_inv (k := 0) (as := [(0, 9)]) (r := []) (x := 151) (ls0 := [(2, 151), (0, 9)]) gz_190_26 gm_175 rfl is_151 rd_10 rfl rfl rfl rfl rfl (c_Model_takeWord_f1 (d := d)  ((h7 151 8)) (((my_up_role fh27 is_151 is_170 rfl).trans (rfl : h7 151 8 = h7 151 8))) (by omega) (by omega) Tok_h27 (fun h30 frh30 w31 w32 xp33 Tok_h30t34 => ?_))
    have gh30 : my_fr [(10, 7), (10, 8), (67, -1), (68, -1), (69, -1)] h h30 := my_fr.tr gh27 (frh30.mo rfl)
    have Mq_h30 : Mq h30 wv := Mq_ag (my_ag.fr frh30 rfl) Mq_h27
    have P6_h30 : h30 167 6 = h 167 6 := P6_ag (my_ag.fr frh30 rfl) P6_h27
    show wp l rho (d + 3) 190 29 [(2, 151), (0, x1)] [] h30 Q
    refine w_aload_n gz_190_29 rfl ?_
    refine v_getI (j := 8) gz_190_30 rfl is_151 rd_10 rfl (fun v35 ev35 pv35 qv35 => ?_)
    have zv35 := ev35.trans ((my_fr.at frh30 is_151 rfl).trans ((my_up_role fh27 is_151 is_170 rfl).trans (rfl : h7 151 8 = h7 151 8)))
    refine w_ifne (t := 74) gz_190_33 rfl (fun u36 => ?_) (fun u36 => by exfalso; omega)
    refine w_aload_n gz_190_74 rfl ?_
    refine w_getX (v := 169) gz_190_75 is_151 rd_10 rfl (by decide) rfl ?_
    refine w_iload_n gz_190_78 rfl ?_
    refine w_aload_n gz_190_79 rfl ?_
    refine w_aload_n gz_190_80 rfl ?_
    refine v_getI (j := 27) gz_190_81 rfl is_151 rd_10 rfl (fun v38 ev38 pv38 qv38 => ?_)
    have zv38 := ev38.trans ((my_fr.at frh30 is_151 rfl).trans ((my_up_role fh27 is_151 is_170 rfl).trans ((my_fr.at frh7 is_151 rfl).trans ev4.symm)))
    refine w_iconst gz_190_84 (by decide) ?_
    refine w_isub gz_190_85 ⟨by omega, by omega⟩ ?_
    have ce39 : h30 151 27 = v38 := ev38.symm
    refine w_inv (k := 0) (as := [(0, (v38 - 1))]) (r := [(0, x1), (2, 169)]) (x := 151) (ls0 := [(2, 151), (0, (v38 - 1))]) gz_190_86 gm_187 rfl is_151 rd_10 rfl rfl rfl rfl rfl (c_Model_takeNumber2_f1 (d := (d + 1)) (x1 := (v38 - 1)) (by omega) (by omega) (v35) (ev35.symm) (by omega) (by omega) Tok_h30t34 (fun w40 w41 xp42 Tok_h30t43 => ?_))
    show wp l rho (d + 3) 190 89 [(2, 151), (0, x1)] [(0, 0), (0, x1), (2, 169)] h30 Q
    have hi44 : 0 ≤ 0 := by omega
    have hi45 : 0 ≤ 7 := by omega
    refine w_iast gz_190_89 is_169 rd_68 (by omega) (by omega) (by omega) (by omega) (fun h46 fh46 => ?_)
    have gh46 : my_fr [(10, 7), (10, 8), (67, -1), (68, -1), (69, -1)] h h46 := my_fr.up gh30 is_169 fh46 rfl
    have Mq_h46 : Mq h46 wv := Mq_u (a := 169) hwv (by decide) (by omega) fh46 Mq_h30
    have P6_h46 : h46 167 6 = h 167 6 := P6_ag (my_ag.up fh46 is_169 rfl) P6_h30
    have Tok_h46 : Tok h46 := Tok_ag (my_ag.up fh46 is_169 rfl) Tok_h30t43
    have k169 := my_up_self fh46
    have ce47 : h46 151 7 = h30 151 7 := ((my_up_role fh46 is_151 is_169 rfl).trans (rfl : h30 151 7 = h30 151 7))
    have ce48 : h46 151 27 = v38 := ((my_up_role fh46 is_151 is_169 rfl).trans ev38.symm)
    have a168 : ∀ j : Int, h46 168 j = h2 168 j := fun j => ((my_up_role fh46 is_168 is_169 rfl).trans ((my_fr.at frh30 is_168 rfl).trans ((my_up_role fh27 is_168 is_170 rfl).trans ((my_fr.at frh7 is_168 rfl).trans (rfl : h2 168 j = h2 168 j)))))
    have a170 : ∀ j : Int, h46 170 j = h27 170 j := fun j => ((my_up_role fh46 is_170 is_169 rfl).trans ((my_fr.at frh30 is_170 rfl).trans (rfl : h27 170 j = h27 170 j)))
    have a169 : ∀ j : Int, h46 169 j = h46 169 j := fun _ => rfl
    have c49 := ((my_up_role fh46 is_151 is_169 rfl).trans ev35.symm)
    exact w_vret gz_190_90 gm_190 (k0 h46 (gh46) (by omega) (by omega) (by first | omega | (refine ⟨fun q => ?_, fun q => ?_⟩ <;> first | (rw [a168, k168] at q; omega) | (rw [a170, k170]; omega)) | (refine ⟨fun q => ?_, fun q => ?_, fun q => ?_⟩ <;> first | (exfalso; rw [a168, k168] at q; omega) | (rw [a169, k169]; omega) | (rw [a170, k170]; omega)) | omega) Tok_h46 Mq_h46)
  ·
    have gh12 : my_fr [(10, 7), (10, 8), (67, -1), (68, -1), (69, -1)] h h12 := my_fr.tr gh2 (frh12.mo rfl)
    have Mq_h12 : Mq h12 wv := Mq_ag (my_ag.fr frh12 rfl) Mq_h2
    have P6_h12 : h12 167 6 = h 167 6 := P6_ag (my_ag.fr frh12 rfl) P6_h2
    show wp l rho (d + 3) 190 22 [(2, 151), (0, x1)] [(0, v13), (0, x1), (2, 170)] h12 Q
    have hi50 : 0 ≤ v13 := by omega
    have hi51 : v13 ≤ 7 := by omega
    refine w_iast gz_190_22 is_170 rd_69 (by omega) (by omega) (by omega) (by omega) (fun h52 fh52 => ?_)
    have gh52 : my_fr [(10, 7), (10, 8), (67, -1), (68, -1), (69, -1)] h h52 := my_fr.up gh12 is_170 fh52 rfl
    have Mq_h52 : Mq h52 wv := Mq_u (a := 170) hwv (by decide) (by omega) fh52 Mq_h12
    have P6_h52 : h52 167 6 = h 167 6 := P6_ag (my_ag.up fh52 is_170 rfl) P6_h12
    have Tok_h52 : Tok h52 := Tok_ag (my_ag.up fh52 is_170 rfl) Tok_h12t24
    have k170 := my_up_self fh52
    refine w_aload_n gz_190_23 rfl ?_
    refine w_bipush gz_190_24 (by decide) ?_
    have ce53 : h52 151 7 = (h12 151 7) := ((my_up_role fh52 is_151 is_170 rfl).trans (rfl : h12 151 7 = h12 151 7))
    have ce54 : h52 151 27 = v4 := ((my_up_role fh52 is_151 is_170 rfl).trans ((my_fr.at frh12 is_151 rfl).trans ev4.symm))
    refine w_inv (k := 0) (as := [(0, 9)]) (r := []) (x := 151) (ls0 := [(2, 151), (0, 9)]) gz_190_26 gm_175 rfl is_151 rd_10 rfl rfl rfl rfl rfl (c_Model_takeWord_f0 (d := d) (x1 := 9) (by omega) (by omega) (((my_up_role fh52 is_151 is_170 rfl).trans w18).trans (by omega)) Tok_h52 (fun h55 frh55 w56 w57 xp58 Tok_h55t59 => ?_) (fun h60 frh60 w61 w62 w63 xp64 Tok_h60t65 => ?_))
    ·
      have gh55 : my_fr [(10, 7), (10, 8), (67, -1), (68, -1), (69, -1)] h h55 := my_fr.tr gh52 (frh55.mo rfl)
      have Mq_h55 : Mq h55 wv := Mq_ag (my_ag.fr frh55 rfl) Mq_h52
      have P6_h55 : h55 167 6 = h 167 6 := P6_ag (my_ag.fr frh55 rfl) P6_h52
      show wp l rho (d + 3) 190 29 [(2, 151), (0, x1)] [] h55 Q
      refine w_aload_n gz_190_29 rfl ?_
      refine v_getI (j := 8) gz_190_30 rfl is_151 rd_10 rfl (fun v66 ev66 pv66 qv66 => ?_)
      have zv66 := ev66.trans (rfl : h55 151 8 = h55 151 8)
      refine w_ifne (t := 74) gz_190_33 rfl (fun u67 => ?_) (fun u67 => by exfalso; omega)
      refine w_aload_n gz_190_74 rfl ?_
      refine w_getX (v := 169) gz_190_75 is_151 rd_10 rfl (by decide) rfl ?_
      refine w_iload_n gz_190_78 rfl ?_
      refine w_aload_n gz_190_79 rfl ?_
      refine w_aload_n gz_190_80 rfl ?_
      refine v_getI (j := 27) gz_190_81 rfl is_151 rd_10 rfl (fun v69 ev69 pv69 qv69 => ?_)
      have zv69 := ev69.trans ((my_fr.at frh55 is_151 rfl).trans ((my_up_role fh52 is_151 is_170 rfl).trans ((my_fr.at frh12 is_151 rfl).trans ev4.symm)))
      refine w_iconst gz_190_84 (by decide) ?_
      refine w_isub gz_190_85 ⟨by omega, by omega⟩ ?_
      have ce70 : h55 151 27 = v69 := ev69.symm
      refine w_inv (k := 0) (as := [(0, (v69 - 1))]) (r := [(0, x1), (2, 169)]) (x := 151) (ls0 := [(2, 151), (0, (v69 - 1))]) gz_190_86 gm_187 rfl is_151 rd_10 rfl rfl rfl rfl rfl (c_Model_takeNumber2_f1 (d := (d + 1)) (x1 := (v69 - 1)) (by omega) (by omega) (v66) (ev66.symm) (by omega) (by omega) Tok_h55t59 (fun w71 w72 xp73 Tok_h55t74 => ?_))
      show wp l rho (d + 3) 190 89 [(2, 151), (0, x1)] [(0, 0), (0, x1), (2, 169)] h55 Q
      have hi75 : 0 ≤ 0 := by omega
      have hi76 : 0 ≤ 7 := by omega
      refine w_iast gz_190_89 is_169 rd_68 (by omega) (by omega) (by omega) (by omega) (fun h77 fh77 => ?_)
      have gh77 : my_fr [(10, 7), (10, 8), (67, -1), (68, -1), (69, -1)] h h77 := my_fr.up gh55 is_169 fh77 rfl
      have Mq_h77 : Mq h77 wv := Mq_u (a := 169) hwv (by decide) (by omega) fh77 Mq_h55
      have P6_h77 : h77 167 6 = h 167 6 := P6_ag (my_ag.up fh77 is_169 rfl) P6_h55
      have Tok_h77 : Tok h77 := Tok_ag (my_ag.up fh77 is_169 rfl) Tok_h55t74
      have k169 := my_up_self fh77
      have ce78 : h77 151 7 = h55 151 7 := ((my_up_role fh77 is_151 is_169 rfl).trans (rfl : h55 151 7 = h55 151 7))
      have ce79 : h77 151 27 = v69 := ((my_up_role fh77 is_151 is_169 rfl).trans ev69.symm)
      have a168 : ∀ j : Int, h77 168 j = h2 168 j := fun j => ((my_up_role fh77 is_168 is_169 rfl).trans ((my_fr.at frh55 is_168 rfl).trans ((my_up_role fh52 is_168 is_170 rfl).trans ((my_fr.at frh12 is_168 rfl).trans (rfl : h2 168 j = h2 168 j)))))
      have a170 : ∀ j : Int, h77 170 j = h52 170 j := fun j => ((my_up_role fh77 is_170 is_169 rfl).trans ((my_fr.at frh55 is_170 rfl).trans (rfl : h52 170 j = h52 170 j)))
      have a169 : ∀ j : Int, h77 169 j = h77 169 j := fun _ => rfl
      have c80 := ((my_up_role fh77 is_151 is_169 rfl).trans ev66.symm)
      exact w_vret gz_190_90 gm_190 (k0 h77 (gh77) (by omega) (by omega) (by first | omega | (refine ⟨fun q => ?_, fun q => ?_⟩ <;> first | (rw [a168, k168] at q; omega) | (rw [a170, k170]; omega)) | (refine ⟨fun q => ?_, fun q => ?_, fun q => ?_⟩ <;> first | (exfalso; rw [a168, k168] at q; omega) | (rw [a169, k169]; omega) | (rw [a170, k170]; omega)) | omega) Tok_h77 Mq_h77)
    ·
      have gh60 : my_fr [(10, 7), (10, 8), (67, -1), (68, -1), (69, -1)] h h60 := my_fr.tr gh52 (frh60.mo rfl)
      have Mq_h60 : Mq h60 wv := Mq_ag (my_ag.fr frh60 rfl) Mq_h52
      have P6_h60 : h60 167 6 = h 167 6 := P6_ag (my_ag.fr frh60 rfl) P6_h52
      show wp l rho (d + 3) 190 29 [(2, 151), (0, x1)] [] h60 Q
      refine w_aload_n gz_190_29 rfl ?_
      refine v_getI (j := 8) gz_190_30 rfl is_151 rd_10 rfl (fun v81 ev81 pv81 qv81 => ?_)
      have zv81 := ev81.trans w63
      refine w_ifne (t := 74) gz_190_33 rfl (fun u82 => by exfalso; omega) (fun u82 => ?_)
      refine w_aload_n gz_190_36 rfl ?_
      refine w_getX (v := 153) gz_190_37 is_151 rd_10 rfl (by decide) rfl ?_
      refine w_aload_n gz_190_40 rfl ?_
      refine v_getI (j := 7) gz_190_41 rfl is_151 rd_10 rfl (fun v84 ev84 pv84 qv84 => ?_)
      have zv84 := ev84.trans (rfl : h60 151 7 = h60 151 7)
      refine w_iald gz_190_44 is_153 rd_52 (by omega) (by omega) (fun v85 ev85 pv85 qv85 => ?_)
      refine w_iconst gz_190_45 (by decide) ?_
      refine w_icne (t := 74) gz_190_46 rfl (fun u86 => ?_) (fun u86 => ?_)
      ·
        refine w_aload_n gz_190_74 rfl ?_
        refine w_getX (v := 169) gz_190_75 is_151 rd_10 rfl (by decide) rfl ?_
        refine w_iload_n gz_190_78 rfl ?_
        refine w_aload_n gz_190_79 rfl ?_
        refine w_aload_n gz_190_80 rfl ?_
        refine v_getI (j := 27) gz_190_81 rfl is_151 rd_10 rfl (fun v88 ev88 pv88 qv88 => ?_)
        have zv88 := ev88.trans ((my_fr.at frh60 is_151 rfl).trans ((my_up_role fh52 is_151 is_170 rfl).trans ((my_fr.at frh12 is_151 rfl).trans ev4.symm)))
        refine w_iconst gz_190_84 (by decide) ?_
        refine w_isub gz_190_85 ⟨by omega, by omega⟩ ?_
        have ce89 : h60 151 7 = v84 := ev84.symm
        have ce90 : h60 151 27 = v88 := ev88.symm
        refine w_inv (k := 0) (as := [(0, (v88 - 1))]) (r := [(0, x1), (2, 169)]) (x := 151) (ls0 := [(2, 151), (0, (v88 - 1))]) gz_190_86 gm_187 rfl is_151 rd_10 rfl rfl rfl rfl rfl (c_Model_takeNumber2_f0 (d := (d + 1)) (x1 := (v88 - 1)) (by omega) (by omega) (ev81.symm.trans (by omega)) Tok_h60t65 (fun h91 frh91 w92 w93 xp94 Tok_h91t95 => ?_) (fun h96 v97 frh96 w98 w99 w100 w101 w102 xp103 xp104 xp105 xp106 xp107 Tok_h96t108 => ?_))
        ·
          have gh91 : my_fr [(10, 7), (10, 8), (67, -1), (68, -1), (69, -1)] h h91 := my_fr.tr gh60 (frh91.mo rfl)
          have Mq_h91 : Mq h91 wv := Mq_ag (my_ag.fr frh91 rfl) Mq_h60
          have P6_h91 : h91 167 6 = h 167 6 := P6_ag (my_ag.fr frh91 rfl) P6_h60
          show wp l rho (d + 3) 190 89 [(2, 151), (0, x1)] [(0, 0), (0, x1), (2, 169)] h91 Q
          have hi109 : 0 ≤ 0 := by omega
          have hi110 : 0 ≤ 7 := by omega
          refine w_iast gz_190_89 is_169 rd_68 (by omega) (by omega) (by omega) (by omega) (fun h111 fh111 => ?_)
          have gh111 : my_fr [(10, 7), (10, 8), (67, -1), (68, -1), (69, -1)] h h111 := my_fr.up gh91 is_169 fh111 rfl
          have Mq_h111 : Mq h111 wv := Mq_u (a := 169) hwv (by decide) (by omega) fh111 Mq_h91
          have P6_h111 : h111 167 6 = h 167 6 := P6_ag (my_ag.up fh111 is_169 rfl) P6_h91
          have Tok_h111 : Tok h111 := Tok_ag (my_ag.up fh111 is_169 rfl) Tok_h91t95
          have k169 := my_up_self fh111
          have ce112 : h111 151 7 = h91 151 7 := ((my_up_role fh111 is_151 is_169 rfl).trans (rfl : h91 151 7 = h91 151 7))
          have ce113 : h111 151 27 = v88 := ((my_up_role fh111 is_151 is_169 rfl).trans ((my_fr.at frh91 is_151 rfl).trans ev88.symm))
          have a168 : ∀ j : Int, h111 168 j = h2 168 j := fun j => ((my_up_role fh111 is_168 is_169 rfl).trans ((my_fr.at frh91 is_168 rfl).trans ((my_fr.at frh60 is_168 rfl).trans ((my_up_role fh52 is_168 is_170 rfl).trans ((my_fr.at frh12 is_168 rfl).trans (rfl : h2 168 j = h2 168 j))))))
          have a170 : ∀ j : Int, h111 170 j = h52 170 j := fun j => ((my_up_role fh111 is_170 is_169 rfl).trans ((my_fr.at frh91 is_170 rfl).trans ((my_fr.at frh60 is_170 rfl).trans (rfl : h52 170 j = h52 170 j))))
          have a169 : ∀ j : Int, h111 169 j = h111 169 j := fun _ => rfl
          have c114 := ((my_up_role fh111 is_151 is_169 rfl).trans (rfl : h91 151 8 = h91 151 8))
          exact w_vret gz_190_90 gm_190 (k0 h111 (gh111) (by omega) (by omega) (by first | omega | (refine ⟨fun q => ?_, fun q => ?_⟩ <;> first | (rw [a168, k168] at q; omega) | (rw [a170, k170]; omega)) | (refine ⟨fun q => ?_, fun q => ?_, fun q => ?_⟩ <;> first | (exfalso; rw [a168, k168] at q; omega) | (rw [a169, k169]; omega) | (rw [a170, k170]; omega)) | omega) Tok_h111 Mq_h111)
        ·
          have gh96 : my_fr [(10, 7), (10, 8), (67, -1), (68, -1), (69, -1)] h h96 := my_fr.tr gh60 (frh96.mo rfl)
          have Mq_h96 : Mq h96 wv := Mq_ag (my_ag.fr frh96 rfl) Mq_h60
          have P6_h96 : h96 167 6 = h 167 6 := P6_ag (my_ag.fr frh96 rfl) P6_h60
          show wp l rho (d + 3) 190 89 [(2, 151), (0, x1)] [(0, v97), (0, x1), (2, 169)] h96 Q
          have hi115 : 0 ≤ v97 := by omega
          have hi116 : v97 ≤ 7 := by omega
          refine w_iast gz_190_89 is_169 rd_68 (by omega) (by omega) (by omega) (by omega) (fun h117 fh117 => ?_)
          have gh117 : my_fr [(10, 7), (10, 8), (67, -1), (68, -1), (69, -1)] h h117 := my_fr.up gh96 is_169 fh117 rfl
          have Mq_h117 : Mq h117 wv := Mq_u (a := 169) hwv (by decide) (by omega) fh117 Mq_h96
          have P6_h117 : h117 167 6 = h 167 6 := P6_ag (my_ag.up fh117 is_169 rfl) P6_h96
          have Tok_h117 : Tok h117 := Tok_ag (my_ag.up fh117 is_169 rfl) Tok_h96t108
          have k169 := my_up_self fh117
          have ce118 : h117 151 7 = (h96 151 7) := ((my_up_role fh117 is_151 is_169 rfl).trans (rfl : h96 151 7 = h96 151 7))
          have ce119 : h117 151 27 = v88 := ((my_up_role fh117 is_151 is_169 rfl).trans ((my_fr.at frh96 is_151 rfl).trans ev88.symm))
          have a168 : ∀ j : Int, h117 168 j = h2 168 j := fun j => ((my_up_role fh117 is_168 is_169 rfl).trans ((my_fr.at frh96 is_168 rfl).trans ((my_fr.at frh60 is_168 rfl).trans ((my_up_role fh52 is_168 is_170 rfl).trans ((my_fr.at frh12 is_168 rfl).trans (rfl : h2 168 j = h2 168 j))))))
          have a170 : ∀ j : Int, h117 170 j = h52 170 j := fun j => ((my_up_role fh117 is_170 is_169 rfl).trans ((my_fr.at frh96 is_170 rfl).trans ((my_fr.at frh60 is_170 rfl).trans (rfl : h52 170 j = h52 170 j))))
          have a169 : ∀ j : Int, h117 169 j = h117 169 j := fun _ => rfl
          have c120 := ((my_up_role fh117 is_151 is_169 rfl).trans (rfl : h96 151 7 = h96 151 7))
          have c121 := ((my_up_role fh117 is_151 is_169 rfl).trans w102)
          exact w_vret gz_190_90 gm_190 (k1 h117 (gh117) (by omega) (by omega) (by omega) (by first | omega | (refine ⟨fun q => ?_, fun q => ?_⟩ <;> first | (rw [a168, k168] at q; omega) | (rw [a170, k170]; omega)) | (refine ⟨fun q => ?_, fun q => ?_, fun q => ?_⟩ <;> first | (exfalso; rw [a168, k168] at q; omega) | (rw [a169, k169]; omega) | (rw [a170, k170]; omega)) | omega) (by first | omega | (refine ⟨fun q => ?_, fun q => ?_⟩ <;> first | (rw [a168, k168] at q; omega) | (rw [a170, k170]; omega)) | (refine ⟨fun q => ?_, fun q => ?_, fun q => ?_⟩ <;> first | (exfalso; rw [a168, k168] at q; omega) | (rw [a169, k169]; omega) | (rw [a170, k170]; omega)) | omega) (by first | omega | (refine ⟨fun q => ?_, fun q => ?_⟩ <;> first | (rw [a168, k168] at q; omega) | (rw [a170, k170]; omega)) | (refine ⟨fun q => ?_, fun q => ?_, fun q => ?_⟩ <;> first | (exfalso; rw [a168, k168] at q; omega) | (rw [a169, k169]; omega) | (rw [a170, k170]; omega)) | omega) Tok_h117 Mq_h117)
      ·
        refine w_aload_n gz_190_49 rfl ?_
        refine w_getX (v := 155) gz_190_50 is_151 rd_10 rfl (by decide) rfl ?_
        refine w_aload_n gz_190_53 rfl ?_
        refine v_getI (j := 7) gz_190_54 rfl is_151 rd_10 rfl (fun v123 ev123 pv123 qv123 => ?_)
        have zv123 := ev123.trans ev84.symm
        refine w_lald gz_190_57 is_155 rd_54 (by omega) (by omega) (fun v124 ev124 pv124 => ?_)
        refine w_aload_n gz_190_58 rfl ?_
        refine w_getX (v := 170) gz_190_59 is_151 rd_10 rfl (by decide) rfl ?_
        refine w_iload_n gz_190_62 rfl ?_
        refine w_iald gz_190_63 is_170 rd_69 (by omega) (by omega) (fun v126 ev126 pv126 qv126 => ?_)
        have zv126 := ev126.trans ((my_fr.at frh60 is_170 rfl).trans (my_up_self fh52))
        refine w_i2l gz_190_64 ?_
        refine w_lcmpE gz_190_65 (fun v127 pv127 qv127 xv127 => ?_)
        refine w_ifne (t := 74) gz_190_66 rfl (fun u128 => ?_) (fun u128 => ?_)
        ·
          refine w_aload_n gz_190_74 rfl ?_
          refine w_getX (v := 169) gz_190_75 is_151 rd_10 rfl (by decide) rfl ?_
          refine w_iload_n gz_190_78 rfl ?_
          refine w_aload_n gz_190_79 rfl ?_
          refine w_aload_n gz_190_80 rfl ?_
          refine v_getI (j := 27) gz_190_81 rfl is_151 rd_10 rfl (fun v130 ev130 pv130 qv130 => ?_)
          have zv130 := ev130.trans ((my_fr.at frh60 is_151 rfl).trans ((my_up_role fh52 is_151 is_170 rfl).trans ((my_fr.at frh12 is_151 rfl).trans ev4.symm)))
          refine w_iconst gz_190_84 (by decide) ?_
          refine w_isub gz_190_85 ⟨by omega, by omega⟩ ?_
          have ce131 : h60 151 7 = v123 := ev123.symm
          have ce132 : h60 151 27 = v130 := ev130.symm
          refine w_inv (k := 0) (as := [(0, (v130 - 1))]) (r := [(0, x1), (2, 169)]) (x := 151) (ls0 := [(2, 151), (0, (v130 - 1))]) gz_190_86 gm_187 rfl is_151 rd_10 rfl rfl rfl rfl rfl (c_Model_takeNumber2_f0 (d := (d + 1)) (x1 := (v130 - 1)) (by omega) (by omega) (ev81.symm.trans (by omega)) Tok_h60t65 (fun h133 frh133 w134 w135 xp136 Tok_h133t137 => ?_) (fun h138 v139 frh138 w140 w141 w142 w143 w144 xp145 xp146 xp147 xp148 xp149 Tok_h138t150 => ?_))
          ·
            have gh133 : my_fr [(10, 7), (10, 8), (67, -1), (68, -1), (69, -1)] h h133 := my_fr.tr gh60 (frh133.mo rfl)
            have Mq_h133 : Mq h133 wv := Mq_ag (my_ag.fr frh133 rfl) Mq_h60
            have P6_h133 : h133 167 6 = h 167 6 := P6_ag (my_ag.fr frh133 rfl) P6_h60
            show wp l rho (d + 3) 190 89 [(2, 151), (0, x1)] [(0, 0), (0, x1), (2, 169)] h133 Q
            have hi151 : 0 ≤ 0 := by omega
            have hi152 : 0 ≤ 7 := by omega
            refine w_iast gz_190_89 is_169 rd_68 (by omega) (by omega) (by omega) (by omega) (fun h153 fh153 => ?_)
            have gh153 : my_fr [(10, 7), (10, 8), (67, -1), (68, -1), (69, -1)] h h153 := my_fr.up gh133 is_169 fh153 rfl
            have Mq_h153 : Mq h153 wv := Mq_u (a := 169) hwv (by decide) (by omega) fh153 Mq_h133
            have P6_h153 : h153 167 6 = h 167 6 := P6_ag (my_ag.up fh153 is_169 rfl) P6_h133
            have Tok_h153 : Tok h153 := Tok_ag (my_ag.up fh153 is_169 rfl) Tok_h133t137
            have k169 := my_up_self fh153
            have ce154 : h153 151 7 = h133 151 7 := ((my_up_role fh153 is_151 is_169 rfl).trans (rfl : h133 151 7 = h133 151 7))
            have ce155 : h153 151 27 = v130 := ((my_up_role fh153 is_151 is_169 rfl).trans ((my_fr.at frh133 is_151 rfl).trans ev130.symm))
            have a168 : ∀ j : Int, h153 168 j = h2 168 j := fun j => ((my_up_role fh153 is_168 is_169 rfl).trans ((my_fr.at frh133 is_168 rfl).trans ((my_fr.at frh60 is_168 rfl).trans ((my_up_role fh52 is_168 is_170 rfl).trans ((my_fr.at frh12 is_168 rfl).trans (rfl : h2 168 j = h2 168 j))))))
            have a170 : ∀ j : Int, h153 170 j = h52 170 j := fun j => ((my_up_role fh153 is_170 is_169 rfl).trans ((my_fr.at frh133 is_170 rfl).trans ((my_fr.at frh60 is_170 rfl).trans (rfl : h52 170 j = h52 170 j))))
            have a169 : ∀ j : Int, h153 169 j = h153 169 j := fun _ => rfl
            have c156 := ((my_up_role fh153 is_151 is_169 rfl).trans (rfl : h133 151 8 = h133 151 8))
            exact w_vret gz_190_90 gm_190 (k0 h153 (gh153) (by omega) (by omega) (by first | omega | (refine ⟨fun q => ?_, fun q => ?_⟩ <;> first | (rw [a168, k168] at q; omega) | (rw [a170, k170]; omega)) | (refine ⟨fun q => ?_, fun q => ?_, fun q => ?_⟩ <;> first | (exfalso; rw [a168, k168] at q; omega) | (rw [a169, k169]; omega) | (rw [a170, k170]; omega)) | omega) Tok_h153 Mq_h153)
          ·
            have gh138 : my_fr [(10, 7), (10, 8), (67, -1), (68, -1), (69, -1)] h h138 := my_fr.tr gh60 (frh138.mo rfl)
            have Mq_h138 : Mq h138 wv := Mq_ag (my_ag.fr frh138 rfl) Mq_h60
            have P6_h138 : h138 167 6 = h 167 6 := P6_ag (my_ag.fr frh138 rfl) P6_h60
            show wp l rho (d + 3) 190 89 [(2, 151), (0, x1)] [(0, v139), (0, x1), (2, 169)] h138 Q
            have hi157 : 0 ≤ v139 := by omega
            have hi158 : v139 ≤ 7 := by omega
            refine w_iast gz_190_89 is_169 rd_68 (by omega) (by omega) (by omega) (by omega) (fun h159 fh159 => ?_)
            have gh159 : my_fr [(10, 7), (10, 8), (67, -1), (68, -1), (69, -1)] h h159 := my_fr.up gh138 is_169 fh159 rfl
            have Mq_h159 : Mq h159 wv := Mq_u (a := 169) hwv (by decide) (by omega) fh159 Mq_h138
            have P6_h159 : h159 167 6 = h 167 6 := P6_ag (my_ag.up fh159 is_169 rfl) P6_h138
            have Tok_h159 : Tok h159 := Tok_ag (my_ag.up fh159 is_169 rfl) Tok_h138t150
            have k169 := my_up_self fh159
            have ce160 : h159 151 7 = (h138 151 7) := ((my_up_role fh159 is_151 is_169 rfl).trans (rfl : h138 151 7 = h138 151 7))
            have ce161 : h159 151 27 = v130 := ((my_up_role fh159 is_151 is_169 rfl).trans ((my_fr.at frh138 is_151 rfl).trans ev130.symm))
            have a168 : ∀ j : Int, h159 168 j = h2 168 j := fun j => ((my_up_role fh159 is_168 is_169 rfl).trans ((my_fr.at frh138 is_168 rfl).trans ((my_fr.at frh60 is_168 rfl).trans ((my_up_role fh52 is_168 is_170 rfl).trans ((my_fr.at frh12 is_168 rfl).trans (rfl : h2 168 j = h2 168 j))))))
            have a170 : ∀ j : Int, h159 170 j = h52 170 j := fun j => ((my_up_role fh159 is_170 is_169 rfl).trans ((my_fr.at frh138 is_170 rfl).trans ((my_fr.at frh60 is_170 rfl).trans (rfl : h52 170 j = h52 170 j))))
            have a169 : ∀ j : Int, h159 169 j = h159 169 j := fun _ => rfl
            have c162 := ((my_up_role fh159 is_151 is_169 rfl).trans (rfl : h138 151 7 = h138 151 7))
            have c163 := ((my_up_role fh159 is_151 is_169 rfl).trans w144)
            exact w_vret gz_190_90 gm_190 (k1 h159 (gh159) (by omega) (by omega) (by omega) (by first | omega | (refine ⟨fun q => ?_, fun q => ?_⟩ <;> first | (rw [a168, k168] at q; omega) | (rw [a170, k170]; omega)) | (refine ⟨fun q => ?_, fun q => ?_, fun q => ?_⟩ <;> first | (exfalso; rw [a168, k168] at q; omega) | (rw [a169, k169]; omega) | (rw [a170, k170]; omega)) | omega) (by first | omega | (refine ⟨fun q => ?_, fun q => ?_⟩ <;> first | (rw [a168, k168] at q; omega) | (rw [a170, k170]; omega)) | (refine ⟨fun q => ?_, fun q => ?_, fun q => ?_⟩ <;> first | (exfalso; rw [a168, k168] at q; omega) | (rw [a169, k169]; omega) | (rw [a170, k170]; omega)) | omega) (by first | omega | (refine ⟨fun q => ?_, fun q => ?_⟩ <;> first | (rw [a168, k168] at q; omega) | (rw [a170, k170]; omega)) | (refine ⟨fun q => ?_, fun q => ?_, fun q => ?_⟩ <;> first | (exfalso; rw [a168, k168] at q; omega) | (rw [a169, k169]; omega) | (rw [a170, k170]; omega)) | omega) Tok_h159 Mq_h159)
        ·
          refine w_aload_n gz_190_69 rfl ?_
          refine w_iconst gz_190_70 (by decide) ?_
          have ce164 : h60 151 7 = v123 := ev123.symm
          have ce165 : h60 151 27 = v4 := ((my_fr.at frh60 is_151 rfl).trans ((my_up_role fh52 is_151 is_170 rfl).trans ((my_fr.at frh12 is_151 rfl).trans ev4.symm)))
          refine w_inv (k := 0) (as := [(0, 3)]) (r := []) (x := 151) (ls0 := [(2, 151), (0, 3)]) gz_190_71 gm_178 rfl is_151 rd_10 rfl rfl rfl rfl rfl ?_
          refine w_aload_n gz_178_0 rfl ?_
          refine v_getI (j := 8) gz_178_1 rfl is_151 rd_10 rfl (fun v166 ev166 pv166 qv166 => ?_)
          have zv166 := ev166.trans ev81.symm
          refine w_ifne (t := 25) gz_178_4 rfl (fun u167 => by exfalso; omega) (fun u167 => ?_)
          refine w_aload_n gz_178_7 rfl ?_
          refine w_iload_n gz_178_8 rfl ?_
          refine w_bipush gz_178_9 (by decide) ?_
          refine w_aload_n gz_178_11 rfl ?_
          refine w_getX (v := 154) gz_178_12 is_151 rd_10 rfl (by decide) rfl ?_
          refine w_aload_n gz_178_15 rfl ?_
          refine v_getI (j := 7) gz_178_16 rfl is_151 rd_10 rfl (fun v169 ev169 pv169 qv169 => ?_)
          have zv169 := ev169.trans ev123.symm
          refine w_iald gz_178_19 is_154 rd_53 (by omega) (by omega) (fun v170 ev170 pv170 qv170 => ?_)
          refine w_imul gz_178_20 ⟨by omega, by omega⟩ ?_
          refine w_iadd gz_178_21 ⟨by omega, by omega⟩ ?_
          refine v_putI (j := 8) gz_178_22 rfl is_151 rd_10 rfl (by omega) (by omega) rfl (fun h171 fh171 => ?_)
          have gh171 : my_fr [(10, 7), (10, 8), (67, -1), (68, -1), (69, -1)] h h171 := my_fr.up gh60 is_151 fh171 rfl
          have Mq_h171 : Mq h171 wv := Mq_ag (my_ag.up fh171 is_151 rfl) Mq_h60
          have P6_h171 : h171 167 6 = h 167 6 := P6_ag (my_ag.up fh171 is_151 rfl) P6_h60
          have Tok_h171 : Tok h171 := Tok_ag (my_ag.up fh171 is_151 rfl) Tok_h60t65
          refine w_vret gz_178_25 gm_178 ?_
          show wp l rho (d + 3) 190 74 [(2, 151), (0, x1)] [] h171 Q
          refine w_aload_n gz_190_74 rfl ?_
          refine w_getX (v := 169) gz_190_75 is_151 rd_10 rfl (by decide) rfl ?_
          refine w_iload_n gz_190_78 rfl ?_
          refine w_aload_n gz_190_79 rfl ?_
          refine w_aload_n gz_190_80 rfl ?_
          refine v_getI (j := 27) gz_190_81 rfl is_151 rd_10 rfl (fun v173 ev173 pv173 qv173 => ?_)
          have zv173 := ev173.trans ((my_up_fld fh171 (by decide)).trans ((my_fr.at frh60 is_151 rfl).trans ((my_up_role fh52 is_151 is_170 rfl).trans ((my_fr.at frh12 is_151 rfl).trans ev4.symm))))
          refine w_iconst gz_190_84 (by decide) ?_
          refine w_isub gz_190_85 ⟨by omega, by omega⟩ ?_
          have ce174 : h171 151 7 = v169 := ((my_up_fld fh171 (by decide)).trans ev169.symm)
          have ce175 : h171 151 27 = v173 := ev173.symm
          refine w_inv (k := 0) (as := [(0, (v173 - 1))]) (r := [(0, x1), (2, 169)]) (x := 151) (ls0 := [(2, 151), (0, (v173 - 1))]) gz_190_86 gm_187 rfl is_151 rd_10 rfl rfl rfl rfl rfl (c_Model_takeNumber2_f1 (d := (d + 1)) (x1 := (v173 - 1)) (by omega) (by omega) ((3 + (16 * v170))) ((my_up_self fh171)) (by omega) (by omega) Tok_h171 (fun w176 w177 xp178 Tok_h171t179 => ?_))
          show wp l rho (d + 3) 190 89 [(2, 151), (0, x1)] [(0, 0), (0, x1), (2, 169)] h171 Q
          have hi180 : 0 ≤ 0 := by omega
          have hi181 : 0 ≤ 7 := by omega
          refine w_iast gz_190_89 is_169 rd_68 (by omega) (by omega) (by omega) (by omega) (fun h182 fh182 => ?_)
          have gh182 : my_fr [(10, 7), (10, 8), (67, -1), (68, -1), (69, -1)] h h182 := my_fr.up gh171 is_169 fh182 rfl
          have Mq_h182 : Mq h182 wv := Mq_u (a := 169) hwv (by decide) (by omega) fh182 Mq_h171
          have P6_h182 : h182 167 6 = h 167 6 := P6_ag (my_ag.up fh182 is_169 rfl) P6_h171
          have Tok_h182 : Tok h182 := Tok_ag (my_ag.up fh182 is_169 rfl) Tok_h171t179
          have k169 := my_up_self fh182
          have ce183 : h182 151 7 = v169 := ((my_up_role fh182 is_151 is_169 rfl).trans ((my_up_fld fh171 (by decide)).trans ev169.symm))
          have ce184 : h182 151 27 = v173 := ((my_up_role fh182 is_151 is_169 rfl).trans ev173.symm)
          have a168 : ∀ j : Int, h182 168 j = h2 168 j := fun j => ((my_up_role fh182 is_168 is_169 rfl).trans ((my_up_role fh171 is_168 is_151 rfl).trans ((my_fr.at frh60 is_168 rfl).trans ((my_up_role fh52 is_168 is_170 rfl).trans ((my_fr.at frh12 is_168 rfl).trans (rfl : h2 168 j = h2 168 j))))))
          have a170 : ∀ j : Int, h182 170 j = h52 170 j := fun j => ((my_up_role fh182 is_170 is_169 rfl).trans ((my_up_role fh171 is_170 is_151 rfl).trans ((my_fr.at frh60 is_170 rfl).trans (rfl : h52 170 j = h52 170 j))))
          have a169 : ∀ j : Int, h182 169 j = h182 169 j := fun _ => rfl
          have c185 := ((my_up_role fh182 is_151 is_169 rfl).trans (my_up_self fh171))
          exact w_vret gz_190_90 gm_190 (k0 h182 (gh182) (by omega) (by omega) (by first | omega | (refine ⟨fun q => ?_, fun q => ?_⟩ <;> first | (rw [a168, k168] at q; omega) | (rw [a170, k170]; omega)) | (refine ⟨fun q => ?_, fun q => ?_, fun q => ?_⟩ <;> first | (exfalso; rw [a168, k168] at q; omega) | (rw [a169, k169]; omega) | (rw [a170, k170]; omega)) | omega) Tok_h182 Mq_h182)
end MYNModel_beginsColumns3_f0
