/-! contracts, printed by wip/gen/gy.py -/
section MYNReader_nextToken9_f0
theorem c_Reader_nextToken9_f0 {l : Launch} {rho : Nat → Int32} {d : Nat} {h : my_H} {Q : my_H → my_V → Prop} (cf : h 82 9 = 0) (n_Al : Al h) (k0 : ∀ (h' : my_H), my_fr [(5, 5), (5, 6), (5, 7), (5, 8)] h h' → 0 ≤ h' 82 6 → h' 82 6 ≤ 4 → h' 82 9 = 0 → tk_T (h 92) (h 82 4) (h 82 5) (h' 82 7) (h' 82 5) (h' 82 6) (h' 82 8) → Al h' → Q h' (9, 0)) : wp l rho (d + 1) 37 0 [(2, 82), (9, 0), (9, 0)] [] h Q := by
  refine v_know (x := 82) (j := 4) (b := 4) rfl is_82 rd_5 rfl (fun k82_4 ek82_4 pk82_4 qk82_4 => ?_)
  refine v_know (x := 82) (j := 5) (b := 5) rfl is_82 rd_5 rfl (fun k82_5 ek82_5 pk82_5 qk82_5 => ?_)
  have al0 : h 82 5 ≤ h 82 4 := n_Al
  have J181_0 : ∀ (n : Nat) (p181_0 p181_1 p181_2 p181_3 p181_4 p181_5 : Int) (h181_0 : my_H), my_fr [(5, 5), (5, 6), (5, 7), (5, 8)] h h181_0 → 1 ≤ p181_0 → p181_0 ≤ 8 → 1 ≤ p181_1 → p181_1 ≤ 1000 → 1 ≤ k82_4 → 0 ≤ p181_4 → p181_4 ≤ 999 → 1 ≤ p181_3 → p181_3 ≤ 4 → 0 ≤ p181_5 → p181_5 ≤ 999 → 0 ≤ p181_2 → p181_2 ≤ 1000 → k82_5 ≤ 999 → p181_4 ≤ (p181_1 - 1) → p181_4 ≤ p181_2 → p181_2 ≤ p181_1 → k82_5 ≤ (p181_1 - 1) → k82_5 ≤ p181_4 → k82_5 ≤ p181_2 → h181_0 82 4 = k82_4 → h181_0 82 5 = p181_2 → h181_0 82 6 = p181_3 → h181_0 82 7 = p181_4 → h181_0 82 8 = p181_5 → h181_0 82 9 = 0 → (h181_0 82 6 = 2 → p181_0 = 3) → (h181_0 82 6 = 2 → ∀ k : Int, h181_0 82 7 ≤ k → k < p181_1 → 48 ≤ h181_0 92 k ∧ h181_0 92 k ≤ 57) → h181_0 82 7 ≤ h181_0 82 5 → ((h181_0 82 5 = h181_0 82 7 → h181_0 82 8 = 0) ∧ (h181_0 82 5 = h181_0 82 7 + 1 → h181_0 82 8 ≤ 9) ∧ (h181_0 82 5 = h181_0 82 7 + 2 → h181_0 82 8 ≤ 99) ∧ 0 ≤ h181_0 82 8) → tk_A (h 92) (h 82 5) (h181_0 82 7) p181_1 (h181_0 82 6) → tk_N (h 92) k82_4 (h181_0 82 7) p181_1 (h181_0 82 6) → ((h181_0 82 6 = 1 → p181_0 = 8) ∧ (h181_0 82 6 = 2 → p181_0 = 3) ∧ (3 ≤ h181_0 82 6 → p181_0 = 1)) → tk_D (h 92) (h181_0 82 7) (h181_0 82 5) (h181_0 82 6) (h181_0 82 8) → p181_1 ≤ k82_4 → 1001 - h181_0 82 5 ≤ (n : Int) → wp l rho (d + 1) 37 181 [(2, 82), (0, p181_0), (0, p181_1)] [] h181_0 Q := by
    intro n
    induction n with
    | zero => intro p181_0 p181_1 p181_2 p181_3 p181_4 p181_5 h181_0 gh_181_0 q0_181_0 q1_181_0 q2_181_0 q3_181_0 q4_181_0 q5_181_0 q6_181_0 q7_181_0 q8_181_0 q9_181_0 q10_181_0 q11_181_0 q12_181_0 q13_181_0 q14_181_0 q15_181_0 q16_181_0 q17_181_0 q18_181_0 q19_181_0 c82_4_181_0 c82_5_181_0 c82_6_181_0 c82_7_181_0 c82_8_181_0 c82_9_181_0 tk_181_0 dg_181_0 se_181_0 nb_181_0 A_181_0 E_181_0 mo_181_0 D_181_0 lq_181_0 hm_181_0; exfalso; omega
    | succ n ih_181_0 =>
      intro p181_0 p181_1 p181_2 p181_3 p181_4 p181_5 h181_0 gh_181_0 q0_181_0 q1_181_0 q2_181_0 q3_181_0 q4_181_0 q5_181_0 q6_181_0 q7_181_0 q8_181_0 q9_181_0 q10_181_0 q11_181_0 q12_181_0 q13_181_0 q14_181_0 q15_181_0 q16_181_0 q17_181_0 q18_181_0 q19_181_0 c82_4_181_0 c82_5_181_0 c82_6_181_0 c82_7_181_0 c82_8_181_0 c82_9_181_0 tk_181_0 dg_181_0 se_181_0 nb_181_0 A_181_0 E_181_0 mo_181_0 D_181_0 lq_181_0 hm_181_0
      refine w_aload_n gz_37_181 rfl ?_
      refine v_getI (j := 5) gz_37_182 rfl is_82 rd_5 rfl (fun v1 ev1 pv1 qv1 => ?_)
      have zv1 := ev1.trans c82_5_181_0
      refine w_iload_n gz_37_185 rfl ?_
      refine w_icge (t := 247) gz_37_186 rfl (fun u2 => ?_) (fun u2 => ?_)
      ·
        have e2r := E_181_0.2
        refine w_iload_n gz_37_247 rfl ?_
        refine w_aload_n gz_37_248 rfl ?_
        refine v_getI (j := 7) gz_37_249 rfl is_82 rd_5 rfl (fun v3 ev3 pv3 qv3 => ?_)
        have zv3 := ev3.trans c82_7_181_0
        refine w_isub gz_37_252 ⟨by omega, by omega⟩ ?_
        refine w_iload_n gz_37_253 rfl ?_
        refine w_icle (t := 262) gz_37_254 rfl (fun u4 => ?_) (fun u4 => ?_)
        ·
          have ce5 : h181_0 82 4 = k82_4 := c82_4_181_0
          have ce6 : h181_0 82 5 = v1 := ev1.symm
          have ce7 : h181_0 82 6 = p181_3 := c82_6_181_0
          have ce8 : h181_0 82 7 = v3 := ev3.symm
          have ce9 : h181_0 82 8 = p181_5 := c82_8_181_0
          have Al_h181_0t10 : Al h181_0 := by unfold Al; omega
          have c11 := c82_6_181_0
          have c12 := c82_9_181_0
          exact w_vret gz_37_262 gm_37 (k0 h181_0 (gh_181_0) (by omega) (by omega) (by omega) (by first | exact tk_end b52 (by omega) (by omega) (by omega) (by omega) (by omega) | exact tk_fin A_181_0 E_181_0 D_181_0 (by omega) (by omega) (by omega) (by omega) (by omega) (by omega) (by omega) (by omega) (by omega) | omega) Al_h181_0t10)
        ·
          refine w_aload_n gz_37_257 rfl ?_
          refine w_iconst gz_37_258 (by decide) ?_
          refine v_putI (j := 6) gz_37_259 rfl is_82 rd_5 rfl (by omega) (by omega) rfl (fun h13 fh13 => ?_)
          have gh13 : my_fr [(5, 5), (5, 6), (5, 7), (5, 8)] h h13 := my_fr.up gh_181_0 is_82 fh13 rfl
          have ce14 : h13 82 4 = k82_4 := ((my_up_fld fh13 (by decide)).trans c82_4_181_0)
          have ce15 : h13 82 5 = v1 := ((my_up_fld fh13 (by decide)).trans ev1.symm)
          have ce16 : h13 82 6 = 4 := (my_up_self fh13)
          have ce17 : h13 82 7 = v3 := ((my_up_fld fh13 (by decide)).trans ev3.symm)
          have ce18 : h13 82 8 = p181_5 := ((my_up_fld fh13 (by decide)).trans c82_8_181_0)
          have Al_h13t19 : Al h13 := by unfold Al; omega
          have c20 := (my_up_self fh13)
          have c21 := ((my_up_fld fh13 (by decide)).trans c82_9_181_0)
          exact w_vret gz_37_262 gm_37 (k0 h13 (gh13) (by omega) (by omega) (by omega) (by first | exact tk_end b52 (by omega) (by omega) (by omega) (by omega) (by omega) | exact tk_fin A_181_0 E_181_0 D_181_0 (by omega) (by omega) (by omega) (by omega) (by omega) (by omega) (by omega) (by omega) (by omega) | omega) Al_h13t19)
      ·
        refine w_aload_n gz_37_189 rfl ?_
        refine v_getI (j := 6) gz_37_190 rfl is_82 rd_5 rfl (fun v22 ev22 pv22 qv22 => ?_)
        have zv22 := ev22.trans c82_6_181_0
        refine w_iconst gz_37_193 (by decide) ?_
        refine w_icne (t := 234) gz_37_194 rfl (fun u23 => ?_) (fun u23 => ?_)
        ·
          refine w_aload_n gz_37_234 rfl ?_
          refine w_dup gz_37_235 rfl ?_
          refine v_getI (j := 5) gz_37_236 rfl is_82 rd_5 rfl (fun v24 ev24 pv24 qv24 => ?_)
          have zv24 := ev24.trans ev1.symm
          refine w_iconst gz_37_239 (by decide) ?_
          refine w_iadd gz_37_240 ⟨by omega, by omega⟩ ?_
          refine v_putI (j := 5) gz_37_241 rfl is_82 rd_5 rfl (by omega) (by omega) rfl (fun h25 fh25 => ?_)
          have gh25 : my_fr [(5, 5), (5, 6), (5, 7), (5, 8)] h h25 := my_fr.up gh_181_0 is_82 fh25 rfl
          refine w_goto (t := 181) gz_37_244 rfl ?_
          have ce26 : h25 82 5 = (v24 + 1) := (my_up_self fh25)
          have ce27 : h25 82 6 = v22 := ((my_up_fld fh25 (by decide)).trans ev22.symm)
          have ce28 : h25 82 7 = p181_4 := ((my_up_fld fh25 (by decide)).trans c82_7_181_0)
          have ce29 : h25 82 8 = p181_5 := ((my_up_fld fh25 (by decide)).trans c82_8_181_0)
          have sg : ∀ j : Int, h25 92 j = h181_0 92 j := fun j => ((my_up_role fh25 is_92 is_82 rfl).trans (rfl : h181_0 92 j = h181_0 92 j))
          exact ih_181_0 (p181_0) (p181_1) ((v24 + 1)) (v22) (p181_4) (p181_5) h25 (gh25) (by omega) (by omega) (by omega) (by omega) (by omega) (by omega) (by omega) (by omega) (by omega) (by omega) (by omega) (by omega) (by omega) (by omega) (by omega) (by omega) (by omega) (by omega) (by omega) (by omega) (((my_up_fld fh25 (by decide)).trans c82_4_181_0).trans (by omega)) ((my_up_self fh25).trans (by omega)) (((my_up_fld fh25 (by decide)).trans ev22.symm).trans (by omega)) (((my_up_fld fh25 (by decide)).trans c82_7_181_0).trans (by omega)) (((my_up_fld fh25 (by decide)).trans c82_8_181_0).trans (by omega)) (((my_up_fld fh25 (by decide)).trans c82_9_181_0).trans (by omega)) (by omega) (by first | (intro t k a b; rw [sg]; exact dg_181_0 (by omega) k (by omega) (by omega)) | (intro t k a b; rw [sg]; exact dg_138_0 (by omega) k (by omega) (by omega)) | (intro t k a b; rw [sg, ← sg0, sgi k (by omega)]; omega) | (intro t; omega) | (intro t k a b; rw [sg]; rcases (by omega : k = p181_1 ∨ k < p181_1) with q | q <;> first | exact dg_138_0 (by omega) k (by omega) (by omega) | (subst q; omega)) | omega) (by first | assumption | omega | (subst_vars; omega) | omega) (by first | assumption | omega | (subst_vars; omega) | omega) (by first | exact tk_A_e A_181_0 (by omega) (by omega) (by omega) | exact tk_A_s A_138_0 (by omega) (by omega) (by omega) (by omega) | exact tk_A_e A_138_0 (by omega) (by omega) (by omega) | exact tk_A_0 b52 (n52 (by omega)).1 (n52 (by omega)).2 k88 (by omega) (by omega) (by omega) | omega) (by first | exact tk_N_e E_181_0 (by omega) (by omega) (by omega) | exact tk_N_e e173 (by omega) (by omega) (by omega) | omega) (by omega) (by first | exact tk_D_0 (by omega) (by omega) | exact tk_D_n (by omega) | exact tk_D_3 D_181_0 (by omega) (by omega) (by omega) (by omega) (by omega) | exact tk_D_s D_181_0 (by omega) (by omega) c227 (by omega) (by omega) (by omega) (by omega) (by omega) | omega) (by omega) (by omega)
        ·
          refine w_aload_n gz_37_197 rfl ?_
          refine v_getI (j := 5) gz_37_198 rfl is_82 rd_5 rfl (fun v30 ev30 pv30 qv30 => ?_)
          have zv30 := ev30.trans ev1.symm
          refine w_aload_n gz_37_201 rfl ?_
          refine v_getI (j := 7) gz_37_202 rfl is_82 rd_5 rfl (fun v31 ev31 pv31 qv31 => ?_)
          have zv31 := ev31.trans c82_7_181_0
          refine w_isub gz_37_205 ⟨by omega, by omega⟩ ?_
          refine w_iload_n gz_37_206 rfl ?_
          refine w_icge (t := 234) gz_37_207 rfl (fun u32 => ?_) (fun u32 => ?_)
          ·
            refine w_aload_n gz_37_234 rfl ?_
            refine w_dup gz_37_235 rfl ?_
            refine v_getI (j := 5) gz_37_236 rfl is_82 rd_5 rfl (fun v33 ev33 pv33 qv33 => ?_)
            have zv33 := ev33.trans ev30.symm
            refine w_iconst gz_37_239 (by decide) ?_
            refine w_iadd gz_37_240 ⟨by omega, by omega⟩ ?_
            refine v_putI (j := 5) gz_37_241 rfl is_82 rd_5 rfl (by omega) (by omega) rfl (fun h34 fh34 => ?_)
            have gh34 : my_fr [(5, 5), (5, 6), (5, 7), (5, 8)] h h34 := my_fr.up gh_181_0 is_82 fh34 rfl
            refine w_goto (t := 181) gz_37_244 rfl ?_
            have ce35 : h34 82 5 = (v33 + 1) := (my_up_self fh34)
            have ce36 : h34 82 6 = v22 := ((my_up_fld fh34 (by decide)).trans ev22.symm)
            have ce37 : h34 82 7 = v31 := ((my_up_fld fh34 (by decide)).trans ev31.symm)
            have ce38 : h34 82 8 = p181_5 := ((my_up_fld fh34 (by decide)).trans c82_8_181_0)
            have sg : ∀ j : Int, h34 92 j = h181_0 92 j := fun j => ((my_up_role fh34 is_92 is_82 rfl).trans (rfl : h181_0 92 j = h181_0 92 j))
            exact ih_181_0 (p181_0) (p181_1) ((v33 + 1)) (v22) (v31) (p181_5) h34 (gh34) (by omega) (by omega) (by omega) (by omega) (by omega) (by omega) (by omega) (by omega) (by omega) (by omega) (by omega) (by omega) (by omega) (by omega) (by omega) (by omega) (by omega) (by omega) (by omega) (by omega) (((my_up_fld fh34 (by decide)).trans c82_4_181_0).trans (by omega)) ((my_up_self fh34).trans (by omega)) (((my_up_fld fh34 (by decide)).trans ev22.symm).trans (by omega)) (((my_up_fld fh34 (by decide)).trans ev31.symm).trans (by omega)) (((my_up_fld fh34 (by decide)).trans c82_8_181_0).trans (by omega)) (((my_up_fld fh34 (by decide)).trans c82_9_181_0).trans (by omega)) (by omega) (by first | (intro t k a b; rw [sg]; exact dg_181_0 (by omega) k (by omega) (by omega)) | (intro t k a b; rw [sg]; exact dg_138_0 (by omega) k (by omega) (by omega)) | (intro t k a b; rw [sg, ← sg0, sgi k (by omega)]; omega) | (intro t; omega) | (intro t k a b; rw [sg]; rcases (by omega : k = p181_1 ∨ k < p181_1) with q | q <;> first | exact dg_138_0 (by omega) k (by omega) (by omega) | (subst q; omega)) | omega) (by first | assumption | omega | (subst_vars; omega) | omega) (by first | assumption | omega | (subst_vars; omega) | omega) (by first | exact tk_A_e A_181_0 (by omega) (by omega) (by omega) | exact tk_A_s A_138_0 (by omega) (by omega) (by omega) (by omega) | exact tk_A_e A_138_0 (by omega) (by omega) (by omega) | exact tk_A_0 b52 (n52 (by omega)).1 (n52 (by omega)).2 k88 (by omega) (by omega) (by omega) | omega) (by first | exact tk_N_e E_181_0 (by omega) (by omega) (by omega) | exact tk_N_e e173 (by omega) (by omega) (by omega) | omega) (by omega) (by first | exact tk_D_0 (by omega) (by omega) | exact tk_D_n (by omega) | exact tk_D_3 D_181_0 (by omega) (by omega) (by omega) (by omega) (by omega) | exact tk_D_s D_181_0 (by omega) (by omega) c227 (by omega) (by omega) (by omega) (by omega) (by omega) | omega) (by omega) (by omega)
          ·
            refine w_aload_n gz_37_210 rfl ?_
            refine w_bipush gz_37_211 (by decide) ?_
            refine w_aload_n gz_37_213 rfl ?_
            refine v_getI (j := 8) gz_37_214 rfl is_82 rd_5 rfl (fun v39 ev39 pv39 qv39 => ?_)
            have zv39 := ev39.trans c82_8_181_0
            refine w_imul gz_37_217 ⟨by omega, by omega⟩ ?_
            refine w_aload_n gz_37_218 rfl ?_
            refine w_getX (v := 92) gz_37_219 is_82 rd_5 rfl (by decide) rfl ?_
            refine w_aload_n gz_37_222 rfl ?_
            refine v_getI (j := 5) gz_37_223 rfl is_82 rd_5 rfl (fun v41 ev41 pv41 qv41 => ?_)
            have zv41 := ev41.trans ev30.symm
            have dd := dg_181_0 (by omega) v41 (by omega) (by omega)
            refine w_yald gz_37_226 is_92 rd_40 (by omega) (by omega) (fun v42 ev42 pv42 qv42 => ?_)
            have c227 : v42 = h 92 v41 := by
              have z : h181_0 92 v41 = h 92 v41 := by first | rfl | exact my_fr.at gh_181_0 is_92 rfl
              omega
            refine w_iadd gz_37_227 ⟨by omega, by omega⟩ ?_
            refine w_bipush gz_37_228 (by decide) ?_
            refine w_isub gz_37_230 ⟨by omega, by omega⟩ ?_
            have hi43 : 0 ≤ (((10 * v39) + v42) - 48) := by omega
            have hi44 : (((10 * v39) + v42) - 48) ≤ 999 := by omega
            refine v_putI (j := 8) gz_37_231 rfl is_82 rd_5 rfl (by omega) (by omega) rfl (fun h45 fh45 => ?_)
            have gh45 : my_fr [(5, 5), (5, 6), (5, 7), (5, 8)] h h45 := my_fr.up gh_181_0 is_82 fh45 rfl
            refine w_aload_n gz_37_234 rfl ?_
            refine w_dup gz_37_235 rfl ?_
            refine v_getI (j := 5) gz_37_236 rfl is_82 rd_5 rfl (fun v46 ev46 pv46 qv46 => ?_)
            have zv46 := ev46.trans ((my_up_fld fh45 (by decide)).trans ev41.symm)
            refine w_iconst gz_37_239 (by decide) ?_
            refine w_iadd gz_37_240 ⟨by omega, by omega⟩ ?_
            refine v_putI (j := 5) gz_37_241 rfl is_82 rd_5 rfl (by omega) (by omega) rfl (fun h47 fh47 => ?_)
            have gh47 : my_fr [(5, 5), (5, 6), (5, 7), (5, 8)] h h47 := my_fr.up gh45 is_82 fh47 rfl
            refine w_goto (t := 181) gz_37_244 rfl ?_
            have ce48 : h47 82 5 = (v46 + 1) := (my_up_self fh47)
            have ce49 : h47 82 6 = v22 := ((my_up_fld fh47 (by decide)).trans ((my_up_fld fh45 (by decide)).trans ev22.symm))
            have ce50 : h47 82 7 = v31 := ((my_up_fld fh47 (by decide)).trans ((my_up_fld fh45 (by decide)).trans ev31.symm))
            have ce51 : h47 82 8 = (((10 * v39) + v42) - 48) := ((my_up_fld fh47 (by decide)).trans (my_up_self fh45))
            have sg : ∀ j : Int, h47 92 j = h181_0 92 j := fun j => ((my_up_role fh47 is_92 is_82 rfl).trans ((my_up_role fh45 is_92 is_82 rfl).trans (rfl : h181_0 92 j = h181_0 92 j)))
            exact ih_181_0 (p181_0) (p181_1) ((v46 + 1)) (v22) (v31) ((((10 * v39) + v42) - 48)) h47 (gh47) (by omega) (by omega) (by omega) (by omega) (by omega) (by omega) (by omega) (by omega) (by omega) (by omega) (by omega) (by omega) (by omega) (by omega) (by omega) (by omega) (by omega) (by omega) (by omega) (by omega) (((my_up_fld fh47 (by decide)).trans ((my_up_fld fh45 (by decide)).trans c82_4_181_0)).trans (by omega)) ((my_up_self fh47).trans (by omega)) (((my_up_fld fh47 (by decide)).trans ((my_up_fld fh45 (by decide)).trans ev22.symm)).trans (by omega)) (((my_up_fld fh47 (by decide)).trans ((my_up_fld fh45 (by decide)).trans ev31.symm)).trans (by omega)) (((my_up_fld fh47 (by decide)).trans (my_up_self fh45)).trans (by omega)) (((my_up_fld fh47 (by decide)).trans ((my_up_fld fh45 (by decide)).trans c82_9_181_0)).trans (by omega)) (by omega) (by first | (intro t k a b; rw [sg]; exact dg_181_0 (by omega) k (by omega) (by omega)) | (intro t k a b; rw [sg]; exact dg_138_0 (by omega) k (by omega) (by omega)) | (intro t k a b; rw [sg, ← sg0, sgi k (by omega)]; omega) | (intro t; omega) | (intro t k a b; rw [sg]; rcases (by omega : k = p181_1 ∨ k < p181_1) with q | q <;> first | exact dg_138_0 (by omega) k (by omega) (by omega) | (subst q; omega)) | omega) (by first | assumption | omega | (subst_vars; omega) | omega) (by first | assumption | omega | (subst_vars; omega) | omega) (by first | exact tk_A_e A_181_0 (by omega) (by omega) (by omega) | exact tk_A_s A_138_0 (by omega) (by omega) (by omega) (by omega) | exact tk_A_e A_138_0 (by omega) (by omega) (by omega) | exact tk_A_0 b52 (n52 (by omega)).1 (n52 (by omega)).2 k88 (by omega) (by omega) (by omega) | omega) (by first | exact tk_N_e E_181_0 (by omega) (by omega) (by omega) | exact tk_N_e e173 (by omega) (by omega) (by omega) | omega) (by omega) (by first | exact tk_D_0 (by omega) (by omega) | exact tk_D_n (by omega) | exact tk_D_3 D_181_0 (by omega) (by omega) (by omega) (by omega) (by omega) | exact tk_D_s D_181_0 (by omega) (by omega) c227 (by omega) (by omega) (by omega) (by omega) (by omega) | omega) (by omega) (by omega)
  have J138_0 : ∀ (n : Nat) (p138_0 p138_1 p138_2 p138_3 : Int) (h138_0 : my_H), my_fr [(5, 5), (5, 6), (5, 7), (5, 8)] h h138_0 → 1 ≤ p138_0 → p138_0 ≤ 8 → 1 ≤ p138_1 → p138_1 ≤ 1000 → 1 ≤ k82_4 → 0 ≤ p138_2 → p138_2 ≤ 999 → 1 ≤ p138_3 → p138_3 ≤ 4 → k82_5 ≤ 999 → p138_1 ≤ k82_4 → p138_2 ≤ (p138_1 - 1) → p138_2 ≤ (k82_4 - 1) → k82_5 ≤ (p138_1 - 1) → k82_5 ≤ p138_2 → k82_5 ≤ (k82_4 - 1) → h138_0 82 4 = k82_4 → h138_0 82 5 = p138_2 → h138_0 82 6 = p138_3 → h138_0 82 7 = p138_2 → h138_0 82 8 = 0 → h138_0 82 9 = 0 → (h138_0 82 6 = 2 → p138_0 = 3) → (h138_0 82 6 = 2 → ∀ k : Int, h138_0 82 7 ≤ k → k < p138_1 → 48 ≤ h138_0 92 k ∧ h138_0 92 k ≤ 57) → h138_0 82 7 + 1 ≤ p138_1 → h138_0 82 8 = 0 → p138_1 ≤ 1000 → tk_A (h 92) (h 82 5) (h138_0 82 7) p138_1 (h138_0 82 6) → ((h138_0 82 6 = 1 → p138_0 = 8) ∧ (h138_0 82 6 = 2 → p138_0 = 3) ∧ (3 ≤ h138_0 82 6 → p138_0 = 1)) → (p138_0 = 1 → p138_1 = h138_0 82 7 + 1) → 1001 - p138_1 ≤ (n : Int) → wp l rho (d + 1) 37 138 [(2, 82), (0, p138_0), (0, p138_1)] [] h138_0 Q := by
    intro n
    induction n with
    | zero => intro p138_0 p138_1 p138_2 p138_3 h138_0 gh_138_0 q0_138_0 q1_138_0 q2_138_0 q3_138_0 q4_138_0 q5_138_0 q6_138_0 q7_138_0 q8_138_0 q9_138_0 q10_138_0 q11_138_0 q12_138_0 q13_138_0 q14_138_0 q15_138_0 c82_4_138_0 c82_5_138_0 c82_6_138_0 c82_7_138_0 c82_8_138_0 c82_9_138_0 tk_138_0 dg_138_0 sn_138_0 n0_138_0 lm_138_0 A_138_0 mo_138_0 m1_138_0 hm_138_0; exfalso; omega
    | succ n ih_138_0 =>
      intro p138_0 p138_1 p138_2 p138_3 h138_0 gh_138_0 q0_138_0 q1_138_0 q2_138_0 q3_138_0 q4_138_0 q5_138_0 q6_138_0 q7_138_0 q8_138_0 q9_138_0 q10_138_0 q11_138_0 q12_138_0 q13_138_0 q14_138_0 q15_138_0 c82_4_138_0 c82_5_138_0 c82_6_138_0 c82_7_138_0 c82_8_138_0 c82_9_138_0 tk_138_0 dg_138_0 sn_138_0 n0_138_0 lm_138_0 A_138_0 mo_138_0 m1_138_0 hm_138_0
      refine w_iload_n gz_37_138 rfl ?_
      refine w_aload_n gz_37_139 rfl ?_
      refine v_getI (j := 4) gz_37_140 rfl is_82 rd_5 rfl (fun v52 ev52 pv52 qv52 => ?_)
      have zv52 := ev52.trans c82_4_138_0
      refine w_icge (t := 173) gz_37_143 rfl (fun u53 => ?_) (fun u53 => ?_)
      ·
        have e173 : tk_N (h 92) k82_4 (h138_0 82 7) p138_1 (h138_0 82 6) := ⟨fun a b => by omega, fun a => by omega⟩
        refine w_aload_n gz_37_173 rfl ?_
        refine w_aload_n gz_37_174 rfl ?_
        refine v_getI (j := 7) gz_37_175 rfl is_82 rd_5 rfl (fun v54 ev54 pv54 qv54 => ?_)
        have zv54 := ev54.trans c82_7_138_0
        refine v_putI (j := 5) gz_37_178 rfl is_82 rd_5 rfl (by omega) (by omega) rfl (fun h55 fh55 => ?_)
        have gh55 : my_fr [(5, 5), (5, 6), (5, 7), (5, 8)] h h55 := my_fr.up gh_138_0 is_82 fh55 rfl
        have ce56 : h55 82 5 = v54 := (my_up_self fh55)
        have ce57 : h55 82 6 = p138_3 := ((my_up_fld fh55 (by decide)).trans c82_6_138_0)
        have ce58 : h55 82 7 = v54 := ((my_up_fld fh55 (by decide)).trans ev54.symm)
        have ce59 : h55 82 8 = 0 := ((my_up_fld fh55 (by decide)).trans c82_8_138_0)
        have sg : ∀ j : Int, h55 92 j = h138_0 92 j := fun j => ((my_up_role fh55 is_92 is_82 rfl).trans (rfl : h138_0 92 j = h138_0 92 j))
        exact J181_0 (1001) (p138_0) (p138_1) (v54) (p138_3) (v54) (0) h55 (gh55) (by omega) (by omega) (by omega) (by omega) (by omega) (by omega) (by omega) (by omega) (by omega) (by omega) (by omega) (by omega) (by omega) (by omega) (by omega) (by omega) (by omega) (by omega) (by omega) (by omega) (((my_up_fld fh55 (by decide)).trans ev52.symm).trans (by omega)) ((my_up_self fh55).trans (by omega)) (((my_up_fld fh55 (by decide)).trans c82_6_138_0).trans (by omega)) (((my_up_fld fh55 (by decide)).trans ev54.symm).trans (by omega)) (((my_up_fld fh55 (by decide)).trans c82_8_138_0).trans (by omega)) (((my_up_fld fh55 (by decide)).trans c82_9_138_0).trans (by omega)) (by omega) (by first | (intro t k a b; rw [sg]; exact dg_181_0 (by omega) k (by omega) (by omega)) | (intro t k a b; rw [sg]; exact dg_138_0 (by omega) k (by omega) (by omega)) | (intro t k a b; rw [sg, ← sg0, sgi k (by omega)]; omega) | (intro t; omega) | (intro t k a b; rw [sg]; rcases (by omega : k = p181_1 ∨ k < p181_1) with q | q <;> first | exact dg_138_0 (by omega) k (by omega) (by omega) | (subst q; omega)) | omega) (by first | assumption | omega | (subst_vars; omega) | omega) (by first | assumption | omega | (subst_vars; omega) | omega) (by first | exact tk_A_e A_181_0 (by omega) (by omega) (by omega) | exact tk_A_s A_138_0 (by omega) (by omega) (by omega) (by omega) | exact tk_A_e A_138_0 (by omega) (by omega) (by omega) | exact tk_A_0 b52 (n52 (by omega)).1 (n52 (by omega)).2 k88 (by omega) (by omega) (by omega) | omega) (by first | exact tk_N_e E_181_0 (by omega) (by omega) (by omega) | exact tk_N_e e173 (by omega) (by omega) (by omega) | omega) (by omega) (by first | exact tk_D_0 (by omega) (by omega) | exact tk_D_n (by omega) | exact tk_D_3 D_181_0 (by omega) (by omega) (by omega) (by omega) (by omega) | exact tk_D_s D_181_0 (by omega) (by omega) c227 (by omega) (by omega) (by omega) (by omega) (by omega) | omega) (by omega) (by omega)
      ·
        refine w_iload_n gz_37_146 rfl ?_
        refine w_iconst gz_37_147 (by decide) ?_
        refine w_icle (t := 173) gz_37_148 rfl (fun u60 => ?_) (fun u60 => ?_)
        ·
          have e173 : tk_N (h 92) k82_4 (h138_0 82 7) p138_1 (h138_0 82 6) := ⟨fun a b => by omega, fun a => by omega⟩
          refine w_aload_n gz_37_173 rfl ?_
          refine w_aload_n gz_37_174 rfl ?_
          refine v_getI (j := 7) gz_37_175 rfl is_82 rd_5 rfl (fun v61 ev61 pv61 qv61 => ?_)
          have zv61 := ev61.trans c82_7_138_0
          refine v_putI (j := 5) gz_37_178 rfl is_82 rd_5 rfl (by omega) (by omega) rfl (fun h62 fh62 => ?_)
          have gh62 : my_fr [(5, 5), (5, 6), (5, 7), (5, 8)] h h62 := my_fr.up gh_138_0 is_82 fh62 rfl
          have ce63 : h62 82 5 = v61 := (my_up_self fh62)
          have ce64 : h62 82 6 = p138_3 := ((my_up_fld fh62 (by decide)).trans c82_6_138_0)
          have ce65 : h62 82 7 = v61 := ((my_up_fld fh62 (by decide)).trans ev61.symm)
          have ce66 : h62 82 8 = 0 := ((my_up_fld fh62 (by decide)).trans c82_8_138_0)
          have sg : ∀ j : Int, h62 92 j = h138_0 92 j := fun j => ((my_up_role fh62 is_92 is_82 rfl).trans (rfl : h138_0 92 j = h138_0 92 j))
          exact J181_0 (1001) (p138_0) (p138_1) (v61) (p138_3) (v61) (0) h62 (gh62) (by omega) (by omega) (by omega) (by omega) (by omega) (by omega) (by omega) (by omega) (by omega) (by omega) (by omega) (by omega) (by omega) (by omega) (by omega) (by omega) (by omega) (by omega) (by omega) (by omega) (((my_up_fld fh62 (by decide)).trans ev52.symm).trans (by omega)) ((my_up_self fh62).trans (by omega)) (((my_up_fld fh62 (by decide)).trans c82_6_138_0).trans (by omega)) (((my_up_fld fh62 (by decide)).trans ev61.symm).trans (by omega)) (((my_up_fld fh62 (by decide)).trans c82_8_138_0).trans (by omega)) (((my_up_fld fh62 (by decide)).trans c82_9_138_0).trans (by omega)) (by omega) (by first | (intro t k a b; rw [sg]; exact dg_181_0 (by omega) k (by omega) (by omega)) | (intro t k a b; rw [sg]; exact dg_138_0 (by omega) k (by omega) (by omega)) | (intro t k a b; rw [sg, ← sg0, sgi k (by omega)]; omega) | (intro t; omega) | (intro t k a b; rw [sg]; rcases (by omega : k = p181_1 ∨ k < p181_1) with q | q <;> first | exact dg_138_0 (by omega) k (by omega) (by omega) | (subst q; omega)) | omega) (by first | assumption | omega | (subst_vars; omega) | omega) (by first | assumption | omega | (subst_vars; omega) | omega) (by first | exact tk_A_e A_181_0 (by omega) (by omega) (by omega) | exact tk_A_s A_138_0 (by omega) (by omega) (by omega) (by omega) | exact tk_A_e A_138_0 (by omega) (by omega) (by omega) | exact tk_A_0 b52 (n52 (by omega)).1 (n52 (by omega)).2 k88 (by omega) (by omega) (by omega) | omega) (by first | exact tk_N_e E_181_0 (by omega) (by omega) (by omega) | exact tk_N_e e173 (by omega) (by omega) (by omega) | omega) (by omega) (by first | exact tk_D_0 (by omega) (by omega) | exact tk_D_n (by omega) | exact tk_D_3 D_181_0 (by omega) (by omega) (by omega) (by omega) (by omega) | exact tk_D_s D_181_0 (by omega) (by omega) c227 (by omega) (by omega) (by omega) (by omega) (by omega) | omega) (by omega) (by omega)
        ·
          refine w_aload_n gz_37_151 rfl ?_
          refine w_getX (v := 92) gz_37_152 is_82 rd_5 rfl (by decide) rfl ?_
          refine w_iload_n gz_37_155 rfl ?_
          refine w_yald gz_37_156 is_92 rd_40 (by omega) (by omega) (fun v68 ev68 pv68 qv68 => ?_)
          have c157 : v68 = h 92 p138_1 := by
            have z : h138_0 92 p138_1 = h 92 p138_1 := by first | rfl | exact my_fr.at gh_138_0 is_92 rfl
            rw [show p138_1 = p138_1 by omega]
            omega
          refine w_inS (k := 0) (as := [(0, v68)]) (r := []) (ls0 := [(0, v68)]) gz_37_157 gm_38 rfl rfl rfl rfl rfl rfl ?_
          refine w_iload_n gz_38_0 rfl ?_
          refine w_bipush gz_38_1 (by decide) ?_
          refine w_iclt (t := 14) gz_38_3 rfl (fun u69 => ?_) (fun u69 => ?_)
          ·
            refine w_iload_n gz_38_14 rfl ?_
            refine w_bipush gz_38_15 (by decide) ?_
            refine w_iclt (t := 28) gz_38_17 rfl (fun u70 => ?_) (fun u70 => ?_)
            ·
              refine w_iload_n gz_38_28 rfl ?_
              refine w_bipush gz_38_29 (by decide) ?_
              refine w_icne (t := 38) gz_38_31 rfl (fun u71 => ?_) (fun u71 => by exfalso; omega)
              refine w_iconst gz_38_38 (by decide) ?_
              refine w_iret gz_38_39 gm_38 ?_
              show wp l rho (d + 1) 37 160 [(2, 82), (0, p138_0), (0, p138_1)] [(0, 4)] h138_0 Q
              have k160 : tk_k (h 92 p138_1) = 4 := by rw [← c157]; unfold tk_k; (repeat (first | rw [if_pos (by omega)] | rw [if_neg (by omega)]))
              refine w_aload_n gz_37_160 rfl ?_
              refine v_getI (j := 6) gz_37_161 rfl is_82 rd_5 rfl (fun v72 ev72 pv72 qv72 => ?_)
              have zv72 := ev72.trans c82_6_138_0
              refine w_icne (t := 173) gz_37_164 rfl (fun u73 => ?_) (fun u73 => ?_)
              ·
                have e173 : tk_N (h 92) k82_4 (h138_0 82 7) p138_1 (h138_0 82 6) := ⟨fun a b => by omega, fun a => by omega⟩
                refine w_aload_n gz_37_173 rfl ?_
                refine w_aload_n gz_37_174 rfl ?_
                refine v_getI (j := 7) gz_37_175 rfl is_82 rd_5 rfl (fun v74 ev74 pv74 qv74 => ?_)
                have zv74 := ev74.trans c82_7_138_0
                refine v_putI (j := 5) gz_37_178 rfl is_82 rd_5 rfl (by omega) (by omega) rfl (fun h75 fh75 => ?_)
                have gh75 : my_fr [(5, 5), (5, 6), (5, 7), (5, 8)] h h75 := my_fr.up gh_138_0 is_82 fh75 rfl
                have ce76 : h75 82 5 = v74 := (my_up_self fh75)
                have ce77 : h75 82 6 = v72 := ((my_up_fld fh75 (by decide)).trans ev72.symm)
                have ce78 : h75 82 7 = v74 := ((my_up_fld fh75 (by decide)).trans ev74.symm)
                have ce79 : h75 82 8 = 0 := ((my_up_fld fh75 (by decide)).trans c82_8_138_0)
                have sg : ∀ j : Int, h75 92 j = h138_0 92 j := fun j => ((my_up_role fh75 is_92 is_82 rfl).trans (rfl : h138_0 92 j = h138_0 92 j))
                exact J181_0 (1001) (p138_0) (p138_1) (v74) (v72) (v74) (0) h75 (gh75) (by omega) (by omega) (by omega) (by omega) (by omega) (by omega) (by omega) (by omega) (by omega) (by omega) (by omega) (by omega) (by omega) (by omega) (by omega) (by omega) (by omega) (by omega) (by omega) (by omega) (((my_up_fld fh75 (by decide)).trans ev52.symm).trans (by omega)) ((my_up_self fh75).trans (by omega)) (((my_up_fld fh75 (by decide)).trans ev72.symm).trans (by omega)) (((my_up_fld fh75 (by decide)).trans ev74.symm).trans (by omega)) (((my_up_fld fh75 (by decide)).trans c82_8_138_0).trans (by omega)) (((my_up_fld fh75 (by decide)).trans c82_9_138_0).trans (by omega)) (by omega) (by first | (intro t k a b; rw [sg]; exact dg_181_0 (by omega) k (by omega) (by omega)) | (intro t k a b; rw [sg]; exact dg_138_0 (by omega) k (by omega) (by omega)) | (intro t k a b; rw [sg, ← sg0, sgi k (by omega)]; omega) | (intro t; omega) | (intro t k a b; rw [sg]; rcases (by omega : k = p181_1 ∨ k < p181_1) with q | q <;> first | exact dg_138_0 (by omega) k (by omega) (by omega) | (subst q; omega)) | omega) (by first | assumption | omega | (subst_vars; omega) | omega) (by first | assumption | omega | (subst_vars; omega) | omega) (by first | exact tk_A_e A_181_0 (by omega) (by omega) (by omega) | exact tk_A_s A_138_0 (by omega) (by omega) (by omega) (by omega) | exact tk_A_e A_138_0 (by omega) (by omega) (by omega) | exact tk_A_0 b52 (n52 (by omega)).1 (n52 (by omega)).2 k88 (by omega) (by omega) (by omega) | omega) (by first | exact tk_N_e E_181_0 (by omega) (by omega) (by omega) | exact tk_N_e e173 (by omega) (by omega) (by omega) | omega) (by omega) (by first | exact tk_D_0 (by omega) (by omega) | exact tk_D_n (by omega) | exact tk_D_3 D_181_0 (by omega) (by omega) (by omega) (by omega) (by omega) | exact tk_D_s D_181_0 (by omega) (by omega) c227 (by omega) (by omega) (by omega) (by omega) (by omega) | omega) (by omega) (by omega)
              ·
                refine w_iinc (ls' := [(2, 82), (0, p138_0), (0, (p138_1 + 1))]) gz_37_167 rfl gm_37 rfl rfl rfl ⟨by omega, by omega⟩ ?_
                refine w_goto (t := 138) gz_37_170 rfl ?_
                have ce80 : h138_0 82 5 = p138_2 := c82_5_138_0
                have ce81 : h138_0 82 6 = v72 := ev72.symm
                have ce82 : h138_0 82 7 = p138_2 := c82_7_138_0
                have ce83 : h138_0 82 8 = 0 := c82_8_138_0
                have sg : ∀ j : Int, h138_0 92 j = h138_0 92 j := fun _ => rfl
                exact ih_138_0 (p138_0) ((p138_1 + 1)) (p138_2) (v72) h138_0 (gh_138_0) (by omega) (by omega) (by omega) (by omega) (by omega) (by omega) (by omega) (by omega) (by omega) (by omega) (by omega) (by omega) (by omega) (by omega) (by omega) (by omega) (ev52.symm.trans (by omega)) (c82_5_138_0.trans (by omega)) (ev72.symm.trans (by omega)) (c82_7_138_0.trans (by omega)) (c82_8_138_0.trans (by omega)) (c82_9_138_0.trans (by omega)) (by omega) (by first | (intro t k a b; rw [sg]; exact dg_181_0 (by omega) k (by omega) (by omega)) | (intro t k a b; rw [sg]; exact dg_138_0 (by omega) k (by omega) (by omega)) | (intro t k a b; rw [sg, ← sg0, sgi k (by omega)]; omega) | (intro t; omega) | (intro t k a b; rw [sg]; rcases (by omega : k = p138_1 ∨ k < p138_1) with q | q <;> first | exact dg_138_0 (by omega) k (by omega) (by omega) | (subst q; omega)) | omega) (by first | assumption | omega | (subst_vars; omega) | omega) (by first | assumption | omega | (subst_vars; omega) | omega) (by first | assumption | omega | (subst_vars; omega) | omega) (by first | exact tk_A_e A_181_0 (by omega) (by omega) (by omega) | exact tk_A_s A_138_0 (by omega) (by omega) (by omega) (by omega) | exact tk_A_e A_138_0 (by omega) (by omega) (by omega) | exact tk_A_0 b52 (n52 (by omega)).1 (n52 (by omega)).2 k88 (by omega) (by omega) (by omega) | omega) (by omega) (by omega) (by omega)
            ·
              refine w_iload_n gz_38_20 rfl ?_
              refine w_bipush gz_38_21 (by decide) ?_
              refine w_icgt (t := 28) gz_38_23 rfl (fun u84 => ?_) (fun u84 => ?_)
              ·
                refine w_iload_n gz_38_28 rfl ?_
                refine w_bipush gz_38_29 (by decide) ?_
                refine w_icne (t := 38) gz_38_31 rfl (fun u85 => ?_) (fun u85 => ?_)
                ·
                  refine w_iconst gz_38_38 (by decide) ?_
                  refine w_iret gz_38_39 gm_38 ?_
                  show wp l rho (d + 1) 37 160 [(2, 82), (0, p138_0), (0, p138_1)] [(0, 4)] h138_0 Q
                  have k160 : tk_k (h 92 p138_1) = 4 := by rw [← c157]; unfold tk_k; (repeat (first | rw [if_pos (by omega)] | rw [if_neg (by omega)]))
                  refine w_aload_n gz_37_160 rfl ?_
                  refine v_getI (j := 6) gz_37_161 rfl is_82 rd_5 rfl (fun v86 ev86 pv86 qv86 => ?_)
                  have zv86 := ev86.trans c82_6_138_0
                  refine w_icne (t := 173) gz_37_164 rfl (fun u87 => ?_) (fun u87 => ?_)
                  ·
                    have e173 : tk_N (h 92) k82_4 (h138_0 82 7) p138_1 (h138_0 82 6) := ⟨fun a b => by omega, fun a => by omega⟩
                    refine w_aload_n gz_37_173 rfl ?_
                    refine w_aload_n gz_37_174 rfl ?_
                    refine v_getI (j := 7) gz_37_175 rfl is_82 rd_5 rfl (fun v88 ev88 pv88 qv88 => ?_)
                    have zv88 := ev88.trans c82_7_138_0
                    refine v_putI (j := 5) gz_37_178 rfl is_82 rd_5 rfl (by omega) (by omega) rfl (fun h89 fh89 => ?_)
                    have gh89 : my_fr [(5, 5), (5, 6), (5, 7), (5, 8)] h h89 := my_fr.up gh_138_0 is_82 fh89 rfl
                    have ce90 : h89 82 5 = v88 := (my_up_self fh89)
                    have ce91 : h89 82 6 = v86 := ((my_up_fld fh89 (by decide)).trans ev86.symm)
                    have ce92 : h89 82 7 = v88 := ((my_up_fld fh89 (by decide)).trans ev88.symm)
                    have ce93 : h89 82 8 = 0 := ((my_up_fld fh89 (by decide)).trans c82_8_138_0)
                    have sg : ∀ j : Int, h89 92 j = h138_0 92 j := fun j => ((my_up_role fh89 is_92 is_82 rfl).trans (rfl : h138_0 92 j = h138_0 92 j))
                    exact J181_0 (1001) (p138_0) (p138_1) (v88) (v86) (v88) (0) h89 (gh89) (by omega) (by omega) (by omega) (by omega) (by omega) (by omega) (by omega) (by omega) (by omega) (by omega) (by omega) (by omega) (by omega) (by omega) (by omega) (by omega) (by omega) (by omega) (by omega) (by omega) (((my_up_fld fh89 (by decide)).trans ev52.symm).trans (by omega)) ((my_up_self fh89).trans (by omega)) (((my_up_fld fh89 (by decide)).trans ev86.symm).trans (by omega)) (((my_up_fld fh89 (by decide)).trans ev88.symm).trans (by omega)) (((my_up_fld fh89 (by decide)).trans c82_8_138_0).trans (by omega)) (((my_up_fld fh89 (by decide)).trans c82_9_138_0).trans (by omega)) (by omega) (by first | (intro t k a b; rw [sg]; exact dg_181_0 (by omega) k (by omega) (by omega)) | (intro t k a b; rw [sg]; exact dg_138_0 (by omega) k (by omega) (by omega)) | (intro t k a b; rw [sg, ← sg0, sgi k (by omega)]; omega) | (intro t; omega) | (intro t k a b; rw [sg]; rcases (by omega : k = p181_1 ∨ k < p181_1) with q | q <;> first | exact dg_138_0 (by omega) k (by omega) (by omega) | (subst q; omega)) | omega) (by first | assumption | omega | (subst_vars; omega) | omega) (by first | assumption | omega | (subst_vars; omega) | omega) (by first | exact tk_A_e A_181_0 (by omega) (by omega) (by omega) | exact tk_A_s A_138_0 (by omega) (by omega) (by omega) (by omega) | exact tk_A_e A_138_0 (by omega) (by omega) (by omega) | exact tk_A_0 b52 (n52 (by omega)).1 (n52 (by omega)).2 k88 (by omega) (by omega) (by omega) | omega) (by first | exact tk_N_e E_181_0 (by omega) (by omega) (by omega) | exact tk_N_e e173 (by omega) (by omega) (by omega) | omega) (by omega) (by first | exact tk_D_0 (by omega) (by omega) | exact tk_D_n (by omega) | exact tk_D_3 D_181_0 (by omega) (by omega) (by omega) (by omega) (by omega) | exact tk_D_s D_181_0 (by omega) (by omega) c227 (by omega) (by omega) (by omega) (by omega) (by omega) | omega) (by omega) (by omega)
                  ·
                    refine w_iinc (ls' := [(2, 82), (0, p138_0), (0, (p138_1 + 1))]) gz_37_167 rfl gm_37 rfl rfl rfl ⟨by omega, by omega⟩ ?_
                    refine w_goto (t := 138) gz_37_170 rfl ?_
                    have ce94 : h138_0 82 5 = p138_2 := c82_5_138_0
                    have ce95 : h138_0 82 6 = v86 := ev86.symm
                    have ce96 : h138_0 82 7 = p138_2 := c82_7_138_0
                    have ce97 : h138_0 82 8 = 0 := c82_8_138_0
                    have sg : ∀ j : Int, h138_0 92 j = h138_0 92 j := fun _ => rfl
                    exact ih_138_0 (p138_0) ((p138_1 + 1)) (p138_2) (v86) h138_0 (gh_138_0) (by omega) (by omega) (by omega) (by omega) (by omega) (by omega) (by omega) (by omega) (by omega) (by omega) (by omega) (by omega) (by omega) (by omega) (by omega) (by omega) (ev52.symm.trans (by omega)) (c82_5_138_0.trans (by omega)) (ev86.symm.trans (by omega)) (c82_7_138_0.trans (by omega)) (c82_8_138_0.trans (by omega)) (c82_9_138_0.trans (by omega)) (by omega) (by first | (intro t k a b; rw [sg]; exact dg_181_0 (by omega) k (by omega) (by omega)) | (intro t k a b; rw [sg]; exact dg_138_0 (by omega) k (by omega) (by omega)) | (intro t k a b; rw [sg, ← sg0, sgi k (by omega)]; omega) | (intro t; omega) | (intro t k a b; rw [sg]; rcases (by omega : k = p138_1 ∨ k < p138_1) with q | q <;> first | exact dg_138_0 (by omega) k (by omega) (by omega) | (subst q; omega)) | omega) (by first | assumption | omega | (subst_vars; omega) | omega) (by first | assumption | omega | (subst_vars; omega) | omega) (by first | assumption | omega | (subst_vars; omega) | omega) (by first | exact tk_A_e A_181_0 (by omega) (by omega) (by omega) | exact tk_A_s A_138_0 (by omega) (by omega) (by omega) (by omega) | exact tk_A_e A_138_0 (by omega) (by omega) (by omega) | exact tk_A_0 b52 (n52 (by omega)).1 (n52 (by omega)).2 k88 (by omega) (by omega) (by omega) | omega) (by omega) (by omega) (by omega)
                ·
                  refine w_iconst gz_38_34 (by decide) ?_
                  refine w_goto (t := 39) gz_38_35 rfl ?_
                  refine w_iret gz_38_39 gm_38 ?_
                  show wp l rho (d + 1) 37 160 [(2, 82), (0, p138_0), (0, p138_1)] [(0, 3)] h138_0 Q
                  have k160 : tk_k (h 92 p138_1) = 3 := by rw [← c157]; unfold tk_k; (repeat (first | rw [if_pos (by omega)] | rw [if_neg (by omega)]))
                  refine w_aload_n gz_37_160 rfl ?_
                  refine v_getI (j := 6) gz_37_161 rfl is_82 rd_5 rfl (fun v98 ev98 pv98 qv98 => ?_)
                  have zv98 := ev98.trans c82_6_138_0
                  refine w_icne (t := 173) gz_37_164 rfl (fun u99 => ?_) (fun u99 => ?_)
                  ·
                    have e173 : tk_N (h 92) k82_4 (h138_0 82 7) p138_1 (h138_0 82 6) := ⟨fun a b => by omega, fun a => by omega⟩
                    refine w_aload_n gz_37_173 rfl ?_
                    refine w_aload_n gz_37_174 rfl ?_
                    refine v_getI (j := 7) gz_37_175 rfl is_82 rd_5 rfl (fun v100 ev100 pv100 qv100 => ?_)
                    have zv100 := ev100.trans c82_7_138_0
                    refine v_putI (j := 5) gz_37_178 rfl is_82 rd_5 rfl (by omega) (by omega) rfl (fun h101 fh101 => ?_)
                    have gh101 : my_fr [(5, 5), (5, 6), (5, 7), (5, 8)] h h101 := my_fr.up gh_138_0 is_82 fh101 rfl
                    have ce102 : h101 82 5 = v100 := (my_up_self fh101)
                    have ce103 : h101 82 6 = v98 := ((my_up_fld fh101 (by decide)).trans ev98.symm)
                    have ce104 : h101 82 7 = v100 := ((my_up_fld fh101 (by decide)).trans ev100.symm)
                    have ce105 : h101 82 8 = 0 := ((my_up_fld fh101 (by decide)).trans c82_8_138_0)
                    have sg : ∀ j : Int, h101 92 j = h138_0 92 j := fun j => ((my_up_role fh101 is_92 is_82 rfl).trans (rfl : h138_0 92 j = h138_0 92 j))
                    exact J181_0 (1001) (p138_0) (p138_1) (v100) (v98) (v100) (0) h101 (gh101) (by omega) (by omega) (by omega) (by omega) (by omega) (by omega) (by omega) (by omega) (by omega) (by omega) (by omega) (by omega) (by omega) (by omega) (by omega) (by omega) (by omega) (by omega) (by omega) (by omega) (((my_up_fld fh101 (by decide)).trans ev52.symm).trans (by omega)) ((my_up_self fh101).trans (by omega)) (((my_up_fld fh101 (by decide)).trans ev98.symm).trans (by omega)) (((my_up_fld fh101 (by decide)).trans ev100.symm).trans (by omega)) (((my_up_fld fh101 (by decide)).trans c82_8_138_0).trans (by omega)) (((my_up_fld fh101 (by decide)).trans c82_9_138_0).trans (by omega)) (by omega) (by first | (intro t k a b; rw [sg]; exact dg_181_0 (by omega) k (by omega) (by omega)) | (intro t k a b; rw [sg]; exact dg_138_0 (by omega) k (by omega) (by omega)) | (intro t k a b; rw [sg, ← sg0, sgi k (by omega)]; omega) | (intro t; omega) | (intro t k a b; rw [sg]; rcases (by omega : k = p181_1 ∨ k < p181_1) with q | q <;> first | exact dg_138_0 (by omega) k (by omega) (by omega) | (subst q; omega)) | omega) (by first | assumption | omega | (subst_vars; omega) | omega) (by first | assumption | omega | (subst_vars; omega) | omega) (by first | exact tk_A_e A_181_0 (by omega) (by omega) (by omega) | exact tk_A_s A_138_0 (by omega) (by omega) (by omega) (by omega) | exact tk_A_e A_138_0 (by omega) (by omega) (by omega) | exact tk_A_0 b52 (n52 (by omega)).1 (n52 (by omega)).2 k88 (by omega) (by omega) (by omega) | omega) (by first | exact tk_N_e E_181_0 (by omega) (by omega) (by omega) | exact tk_N_e e173 (by omega) (by omega) (by omega) | omega) (by omega) (by first | exact tk_D_0 (by omega) (by omega) | exact tk_D_n (by omega) | exact tk_D_3 D_181_0 (by omega) (by omega) (by omega) (by omega) (by omega) | exact tk_D_s D_181_0 (by omega) (by omega) c227 (by omega) (by omega) (by omega) (by omega) (by omega) | omega) (by omega) (by omega)
                  ·
                    refine w_iinc (ls' := [(2, 82), (0, p138_0), (0, (p138_1 + 1))]) gz_37_167 rfl gm_37 rfl rfl rfl ⟨by omega, by omega⟩ ?_
                    refine w_goto (t := 138) gz_37_170 rfl ?_
                    have ce106 : h138_0 82 5 = p138_2 := c82_5_138_0
                    have ce107 : h138_0 82 6 = v98 := ev98.symm
                    have ce108 : h138_0 82 7 = p138_2 := c82_7_138_0
                    have ce109 : h138_0 82 8 = 0 := c82_8_138_0
                    have sg : ∀ j : Int, h138_0 92 j = h138_0 92 j := fun _ => rfl
                    exact ih_138_0 (p138_0) ((p138_1 + 1)) (p138_2) (v98) h138_0 (gh_138_0) (by omega) (by omega) (by omega) (by omega) (by omega) (by omega) (by omega) (by omega) (by omega) (by omega) (by omega) (by omega) (by omega) (by omega) (by omega) (by omega) (ev52.symm.trans (by omega)) (c82_5_138_0.trans (by omega)) (ev98.symm.trans (by omega)) (c82_7_138_0.trans (by omega)) (c82_8_138_0.trans (by omega)) (c82_9_138_0.trans (by omega)) (by omega) (by first | (intro t k a b; rw [sg]; exact dg_181_0 (by omega) k (by omega) (by omega)) | (intro t k a b; rw [sg]; exact dg_138_0 (by omega) k (by omega) (by omega)) | (intro t k a b; rw [sg, ← sg0, sgi k (by omega)]; omega) | (intro t; omega) | (intro t k a b; rw [sg]; rcases (by omega : k = p138_1 ∨ k < p138_1) with q | q <;> first | exact dg_138_0 (by omega) k (by omega) (by omega) | (subst q; omega)) | omega) (by first | assumption | omega | (subst_vars; omega) | omega) (by first | assumption | omega | (subst_vars; omega) | omega) (by first | assumption | omega | (subst_vars; omega) | omega) (by first | exact tk_A_e A_181_0 (by omega) (by omega) (by omega) | exact tk_A_s A_138_0 (by omega) (by omega) (by omega) (by omega) | exact tk_A_e A_138_0 (by omega) (by omega) (by omega) | exact tk_A_0 b52 (n52 (by omega)).1 (n52 (by omega)).2 k88 (by omega) (by omega) (by omega) | omega) (by omega) (by omega) (by omega)
              ·
                refine w_iconst gz_38_26 (by decide) ?_
                refine w_iret gz_38_27 gm_38 ?_
                show wp l rho (d + 1) 37 160 [(2, 82), (0, p138_0), (0, p138_1)] [(0, 2)] h138_0 Q
                have k160 : tk_k (h 92 p138_1) = 2 := by rw [← c157]; unfold tk_k; (repeat (first | rw [if_pos (by omega)] | rw [if_neg (by omega)]))
                refine w_aload_n gz_37_160 rfl ?_
                refine v_getI (j := 6) gz_37_161 rfl is_82 rd_5 rfl (fun v110 ev110 pv110 qv110 => ?_)
                have zv110 := ev110.trans c82_6_138_0
                refine w_icne (t := 173) gz_37_164 rfl (fun u111 => ?_) (fun u111 => ?_)
                ·
                  have e173 : tk_N (h 92) k82_4 (h138_0 82 7) p138_1 (h138_0 82 6) := ⟨fun a b => by omega, fun a => by omega⟩
                  refine w_aload_n gz_37_173 rfl ?_
                  refine w_aload_n gz_37_174 rfl ?_
                  refine v_getI (j := 7) gz_37_175 rfl is_82 rd_5 rfl (fun v112 ev112 pv112 qv112 => ?_)
                  have zv112 := ev112.trans c82_7_138_0
                  refine v_putI (j := 5) gz_37_178 rfl is_82 rd_5 rfl (by omega) (by omega) rfl (fun h113 fh113 => ?_)
                  have gh113 : my_fr [(5, 5), (5, 6), (5, 7), (5, 8)] h h113 := my_fr.up gh_138_0 is_82 fh113 rfl
                  have ce114 : h113 82 5 = v112 := (my_up_self fh113)
                  have ce115 : h113 82 6 = v110 := ((my_up_fld fh113 (by decide)).trans ev110.symm)
                  have ce116 : h113 82 7 = v112 := ((my_up_fld fh113 (by decide)).trans ev112.symm)
                  have ce117 : h113 82 8 = 0 := ((my_up_fld fh113 (by decide)).trans c82_8_138_0)
                  have sg : ∀ j : Int, h113 92 j = h138_0 92 j := fun j => ((my_up_role fh113 is_92 is_82 rfl).trans (rfl : h138_0 92 j = h138_0 92 j))
                  exact J181_0 (1001) (p138_0) (p138_1) (v112) (v110) (v112) (0) h113 (gh113) (by omega) (by omega) (by omega) (by omega) (by omega) (by omega) (by omega) (by omega) (by omega) (by omega) (by omega) (by omega) (by omega) (by omega) (by omega) (by omega) (by omega) (by omega) (by omega) (by omega) (((my_up_fld fh113 (by decide)).trans ev52.symm).trans (by omega)) ((my_up_self fh113).trans (by omega)) (((my_up_fld fh113 (by decide)).trans ev110.symm).trans (by omega)) (((my_up_fld fh113 (by decide)).trans ev112.symm).trans (by omega)) (((my_up_fld fh113 (by decide)).trans c82_8_138_0).trans (by omega)) (((my_up_fld fh113 (by decide)).trans c82_9_138_0).trans (by omega)) (by omega) (by first | (intro t k a b; rw [sg]; exact dg_181_0 (by omega) k (by omega) (by omega)) | (intro t k a b; rw [sg]; exact dg_138_0 (by omega) k (by omega) (by omega)) | (intro t k a b; rw [sg, ← sg0, sgi k (by omega)]; omega) | (intro t; omega) | (intro t k a b; rw [sg]; rcases (by omega : k = p181_1 ∨ k < p181_1) with q | q <;> first | exact dg_138_0 (by omega) k (by omega) (by omega) | (subst q; omega)) | omega) (by first | assumption | omega | (subst_vars; omega) | omega) (by first | assumption | omega | (subst_vars; omega) | omega) (by first | exact tk_A_e A_181_0 (by omega) (by omega) (by omega) | exact tk_A_s A_138_0 (by omega) (by omega) (by omega) (by omega) | exact tk_A_e A_138_0 (by omega) (by omega) (by omega) | exact tk_A_0 b52 (n52 (by omega)).1 (n52 (by omega)).2 k88 (by omega) (by omega) (by omega) | omega) (by first | exact tk_N_e E_181_0 (by omega) (by omega) (by omega) | exact tk_N_e e173 (by omega) (by omega) (by omega) | omega) (by omega) (by first | exact tk_D_0 (by omega) (by omega) | exact tk_D_n (by omega) | exact tk_D_3 D_181_0 (by omega) (by omega) (by omega) (by omega) (by omega) | exact tk_D_s D_181_0 (by omega) (by omega) c227 (by omega) (by omega) (by omega) (by omega) (by omega) | omega) (by omega) (by omega)
                ·
                  refine w_iinc (ls' := [(2, 82), (0, p138_0), (0, (p138_1 + 1))]) gz_37_167 rfl gm_37 rfl rfl rfl ⟨by omega, by omega⟩ ?_
                  refine w_goto (t := 138) gz_37_170 rfl ?_
                  have ce118 : h138_0 82 5 = p138_2 := c82_5_138_0
                  have ce119 : h138_0 82 6 = v110 := ev110.symm
                  have ce120 : h138_0 82 7 = p138_2 := c82_7_138_0
                  have ce121 : h138_0 82 8 = 0 := c82_8_138_0
                  have sg : ∀ j : Int, h138_0 92 j = h138_0 92 j := fun _ => rfl
                  exact ih_138_0 (p138_0) ((p138_1 + 1)) (p138_2) (v110) h138_0 (gh_138_0) (by omega) (by omega) (by omega) (by omega) (by omega) (by omega) (by omega) (by omega) (by omega) (by omega) (by omega) (by omega) (by omega) (by omega) (by omega) (by omega) (ev52.symm.trans (by omega)) (c82_5_138_0.trans (by omega)) (ev110.symm.trans (by omega)) (c82_7_138_0.trans (by omega)) (c82_8_138_0.trans (by omega)) (c82_9_138_0.trans (by omega)) (by omega) (by first | (intro t k a b; rw [sg]; exact dg_181_0 (by omega) k (by omega) (by omega)) | (intro t k a b; rw [sg]; exact dg_138_0 (by omega) k (by omega) (by omega)) | (intro t k a b; rw [sg, ← sg0, sgi k (by omega)]; omega) | (intro t; omega) | (intro t k a b; rw [sg]; rcases (by omega : k = p138_1 ∨ k < p138_1) with q | q <;> first | exact dg_138_0 (by omega) k (by omega) (by omega) | (subst q; omega)) | omega) (by first | assumption | omega | (subst_vars; omega) | omega) (by first | assumption | omega | (subst_vars; omega) | omega) (by first | assumption | omega | (subst_vars; omega) | omega) (by first | exact tk_A_e A_181_0 (by omega) (by omega) (by omega) | exact tk_A_s A_138_0 (by omega) (by omega) (by omega) (by omega) | exact tk_A_e A_138_0 (by omega) (by omega) (by omega) | exact tk_A_0 b52 (n52 (by omega)).1 (n52 (by omega)).2 k88 (by omega) (by omega) (by omega) | omega) (by omega) (by omega) (by omega)
          ·
            refine w_iload_n gz_38_6 rfl ?_
            refine w_bipush gz_38_7 (by decide) ?_
            refine w_icgt (t := 14) gz_38_9 rfl (fun u122 => ?_) (fun u122 => ?_)
            ·
              refine w_iload_n gz_38_14 rfl ?_
              refine w_bipush gz_38_15 (by decide) ?_
              refine w_iclt (t := 28) gz_38_17 rfl (fun u123 => by exfalso; omega) (fun u123 => ?_)
              refine w_iload_n gz_38_20 rfl ?_
              refine w_bipush gz_38_21 (by decide) ?_
              refine w_icgt (t := 28) gz_38_23 rfl (fun u124 => ?_) (fun u124 => by exfalso; omega)
              refine w_iload_n gz_38_28 rfl ?_
              refine w_bipush gz_38_29 (by decide) ?_
              refine w_icne (t := 38) gz_38_31 rfl (fun u125 => ?_) (fun u125 => by exfalso; omega)
              refine w_iconst gz_38_38 (by decide) ?_
              refine w_iret gz_38_39 gm_38 ?_
              show wp l rho (d + 1) 37 160 [(2, 82), (0, p138_0), (0, p138_1)] [(0, 4)] h138_0 Q
              have k160 : tk_k (h 92 p138_1) = 4 := by rw [← c157]; unfold tk_k; (repeat (first | rw [if_pos (by omega)] | rw [if_neg (by omega)]))
              refine w_aload_n gz_37_160 rfl ?_
              refine v_getI (j := 6) gz_37_161 rfl is_82 rd_5 rfl (fun v126 ev126 pv126 qv126 => ?_)
              have zv126 := ev126.trans c82_6_138_0
              refine w_icne (t := 173) gz_37_164 rfl (fun u127 => ?_) (fun u127 => ?_)
              ·
                have e173 : tk_N (h 92) k82_4 (h138_0 82 7) p138_1 (h138_0 82 6) := ⟨fun a b => by omega, fun a => by omega⟩
                refine w_aload_n gz_37_173 rfl ?_
                refine w_aload_n gz_37_174 rfl ?_
                refine v_getI (j := 7) gz_37_175 rfl is_82 rd_5 rfl (fun v128 ev128 pv128 qv128 => ?_)
                have zv128 := ev128.trans c82_7_138_0
                refine v_putI (j := 5) gz_37_178 rfl is_82 rd_5 rfl (by omega) (by omega) rfl (fun h129 fh129 => ?_)
                have gh129 : my_fr [(5, 5), (5, 6), (5, 7), (5, 8)] h h129 := my_fr.up gh_138_0 is_82 fh129 rfl
                have ce130 : h129 82 5 = v128 := (my_up_self fh129)
                have ce131 : h129 82 6 = v126 := ((my_up_fld fh129 (by decide)).trans ev126.symm)
                have ce132 : h129 82 7 = v128 := ((my_up_fld fh129 (by decide)).trans ev128.symm)
                have ce133 : h129 82 8 = 0 := ((my_up_fld fh129 (by decide)).trans c82_8_138_0)
                have sg : ∀ j : Int, h129 92 j = h138_0 92 j := fun j => ((my_up_role fh129 is_92 is_82 rfl).trans (rfl : h138_0 92 j = h138_0 92 j))
                exact J181_0 (1001) (p138_0) (p138_1) (v128) (v126) (v128) (0) h129 (gh129) (by omega) (by omega) (by omega) (by omega) (by omega) (by omega) (by omega) (by omega) (by omega) (by omega) (by omega) (by omega) (by omega) (by omega) (by omega) (by omega) (by omega) (by omega) (by omega) (by omega) (((my_up_fld fh129 (by decide)).trans ev52.symm).trans (by omega)) ((my_up_self fh129).trans (by omega)) (((my_up_fld fh129 (by decide)).trans ev126.symm).trans (by omega)) (((my_up_fld fh129 (by decide)).trans ev128.symm).trans (by omega)) (((my_up_fld fh129 (by decide)).trans c82_8_138_0).trans (by omega)) (((my_up_fld fh129 (by decide)).trans c82_9_138_0).trans (by omega)) (by omega) (by first | (intro t k a b; rw [sg]; exact dg_181_0 (by omega) k (by omega) (by omega)) | (intro t k a b; rw [sg]; exact dg_138_0 (by omega) k (by omega) (by omega)) | (intro t k a b; rw [sg, ← sg0, sgi k (by omega)]; omega) | (intro t; omega) | (intro t k a b; rw [sg]; rcases (by omega : k = p181_1 ∨ k < p181_1) with q | q <;> first | exact dg_138_0 (by omega) k (by omega) (by omega) | (subst q; omega)) | omega) (by first | assumption | omega | (subst_vars; omega) | omega) (by first | assumption | omega | (subst_vars; omega) | omega) (by first | exact tk_A_e A_181_0 (by omega) (by omega) (by omega) | exact tk_A_s A_138_0 (by omega) (by omega) (by omega) (by omega) | exact tk_A_e A_138_0 (by omega) (by omega) (by omega) | exact tk_A_0 b52 (n52 (by omega)).1 (n52 (by omega)).2 k88 (by omega) (by omega) (by omega) | omega) (by first | exact tk_N_e E_181_0 (by omega) (by omega) (by omega) | exact tk_N_e e173 (by omega) (by omega) (by omega) | omega) (by omega) (by first | exact tk_D_0 (by omega) (by omega) | exact tk_D_n (by omega) | exact tk_D_3 D_181_0 (by omega) (by omega) (by omega) (by omega) (by omega) | exact tk_D_s D_181_0 (by omega) (by omega) c227 (by omega) (by omega) (by omega) (by omega) (by omega) | omega) (by omega) (by omega)
              ·
                refine w_iinc (ls' := [(2, 82), (0, p138_0), (0, (p138_1 + 1))]) gz_37_167 rfl gm_37 rfl rfl rfl ⟨by omega, by omega⟩ ?_
                refine w_goto (t := 138) gz_37_170 rfl ?_
                have ce134 : h138_0 82 5 = p138_2 := c82_5_138_0
                have ce135 : h138_0 82 6 = v126 := ev126.symm
                have ce136 : h138_0 82 7 = p138_2 := c82_7_138_0
                have ce137 : h138_0 82 8 = 0 := c82_8_138_0
                have sg : ∀ j : Int, h138_0 92 j = h138_0 92 j := fun _ => rfl
                exact ih_138_0 (p138_0) ((p138_1 + 1)) (p138_2) (v126) h138_0 (gh_138_0) (by omega) (by omega) (by omega) (by omega) (by omega) (by omega) (by omega) (by omega) (by omega) (by omega) (by omega) (by omega) (by omega) (by omega) (by omega) (by omega) (ev52.symm.trans (by omega)) (c82_5_138_0.trans (by omega)) (ev126.symm.trans (by omega)) (c82_7_138_0.trans (by omega)) (c82_8_138_0.trans (by omega)) (c82_9_138_0.trans (by omega)) (by omega) (by first | (intro t k a b; rw [sg]; exact dg_181_0 (by omega) k (by omega) (by omega)) | (intro t k a b; rw [sg]; exact dg_138_0 (by omega) k (by omega) (by omega)) | (intro t k a b; rw [sg, ← sg0, sgi k (by omega)]; omega) | (intro t; omega) | (intro t k a b; rw [sg]; rcases (by omega : k = p138_1 ∨ k < p138_1) with q | q <;> first | exact dg_138_0 (by omega) k (by omega) (by omega) | (subst q; omega)) | omega) (by first | assumption | omega | (subst_vars; omega) | omega) (by first | assumption | omega | (subst_vars; omega) | omega) (by first | assumption | omega | (subst_vars; omega) | omega) (by first | exact tk_A_e A_181_0 (by omega) (by omega) (by omega) | exact tk_A_s A_138_0 (by omega) (by omega) (by omega) (by omega) | exact tk_A_e A_138_0 (by omega) (by omega) (by omega) | exact tk_A_0 b52 (n52 (by omega)).1 (n52 (by omega)).2 k88 (by omega) (by omega) (by omega) | omega) (by omega) (by omega) (by omega)
            ·
              refine w_iconst gz_38_12 (by decide) ?_
              refine w_iret gz_38_13 gm_38 ?_
              show wp l rho (d + 1) 37 160 [(2, 82), (0, p138_0), (0, p138_1)] [(0, 1)] h138_0 Q
              have k160 : tk_k (h 92 p138_1) = 1 := by rw [← c157]; unfold tk_k; (repeat (first | rw [if_pos (by omega)] | rw [if_neg (by omega)]))
              refine w_aload_n gz_37_160 rfl ?_
              refine v_getI (j := 6) gz_37_161 rfl is_82 rd_5 rfl (fun v138 ev138 pv138 qv138 => ?_)
              have zv138 := ev138.trans c82_6_138_0
              refine w_icne (t := 173) gz_37_164 rfl (fun u139 => ?_) (fun u139 => ?_)
              ·
                have e173 : tk_N (h 92) k82_4 (h138_0 82 7) p138_1 (h138_0 82 6) := ⟨fun a b => by omega, fun a => by omega⟩
                refine w_aload_n gz_37_173 rfl ?_
                refine w_aload_n gz_37_174 rfl ?_
                refine v_getI (j := 7) gz_37_175 rfl is_82 rd_5 rfl (fun v140 ev140 pv140 qv140 => ?_)
                have zv140 := ev140.trans c82_7_138_0
                refine v_putI (j := 5) gz_37_178 rfl is_82 rd_5 rfl (by omega) (by omega) rfl (fun h141 fh141 => ?_)
                have gh141 : my_fr [(5, 5), (5, 6), (5, 7), (5, 8)] h h141 := my_fr.up gh_138_0 is_82 fh141 rfl
                have ce142 : h141 82 5 = v140 := (my_up_self fh141)
                have ce143 : h141 82 6 = v138 := ((my_up_fld fh141 (by decide)).trans ev138.symm)
                have ce144 : h141 82 7 = v140 := ((my_up_fld fh141 (by decide)).trans ev140.symm)
                have ce145 : h141 82 8 = 0 := ((my_up_fld fh141 (by decide)).trans c82_8_138_0)
                have sg : ∀ j : Int, h141 92 j = h138_0 92 j := fun j => ((my_up_role fh141 is_92 is_82 rfl).trans (rfl : h138_0 92 j = h138_0 92 j))
                exact J181_0 (1001) (p138_0) (p138_1) (v140) (v138) (v140) (0) h141 (gh141) (by omega) (by omega) (by omega) (by omega) (by omega) (by omega) (by omega) (by omega) (by omega) (by omega) (by omega) (by omega) (by omega) (by omega) (by omega) (by omega) (by omega) (by omega) (by omega) (by omega) (((my_up_fld fh141 (by decide)).trans ev52.symm).trans (by omega)) ((my_up_self fh141).trans (by omega)) (((my_up_fld fh141 (by decide)).trans ev138.symm).trans (by omega)) (((my_up_fld fh141 (by decide)).trans ev140.symm).trans (by omega)) (((my_up_fld fh141 (by decide)).trans c82_8_138_0).trans (by omega)) (((my_up_fld fh141 (by decide)).trans c82_9_138_0).trans (by omega)) (by omega) (by first | (intro t k a b; rw [sg]; exact dg_181_0 (by omega) k (by omega) (by omega)) | (intro t k a b; rw [sg]; exact dg_138_0 (by omega) k (by omega) (by omega)) | (intro t k a b; rw [sg, ← sg0, sgi k (by omega)]; omega) | (intro t; omega) | (intro t k a b; rw [sg]; rcases (by omega : k = p181_1 ∨ k < p181_1) with q | q <;> first | exact dg_138_0 (by omega) k (by omega) (by omega) | (subst q; omega)) | omega) (by first | assumption | omega | (subst_vars; omega) | omega) (by first | assumption | omega | (subst_vars; omega) | omega) (by first | exact tk_A_e A_181_0 (by omega) (by omega) (by omega) | exact tk_A_s A_138_0 (by omega) (by omega) (by omega) (by omega) | exact tk_A_e A_138_0 (by omega) (by omega) (by omega) | exact tk_A_0 b52 (n52 (by omega)).1 (n52 (by omega)).2 k88 (by omega) (by omega) (by omega) | omega) (by first | exact tk_N_e E_181_0 (by omega) (by omega) (by omega) | exact tk_N_e e173 (by omega) (by omega) (by omega) | omega) (by omega) (by first | exact tk_D_0 (by omega) (by omega) | exact tk_D_n (by omega) | exact tk_D_3 D_181_0 (by omega) (by omega) (by omega) (by omega) (by omega) | exact tk_D_s D_181_0 (by omega) (by omega) c227 (by omega) (by omega) (by omega) (by omega) (by omega) | omega) (by omega) (by omega)
              ·
                refine w_iinc (ls' := [(2, 82), (0, p138_0), (0, (p138_1 + 1))]) gz_37_167 rfl gm_37 rfl rfl rfl ⟨by omega, by omega⟩ ?_
                refine w_goto (t := 138) gz_37_170 rfl ?_
                have ce146 : h138_0 82 5 = p138_2 := c82_5_138_0
                have ce147 : h138_0 82 6 = v138 := ev138.symm
                have ce148 : h138_0 82 7 = p138_2 := c82_7_138_0
                have ce149 : h138_0 82 8 = 0 := c82_8_138_0
                have sg : ∀ j : Int, h138_0 92 j = h138_0 92 j := fun _ => rfl
                exact ih_138_0 (p138_0) ((p138_1 + 1)) (p138_2) (v138) h138_0 (gh_138_0) (by omega) (by omega) (by omega) (by omega) (by omega) (by omega) (by omega) (by omega) (by omega) (by omega) (by omega) (by omega) (by omega) (by omega) (by omega) (by omega) (ev52.symm.trans (by omega)) (c82_5_138_0.trans (by omega)) (ev138.symm.trans (by omega)) (c82_7_138_0.trans (by omega)) (c82_8_138_0.trans (by omega)) (c82_9_138_0.trans (by omega)) (by omega) (by first | (intro t k a b; rw [sg]; exact dg_181_0 (by omega) k (by omega) (by omega)) | (intro t k a b; rw [sg]; exact dg_138_0 (by omega) k (by omega) (by omega)) | (intro t k a b; rw [sg, ← sg0, sgi k (by omega)]; omega) | (intro t; omega) | (intro t k a b; rw [sg]; rcases (by omega : k = p138_1 ∨ k < p138_1) with q | q <;> first | exact dg_138_0 (by omega) k (by omega) (by omega) | (subst q; omega)) | omega) (by first | assumption | omega | (subst_vars; omega) | omega) (by first | assumption | omega | (subst_vars; omega) | omega) (by first | assumption | omega | (subst_vars; omega) | omega) (by first | exact tk_A_e A_181_0 (by omega) (by omega) (by omega) | exact tk_A_s A_138_0 (by omega) (by omega) (by omega) (by omega) | exact tk_A_e A_138_0 (by omega) (by omega) (by omega) | exact tk_A_0 b52 (n52 (by omega)).1 (n52 (by omega)).2 k88 (by omega) (by omega) (by omega) | omega) (by omega) (by omega) (by omega)
  have J0_0 : ∀ (n : Nat) (p0_0 : Int) (h0_0 : my_H), my_fr [(5, 5), (5, 6), (5, 7), (5, 8)] h h0_0 → 1 ≤ k82_4 → 1 ≤ p0_0 → p0_0 ≤ 1000 → k82_5 ≤ 999 → p0_0 ≤ k82_4 → k82_5 ≤ (p0_0 - 1) → k82_5 ≤ (k82_4 - 1) → h0_0 82 4 = k82_4 → h0_0 82 5 = p0_0 → h0_0 82 9 = 0 → (∀ i : Int, h 82 5 ≤ i → i < h0_0 82 5 → h 92 i = 10 ∨ h 92 i = 32) → 1001 - h0_0 82 5 ≤ (n : Int) → wp l rho (d + 1) 37 0 [(2, 82), (9, 0), (9, 0)] [] h0_0 Q := by
    intro n
    induction n with
    | zero => intro p0_0 h0_0 gh_0_0 q0_0_0 q1_0_0 q2_0_0 q3_0_0 q4_0_0 q5_0_0 q6_0_0 c82_4_0_0 c82_5_0_0 c82_9_0_0 bl_0_0 hm_0_0; exfalso; omega
    | succ n ih_0_0 =>
      intro p0_0 h0_0 gh_0_0 q0_0_0 q1_0_0 q2_0_0 q3_0_0 q4_0_0 q5_0_0 q6_0_0 c82_4_0_0 c82_5_0_0 c82_9_0_0 bl_0_0 hm_0_0
      refine w_aload_n gz_37_0 rfl ?_
      refine v_getI (j := 5) gz_37_1 rfl is_82 rd_5 rfl (fun v150 ev150 pv150 qv150 => ?_)
      have zv150 := ev150.trans c82_5_0_0
      refine w_aload_n gz_37_4 rfl ?_
      refine v_getI (j := 4) gz_37_5 rfl is_82 rd_5 rfl (fun v151 ev151 pv151 qv151 => ?_)
      have zv151 := ev151.trans c82_4_0_0
      refine w_icge (t := 52) gz_37_8 rfl (fun u152 => ?_) (fun u152 => ?_)
      ·
        obtain ⟨st, est⟩ : ∃ z : Int, z = h0_0 82 5 := ⟨_, rfl⟩
        have b52 : ∀ i : Int, h 82 5 ≤ i → i < st → h 92 i = 10 ∨ h 92 i = 32 := by first | (intro i a b; exact bl_0_0 i a (by omega)) | (intro i a b; omega)
        have n52 : st < h0_0 82 4 → h 92 st ≠ 10 ∧ h 92 st ≠ 32 := by rw [est]; intro q; omega
        refine w_aload_n gz_37_52 rfl ?_
        refine w_aload_n gz_37_53 rfl ?_
        refine v_getI (j := 5) gz_37_54 rfl is_82 rd_5 rfl (fun v153 ev153 pv153 qv153 => ?_)
        have zv153 := ev153.trans ev150.symm
        refine v_putI (j := 7) gz_37_57 rfl is_82 rd_5 rfl (by omega) (by omega) rfl (fun h154 fh154 => ?_)
        have gh154 : my_fr [(5, 5), (5, 6), (5, 7), (5, 8)] h h154 := my_fr.up gh_0_0 is_82 fh154 rfl
        refine w_aload_n gz_37_60 rfl ?_
        refine w_aload_n gz_37_61 rfl ?_
        refine v_getI (j := 5) gz_37_62 rfl is_82 rd_5 rfl (fun v155 ev155 pv155 qv155 => ?_)
        have zv155 := ev155.trans ((my_up_fld fh154 (by decide)).trans ev153.symm)
        refine w_aload_n gz_37_65 rfl ?_
        refine v_getI (j := 4) gz_37_66 rfl is_82 rd_5 rfl (fun v156 ev156 pv156 qv156 => ?_)
        have zv156 := ev156.trans ((my_up_fld fh154 (by decide)).trans ev151.symm)
        refine w_icge (t := 87) gz_37_69 rfl (fun u157 => ?_) (fun u157 => by exfalso; omega)
        refine w_iconst gz_37_87 (by decide) ?_
        refine v_putI (j := 6) gz_37_88 rfl is_82 rd_5 rfl (by omega) (by omega) rfl (fun h158 fh158 => ?_)
        have gh158 : my_fr [(5, 5), (5, 6), (5, 7), (5, 8)] h h158 := my_fr.up gh154 is_82 fh158 rfl
        refine w_aload_n gz_37_91 rfl ?_
        refine v_getI (j := 6) gz_37_92 rfl is_82 rd_5 rfl (fun v159 ev159 pv159 qv159 => ?_)
        have zv159 := ev159.trans (my_up_self fh158)
        refine w_ifne (t := 99) gz_37_95 rfl (fun u160 => by exfalso; omega) (fun u160 => ?_)
        have ce161 : h158 82 4 = v156 := ((my_up_fld fh158 (by decide)).trans ev156.symm)
        have ce162 : h158 82 5 = v155 := ((my_up_fld fh158 (by decide)).trans ev155.symm)
        have ce163 : h158 82 6 = v159 := ev159.symm
        have ce164 : h158 82 7 = v153 := ((my_up_fld fh158 (by decide)).trans (my_up_self fh154))
        have ce165 : h158 82 8 = h0_0 82 8 := ((my_up_fld fh158 (by decide)).trans ((my_up_fld fh154 (by decide)).trans (rfl : h0_0 82 8 = h0_0 82 8)))
        have Al_h158t166 : Al h158 := by unfold Al; omega
        have c167 := ev159.symm
        have c168 := ((my_up_fld fh158 (by decide)).trans ((my_up_fld fh154 (by decide)).trans c82_9_0_0))
        exact w_vret gz_37_98 gm_37 (k0 h158 (gh158) (by omega) (by omega) (by omega) (by first | exact tk_end b52 (by omega) (by omega) (by omega) (by omega) (by omega) | exact tk_fin A_181_0 E_181_0 D_181_0 (by omega) (by omega) (by omega) (by omega) (by omega) (by omega) (by omega) (by omega) (by omega) | omega) Al_h158t166)
      ·
        refine w_aload_n gz_37_11 rfl ?_
        refine w_getX (v := 92) gz_37_12 is_82 rd_5 rfl (by decide) rfl ?_
        refine w_aload_n gz_37_15 rfl ?_
        refine v_getI (j := 5) gz_37_16 rfl is_82 rd_5 rfl (fun v170 ev170 pv170 qv170 => ?_)
        have zv170 := ev170.trans ev150.symm
        refine w_yald gz_37_19 is_92 rd_40 (by omega) (by omega) (fun v171 ev171 pv171 qv171 => ?_)
        have c20 : v171 = h 92 (h0_0 82 5) := by
          have z : h0_0 92 v170 = h 92 v170 := by first | rfl | exact my_fr.at gh_0_0 is_92 rfl
          rw [show (h0_0 82 5) = v170 by omega]
          omega
        refine w_bipush gz_37_20 (by decide) ?_
        refine w_iceq (t := 39) gz_37_22 rfl (fun u172 => ?_) (fun u172 => ?_)
        ·
          refine w_aload_n gz_37_39 rfl ?_
          refine w_dup gz_37_40 rfl ?_
          refine v_getI (j := 5) gz_37_41 rfl is_82 rd_5 rfl (fun v173 ev173 pv173 qv173 => ?_)
          have zv173 := ev173.trans ev170.symm
          refine w_iconst gz_37_44 (by decide) ?_
          refine w_iadd gz_37_45 ⟨by omega, by omega⟩ ?_
          refine v_putI (j := 5) gz_37_46 rfl is_82 rd_5 rfl (by omega) (by omega) rfl (fun h174 fh174 => ?_)
          have gh174 : my_fr [(5, 5), (5, 6), (5, 7), (5, 8)] h h174 := my_fr.up gh_0_0 is_82 fh174 rfl
          have b46 : ∀ i : Int, h 82 5 ≤ i → i < h174 82 5 → h 92 i = 10 ∨ h 92 i = 32 := by
            have z := my_up_self fh174
            intro i a b
            rcases (by omega : i = h0_0 82 5 ∨ i < h0_0 82 5) with q | q
            · rw [q]; omega
            · first | exact bl_0_0 i a q | omega
          refine w_goto (t := 0) gz_37_49 rfl ?_
          have ce175 : h174 82 5 = (v173 + 1) := (my_up_self fh174)
          exact ih_0_0 ((v173 + 1)) h174 (gh174) (by omega) (by omega) (by omega) (by omega) (by omega) (by omega) (by omega) (((my_up_fld fh174 (by decide)).trans ev151.symm).trans (by omega)) ((my_up_self fh174).trans (by omega)) (((my_up_fld fh174 (by decide)).trans c82_9_0_0).trans (by omega)) (b46) (by omega)
        ·
          refine w_aload_n gz_37_25 rfl ?_
          refine w_getX (v := 92) gz_37_26 is_82 rd_5 rfl (by decide) rfl ?_
          refine w_aload_n gz_37_29 rfl ?_
          refine v_getI (j := 5) gz_37_30 rfl is_82 rd_5 rfl (fun v177 ev177 pv177 qv177 => ?_)
          have zv177 := ev177.trans ev170.symm
          refine w_yald gz_37_33 is_92 rd_40 (by omega) (by omega) (fun v178 ev178 pv178 qv178 => ?_)
          have wv178 : v177 = v170 := by omega
          rw [wv178] at ev178
          have zv178 := ev178.trans ev171.symm
          have c34 : v178 = h 92 (h0_0 82 5) := by
            have z : h0_0 92 v170 = h 92 v170 := by first | rfl | exact my_fr.at gh_0_0 is_92 rfl
            rw [show (h0_0 82 5) = v170 by omega]
            omega
          refine w_bipush gz_37_34 (by decide) ?_
          refine w_icne (t := 52) gz_37_36 rfl (fun u179 => ?_) (fun u179 => ?_)
          ·
            obtain ⟨st, est⟩ : ∃ z : Int, z = h0_0 82 5 := ⟨_, rfl⟩
            have b52 : ∀ i : Int, h 82 5 ≤ i → i < st → h 92 i = 10 ∨ h 92 i = 32 := by first | (intro i a b; exact bl_0_0 i a (by omega)) | (intro i a b; omega)
            have n52 : st < h0_0 82 4 → h 92 st ≠ 10 ∧ h 92 st ≠ 32 := by rw [est]; intro q; omega
            refine w_aload_n gz_37_52 rfl ?_
            refine w_aload_n gz_37_53 rfl ?_
            refine v_getI (j := 5) gz_37_54 rfl is_82 rd_5 rfl (fun v180 ev180 pv180 qv180 => ?_)
            have zv180 := ev180.trans ev177.symm
            refine v_putI (j := 7) gz_37_57 rfl is_82 rd_5 rfl (by omega) (by omega) rfl (fun h181 fh181 => ?_)
            have gh181 : my_fr [(5, 5), (5, 6), (5, 7), (5, 8)] h h181 := my_fr.up gh_0_0 is_82 fh181 rfl
            refine w_aload_n gz_37_60 rfl ?_
            refine w_aload_n gz_37_61 rfl ?_
            refine v_getI (j := 5) gz_37_62 rfl is_82 rd_5 rfl (fun v182 ev182 pv182 qv182 => ?_)
            have zv182 := ev182.trans ((my_up_fld fh181 (by decide)).trans ev180.symm)
            refine w_aload_n gz_37_65 rfl ?_
            refine v_getI (j := 4) gz_37_66 rfl is_82 rd_5 rfl (fun v183 ev183 pv183 qv183 => ?_)
            have zv183 := ev183.trans ((my_up_fld fh181 (by decide)).trans ev151.symm)
            refine w_icge (t := 87) gz_37_69 rfl (fun u184 => by exfalso; omega) (fun u184 => ?_)
            refine w_aload_n gz_37_72 rfl ?_
            refine w_getX (v := 92) gz_37_73 is_82 rd_5 rfl (by decide) rfl ?_
            refine w_aload_n gz_37_76 rfl ?_
            refine v_getI (j := 5) gz_37_77 rfl is_82 rd_5 rfl (fun v186 ev186 pv186 qv186 => ?_)
            have zv186 := ev186.trans ev182.symm
            have sg0 : ∀ j : Int, h181 92 j = h0_0 92 j := fun j => ((my_up_role fh181 is_92 is_82 rfl).trans (rfl : h0_0 92 j = h0_0 92 j))
            refine w_yald gz_37_80 is_92 rd_40 (by omega) (by omega) (fun v187 ev187 pv187 qv187 => ?_)
            have wv187 : v186 = v170 := by omega
            rw [wv187] at ev187
            have zv187 := ev187.trans ((my_up_role fh181 is_92 is_82 rfl).trans ev178.symm)
            have sgi : ∀ k : Int, k = v170 → h181 92 k = v187 := fun k q => by rw [q]; omega
            have c81 : v187 = h 92 st := by
              have z : h181 92 v170 = h 92 v170 := by first | rfl | exact my_fr.at gh181 is_92 rfl
              rw [show st = v170 by omega]
              omega
            refine w_inS (k := 0) (as := [(0, v187)]) (r := [(2, 82)]) (ls0 := [(0, v187)]) gz_37_81 gm_38 rfl rfl rfl rfl rfl rfl ?_
            refine w_iload_n gz_38_0 rfl ?_
            refine w_bipush gz_38_1 (by decide) ?_
            refine w_iclt (t := 14) gz_38_3 rfl (fun u188 => ?_) (fun u188 => ?_)
            ·
              refine w_iload_n gz_38_14 rfl ?_
              refine w_bipush gz_38_15 (by decide) ?_
              refine w_iclt (t := 28) gz_38_17 rfl (fun u189 => ?_) (fun u189 => ?_)
              ·
                refine w_iload_n gz_38_28 rfl ?_
                refine w_bipush gz_38_29 (by decide) ?_
                refine w_icne (t := 38) gz_38_31 rfl (fun u190 => ?_) (fun u190 => by exfalso; omega)
                refine w_iconst gz_38_38 (by decide) ?_
                refine w_iret gz_38_39 gm_38 ?_
                show wp l rho (d + 1) 37 84 [(2, 82), (9, 0), (9, 0)] [(0, 4), (2, 82)] h181 Q
                refine w_goto (t := 88) gz_37_84 rfl ?_
                have k88 : tk_k (h 92 st) = 4 := by rw [← c81]; unfold tk_k; (repeat (first | rw [if_pos (by omega)] | rw [if_neg (by omega)]))
                refine v_putI (j := 6) gz_37_88 rfl is_82 rd_5 rfl (by omega) (by omega) rfl (fun h191 fh191 => ?_)
                have gh191 : my_fr [(5, 5), (5, 6), (5, 7), (5, 8)] h h191 := my_fr.up gh181 is_82 fh191 rfl
                refine w_aload_n gz_37_91 rfl ?_
                refine v_getI (j := 6) gz_37_92 rfl is_82 rd_5 rfl (fun v192 ev192 pv192 qv192 => ?_)
                have zv192 := ev192.trans (my_up_self fh191)
                refine w_ifne (t := 99) gz_37_95 rfl (fun u193 => ?_) (fun u193 => by exfalso; omega)
                refine w_aload_n gz_37_99 rfl ?_
                refine w_iconst gz_37_100 (by decide) ?_
                refine v_putI (j := 8) gz_37_101 rfl is_82 rd_5 rfl (by omega) (by omega) rfl (fun h194 fh194 => ?_)
                have gh194 : my_fr [(5, 5), (5, 6), (5, 7), (5, 8)] h h194 := my_fr.up gh191 is_82 fh194 rfl
                refine w_aload_n gz_37_104 rfl ?_
                refine v_getI (j := 6) gz_37_105 rfl is_82 rd_5 rfl (fun v195 ev195 pv195 qv195 => ?_)
                have zv195 := ev195.trans ((my_up_fld fh194 (by decide)).trans ev192.symm)
                refine w_iconst gz_37_108 (by decide) ?_
                refine w_icne (t := 117) gz_37_109 rfl (fun u196 => ?_) (fun u196 => by exfalso; omega)
                refine w_aload_n gz_37_117 rfl ?_
                refine v_getI (j := 6) gz_37_118 rfl is_82 rd_5 rfl (fun v197 ev197 pv197 qv197 => ?_)
                have zv197 := ev197.trans ev195.symm
                refine w_iconst gz_37_121 (by decide) ?_
                refine w_icne (t := 129) gz_37_122 rfl (fun u198 => ?_) (fun u198 => by exfalso; omega)
                refine w_iconst gz_37_129 (by decide) ?_
                refine w_istore_n (ls' := [(2, 82), (0, 1), (9, 0)]) gz_37_130 gm_37 rfl rfl rfl ?_
                refine w_aload_n gz_37_131 rfl ?_
                refine v_getI (j := 7) gz_37_132 rfl is_82 rd_5 rfl (fun v199 ev199 pv199 qv199 => ?_)
                have zv199 := ev199.trans ((my_up_fld fh194 (by decide)).trans ((my_up_fld fh191 (by decide)).trans (my_up_self fh181)))
                refine w_iconst gz_37_135 (by decide) ?_
                refine w_iadd gz_37_136 ⟨by omega, by omega⟩ ?_
                refine w_istore_n (ls' := [(2, 82), (0, 1), (0, (v199 + 1))]) gz_37_137 gm_37 rfl rfl rfl ?_
                have ce200 : h194 82 5 = v186 := ((my_up_fld fh194 (by decide)).trans ((my_up_fld fh191 (by decide)).trans ev186.symm))
                have ce201 : h194 82 6 = v197 := ev197.symm
                have ce202 : h194 82 7 = v199 := ev199.symm
                have ce203 : h194 82 8 = 0 := (my_up_self fh194)
                have sg : ∀ j : Int, h194 92 j = h0_0 92 j := fun j => ((my_up_role fh194 is_92 is_82 rfl).trans ((my_up_role fh191 is_92 is_82 rfl).trans ((my_up_role fh181 is_92 is_82 rfl).trans (rfl : h0_0 92 j = h0_0 92 j))))
                exact J138_0 (1001) (1) ((v199 + 1)) (v186) (v197) h194 (gh194) (by omega) (by omega) (by omega) (by omega) (by omega) (by omega) (by omega) (by omega) (by omega) (by omega) (by omega) (by omega) (by omega) (by omega) (by omega) (by omega) (((my_up_fld fh194 (by decide)).trans ((my_up_fld fh191 (by decide)).trans ev183.symm)).trans (by omega)) (((my_up_fld fh194 (by decide)).trans ((my_up_fld fh191 (by decide)).trans ev186.symm)).trans (by omega)) (ev197.symm.trans (by omega)) (ev199.symm.trans (by omega)) ((my_up_self fh194).trans (by omega)) (((my_up_fld fh194 (by decide)).trans ((my_up_fld fh191 (by decide)).trans ((my_up_fld fh181 (by decide)).trans c82_9_0_0))).trans (by omega)) (by omega) (by first | (intro t k a b; rw [sg]; exact dg_181_0 (by omega) k (by omega) (by omega)) | (intro t k a b; rw [sg]; exact dg_138_0 (by omega) k (by omega) (by omega)) | (intro t k a b; rw [sg, ← sg0, sgi k (by omega)]; omega) | (intro t; omega) | (intro t k a b; rw [sg]; rcases (by omega : k = p138_1 ∨ k < p138_1) with q | q <;> first | exact dg_138_0 (by omega) k (by omega) (by omega) | (subst q; omega)) | omega) (by first | assumption | omega | (subst_vars; omega) | omega) (by first | assumption | omega | (subst_vars; omega) | omega) (by first | assumption | omega | (subst_vars; omega) | omega) (by first | exact tk_A_e A_181_0 (by omega) (by omega) (by omega) | exact tk_A_s A_138_0 (by omega) (by omega) (by omega) (by omega) | exact tk_A_e A_138_0 (by omega) (by omega) (by omega) | exact tk_A_0 b52 (n52 (by omega)).1 (n52 (by omega)).2 k88 (by omega) (by omega) (by omega) | omega) (by omega) (by omega) (by omega)
              ·
                refine w_iload_n gz_38_20 rfl ?_
                refine w_bipush gz_38_21 (by decide) ?_
                refine w_icgt (t := 28) gz_38_23 rfl (fun u204 => ?_) (fun u204 => ?_)
                ·
                  refine w_iload_n gz_38_28 rfl ?_
                  refine w_bipush gz_38_29 (by decide) ?_
                  refine w_icne (t := 38) gz_38_31 rfl (fun u205 => ?_) (fun u205 => ?_)
                  ·
                    refine w_iconst gz_38_38 (by decide) ?_
                    refine w_iret gz_38_39 gm_38 ?_
                    show wp l rho (d + 1) 37 84 [(2, 82), (9, 0), (9, 0)] [(0, 4), (2, 82)] h181 Q
                    refine w_goto (t := 88) gz_37_84 rfl ?_
                    have k88 : tk_k (h 92 st) = 4 := by rw [← c81]; unfold tk_k; (repeat (first | rw [if_pos (by omega)] | rw [if_neg (by omega)]))
                    refine v_putI (j := 6) gz_37_88 rfl is_82 rd_5 rfl (by omega) (by omega) rfl (fun h206 fh206 => ?_)
                    have gh206 : my_fr [(5, 5), (5, 6), (5, 7), (5, 8)] h h206 := my_fr.up gh181 is_82 fh206 rfl
                    refine w_aload_n gz_37_91 rfl ?_
                    refine v_getI (j := 6) gz_37_92 rfl is_82 rd_5 rfl (fun v207 ev207 pv207 qv207 => ?_)
                    have zv207 := ev207.trans (my_up_self fh206)
                    refine w_ifne (t := 99) gz_37_95 rfl (fun u208 => ?_) (fun u208 => by exfalso; omega)
                    refine w_aload_n gz_37_99 rfl ?_
                    refine w_iconst gz_37_100 (by decide) ?_
                    refine v_putI (j := 8) gz_37_101 rfl is_82 rd_5 rfl (by omega) (by omega) rfl (fun h209 fh209 => ?_)
                    have gh209 : my_fr [(5, 5), (5, 6), (5, 7), (5, 8)] h h209 := my_fr.up gh206 is_82 fh209 rfl
                    refine w_aload_n gz_37_104 rfl ?_
                    refine v_getI (j := 6) gz_37_105 rfl is_82 rd_5 rfl (fun v210 ev210 pv210 qv210 => ?_)
                    have zv210 := ev210.trans ((my_up_fld fh209 (by decide)).trans ev207.symm)
                    refine w_iconst gz_37_108 (by decide) ?_
                    refine w_icne (t := 117) gz_37_109 rfl (fun u211 => ?_) (fun u211 => by exfalso; omega)
                    refine w_aload_n gz_37_117 rfl ?_
                    refine v_getI (j := 6) gz_37_118 rfl is_82 rd_5 rfl (fun v212 ev212 pv212 qv212 => ?_)
                    have zv212 := ev212.trans ev210.symm
                    refine w_iconst gz_37_121 (by decide) ?_
                    refine w_icne (t := 129) gz_37_122 rfl (fun u213 => ?_) (fun u213 => by exfalso; omega)
                    refine w_iconst gz_37_129 (by decide) ?_
                    refine w_istore_n (ls' := [(2, 82), (0, 1), (9, 0)]) gz_37_130 gm_37 rfl rfl rfl ?_
                    refine w_aload_n gz_37_131 rfl ?_
                    refine v_getI (j := 7) gz_37_132 rfl is_82 rd_5 rfl (fun v214 ev214 pv214 qv214 => ?_)
                    have zv214 := ev214.trans ((my_up_fld fh209 (by decide)).trans ((my_up_fld fh206 (by decide)).trans (my_up_self fh181)))
                    refine w_iconst gz_37_135 (by decide) ?_
                    refine w_iadd gz_37_136 ⟨by omega, by omega⟩ ?_
                    refine w_istore_n (ls' := [(2, 82), (0, 1), (0, (v214 + 1))]) gz_37_137 gm_37 rfl rfl rfl ?_
                    have ce215 : h209 82 5 = v186 := ((my_up_fld fh209 (by decide)).trans ((my_up_fld fh206 (by decide)).trans ev186.symm))
                    have ce216 : h209 82 6 = v212 := ev212.symm
                    have ce217 : h209 82 7 = v214 := ev214.symm
                    have ce218 : h209 82 8 = 0 := (my_up_self fh209)
                    have sg : ∀ j : Int, h209 92 j = h0_0 92 j := fun j => ((my_up_role fh209 is_92 is_82 rfl).trans ((my_up_role fh206 is_92 is_82 rfl).trans ((my_up_role fh181 is_92 is_82 rfl).trans (rfl : h0_0 92 j = h0_0 92 j))))
                    exact J138_0 (1001) (1) ((v214 + 1)) (v186) (v212) h209 (gh209) (by omega) (by omega) (by omega) (by omega) (by omega) (by omega) (by omega) (by omega) (by omega) (by omega) (by omega) (by omega) (by omega) (by omega) (by omega) (by omega) (((my_up_fld fh209 (by decide)).trans ((my_up_fld fh206 (by decide)).trans ev183.symm)).trans (by omega)) (((my_up_fld fh209 (by decide)).trans ((my_up_fld fh206 (by decide)).trans ev186.symm)).trans (by omega)) (ev212.symm.trans (by omega)) (ev214.symm.trans (by omega)) ((my_up_self fh209).trans (by omega)) (((my_up_fld fh209 (by decide)).trans ((my_up_fld fh206 (by decide)).trans ((my_up_fld fh181 (by decide)).trans c82_9_0_0))).trans (by omega)) (by omega) (by first | (intro t k a b; rw [sg]; exact dg_181_0 (by omega) k (by omega) (by omega)) | (intro t k a b; rw [sg]; exact dg_138_0 (by omega) k (by omega) (by omega)) | (intro t k a b; rw [sg, ← sg0, sgi k (by omega)]; omega) | (intro t; omega) | (intro t k a b; rw [sg]; rcases (by omega : k = p138_1 ∨ k < p138_1) with q | q <;> first | exact dg_138_0 (by omega) k (by omega) (by omega) | (subst q; omega)) | omega) (by first | assumption | omega | (subst_vars; omega) | omega) (by first | assumption | omega | (subst_vars; omega) | omega) (by first | assumption | omega | (subst_vars; omega) | omega) (by first | exact tk_A_e A_181_0 (by omega) (by omega) (by omega) | exact tk_A_s A_138_0 (by omega) (by omega) (by omega) (by omega) | exact tk_A_e A_138_0 (by omega) (by omega) (by omega) | exact tk_A_0 b52 (n52 (by omega)).1 (n52 (by omega)).2 k88 (by omega) (by omega) (by omega) | omega) (by omega) (by omega) (by omega)
                  ·
                    refine w_iconst gz_38_34 (by decide) ?_
                    refine w_goto (t := 39) gz_38_35 rfl ?_
                    refine w_iret gz_38_39 gm_38 ?_
                    show wp l rho (d + 1) 37 84 [(2, 82), (9, 0), (9, 0)] [(0, 3), (2, 82)] h181 Q
                    refine w_goto (t := 88) gz_37_84 rfl ?_
                    have k88 : tk_k (h 92 st) = 3 := by rw [← c81]; unfold tk_k; (repeat (first | rw [if_pos (by omega)] | rw [if_neg (by omega)]))
                    refine v_putI (j := 6) gz_37_88 rfl is_82 rd_5 rfl (by omega) (by omega) rfl (fun h219 fh219 => ?_)
                    have gh219 : my_fr [(5, 5), (5, 6), (5, 7), (5, 8)] h h219 := my_fr.up gh181 is_82 fh219 rfl
                    refine w_aload_n gz_37_91 rfl ?_
                    refine v_getI (j := 6) gz_37_92 rfl is_82 rd_5 rfl (fun v220 ev220 pv220 qv220 => ?_)
                    have zv220 := ev220.trans (my_up_self fh219)
                    refine w_ifne (t := 99) gz_37_95 rfl (fun u221 => ?_) (fun u221 => by exfalso; omega)
                    refine w_aload_n gz_37_99 rfl ?_
                    refine w_iconst gz_37_100 (by decide) ?_
                    refine v_putI (j := 8) gz_37_101 rfl is_82 rd_5 rfl (by omega) (by omega) rfl (fun h222 fh222 => ?_)
                    have gh222 : my_fr [(5, 5), (5, 6), (5, 7), (5, 8)] h h222 := my_fr.up gh219 is_82 fh222 rfl
                    refine w_aload_n gz_37_104 rfl ?_
                    refine v_getI (j := 6) gz_37_105 rfl is_82 rd_5 rfl (fun v223 ev223 pv223 qv223 => ?_)
                    have zv223 := ev223.trans ((my_up_fld fh222 (by decide)).trans ev220.symm)
                    refine w_iconst gz_37_108 (by decide) ?_
                    refine w_icne (t := 117) gz_37_109 rfl (fun u224 => ?_) (fun u224 => by exfalso; omega)
                    refine w_aload_n gz_37_117 rfl ?_
                    refine v_getI (j := 6) gz_37_118 rfl is_82 rd_5 rfl (fun v225 ev225 pv225 qv225 => ?_)
                    have zv225 := ev225.trans ev223.symm
                    refine w_iconst gz_37_121 (by decide) ?_
                    refine w_icne (t := 129) gz_37_122 rfl (fun u226 => ?_) (fun u226 => by exfalso; omega)
                    refine w_iconst gz_37_129 (by decide) ?_
                    refine w_istore_n (ls' := [(2, 82), (0, 1), (9, 0)]) gz_37_130 gm_37 rfl rfl rfl ?_
                    refine w_aload_n gz_37_131 rfl ?_
                    refine v_getI (j := 7) gz_37_132 rfl is_82 rd_5 rfl (fun v227 ev227 pv227 qv227 => ?_)
                    have zv227 := ev227.trans ((my_up_fld fh222 (by decide)).trans ((my_up_fld fh219 (by decide)).trans (my_up_self fh181)))
                    refine w_iconst gz_37_135 (by decide) ?_
                    refine w_iadd gz_37_136 ⟨by omega, by omega⟩ ?_
                    refine w_istore_n (ls' := [(2, 82), (0, 1), (0, (v227 + 1))]) gz_37_137 gm_37 rfl rfl rfl ?_
                    have ce228 : h222 82 5 = v186 := ((my_up_fld fh222 (by decide)).trans ((my_up_fld fh219 (by decide)).trans ev186.symm))
                    have ce229 : h222 82 6 = v225 := ev225.symm
                    have ce230 : h222 82 7 = v227 := ev227.symm
                    have ce231 : h222 82 8 = 0 := (my_up_self fh222)
                    have sg : ∀ j : Int, h222 92 j = h0_0 92 j := fun j => ((my_up_role fh222 is_92 is_82 rfl).trans ((my_up_role fh219 is_92 is_82 rfl).trans ((my_up_role fh181 is_92 is_82 rfl).trans (rfl : h0_0 92 j = h0_0 92 j))))
                    exact J138_0 (1001) (1) ((v227 + 1)) (v186) (v225) h222 (gh222) (by omega) (by omega) (by omega) (by omega) (by omega) (by omega) (by omega) (by omega) (by omega) (by omega) (by omega) (by omega) (by omega) (by omega) (by omega) (by omega) (((my_up_fld fh222 (by decide)).trans ((my_up_fld fh219 (by decide)).trans ev183.symm)).trans (by omega)) (((my_up_fld fh222 (by decide)).trans ((my_up_fld fh219 (by decide)).trans ev186.symm)).trans (by omega)) (ev225.symm.trans (by omega)) (ev227.symm.trans (by omega)) ((my_up_self fh222).trans (by omega)) (((my_up_fld fh222 (by decide)).trans ((my_up_fld fh219 (by decide)).trans ((my_up_fld fh181 (by decide)).trans c82_9_0_0))).trans (by omega)) (by omega) (by first | (intro t k a b; rw [sg]; exact dg_181_0 (by omega) k (by omega) (by omega)) | (intro t k a b; rw [sg]; exact dg_138_0 (by omega) k (by omega) (by omega)) | (intro t k a b; rw [sg, ← sg0, sgi k (by omega)]; omega) | (intro t; omega) | (intro t k a b; rw [sg]; rcases (by omega : k = p138_1 ∨ k < p138_1) with q | q <;> first | exact dg_138_0 (by omega) k (by omega) (by omega) | (subst q; omega)) | omega) (by first | assumption | omega | (subst_vars; omega) | omega) (by first | assumption | omega | (subst_vars; omega) | omega) (by first | assumption | omega | (subst_vars; omega) | omega) (by first | exact tk_A_e A_181_0 (by omega) (by omega) (by omega) | exact tk_A_s A_138_0 (by omega) (by omega) (by omega) (by omega) | exact tk_A_e A_138_0 (by omega) (by omega) (by omega) | exact tk_A_0 b52 (n52 (by omega)).1 (n52 (by omega)).2 k88 (by omega) (by omega) (by omega) | omega) (by omega) (by omega) (by omega)
                ·
                  refine w_iconst gz_38_26 (by decide) ?_
                  refine w_iret gz_38_27 gm_38 ?_
                  show wp l rho (d + 1) 37 84 [(2, 82), (9, 0), (9, 0)] [(0, 2), (2, 82)] h181 Q
                  refine w_goto (t := 88) gz_37_84 rfl ?_
                  have k88 : tk_k (h 92 st) = 2 := by rw [← c81]; unfold tk_k; (repeat (first | rw [if_pos (by omega)] | rw [if_neg (by omega)]))
                  refine v_putI (j := 6) gz_37_88 rfl is_82 rd_5 rfl (by omega) (by omega) rfl (fun h232 fh232 => ?_)
                  have gh232 : my_fr [(5, 5), (5, 6), (5, 7), (5, 8)] h h232 := my_fr.up gh181 is_82 fh232 rfl
                  refine w_aload_n gz_37_91 rfl ?_
                  refine v_getI (j := 6) gz_37_92 rfl is_82 rd_5 rfl (fun v233 ev233 pv233 qv233 => ?_)
                  have zv233 := ev233.trans (my_up_self fh232)
                  refine w_ifne (t := 99) gz_37_95 rfl (fun u234 => ?_) (fun u234 => by exfalso; omega)
                  refine w_aload_n gz_37_99 rfl ?_
                  refine w_iconst gz_37_100 (by decide) ?_
                  refine v_putI (j := 8) gz_37_101 rfl is_82 rd_5 rfl (by omega) (by omega) rfl (fun h235 fh235 => ?_)
                  have gh235 : my_fr [(5, 5), (5, 6), (5, 7), (5, 8)] h h235 := my_fr.up gh232 is_82 fh235 rfl
                  refine w_aload_n gz_37_104 rfl ?_
                  refine v_getI (j := 6) gz_37_105 rfl is_82 rd_5 rfl (fun v236 ev236 pv236 qv236 => ?_)
                  have zv236 := ev236.trans ((my_up_fld fh235 (by decide)).trans ev233.symm)
                  refine w_iconst gz_37_108 (by decide) ?_
                  refine w_icne (t := 117) gz_37_109 rfl (fun u237 => ?_) (fun u237 => by exfalso; omega)
                  refine w_aload_n gz_37_117 rfl ?_
                  refine v_getI (j := 6) gz_37_118 rfl is_82 rd_5 rfl (fun v238 ev238 pv238 qv238 => ?_)
                  have zv238 := ev238.trans ev236.symm
                  refine w_iconst gz_37_121 (by decide) ?_
                  refine w_icne (t := 129) gz_37_122 rfl (fun u239 => by exfalso; omega) (fun u239 => ?_)
                  refine w_iconst gz_37_125 (by decide) ?_
                  refine w_goto (t := 130) gz_37_126 rfl ?_
                  refine w_istore_n (ls' := [(2, 82), (0, 3), (9, 0)]) gz_37_130 gm_37 rfl rfl rfl ?_
                  refine w_aload_n gz_37_131 rfl ?_
                  refine v_getI (j := 7) gz_37_132 rfl is_82 rd_5 rfl (fun v240 ev240 pv240 qv240 => ?_)
                  have zv240 := ev240.trans ((my_up_fld fh235 (by decide)).trans ((my_up_fld fh232 (by decide)).trans (my_up_self fh181)))
                  refine w_iconst gz_37_135 (by decide) ?_
                  refine w_iadd gz_37_136 ⟨by omega, by omega⟩ ?_
                  refine w_istore_n (ls' := [(2, 82), (0, 3), (0, (v240 + 1))]) gz_37_137 gm_37 rfl rfl rfl ?_
                  have ce241 : h235 82 5 = v186 := ((my_up_fld fh235 (by decide)).trans ((my_up_fld fh232 (by decide)).trans ev186.symm))
                  have ce242 : h235 82 6 = v238 := ev238.symm
                  have ce243 : h235 82 7 = v240 := ev240.symm
                  have ce244 : h235 82 8 = 0 := (my_up_self fh235)
                  have sg : ∀ j : Int, h235 92 j = h0_0 92 j := fun j => ((my_up_role fh235 is_92 is_82 rfl).trans ((my_up_role fh232 is_92 is_82 rfl).trans ((my_up_role fh181 is_92 is_82 rfl).trans (rfl : h0_0 92 j = h0_0 92 j))))
                  exact J138_0 (1001) (3) ((v240 + 1)) (v186) (v238) h235 (gh235) (by omega) (by omega) (by omega) (by omega) (by omega) (by omega) (by omega) (by omega) (by omega) (by omega) (by omega) (by omega) (by omega) (by omega) (by omega) (by omega) (((my_up_fld fh235 (by decide)).trans ((my_up_fld fh232 (by decide)).trans ev183.symm)).trans (by omega)) (((my_up_fld fh235 (by decide)).trans ((my_up_fld fh232 (by decide)).trans ev186.symm)).trans (by omega)) (ev238.symm.trans (by omega)) (ev240.symm.trans (by omega)) ((my_up_self fh235).trans (by omega)) (((my_up_fld fh235 (by decide)).trans ((my_up_fld fh232 (by decide)).trans ((my_up_fld fh181 (by decide)).trans c82_9_0_0))).trans (by omega)) (by omega) (by first | (intro t k a b; rw [sg]; exact dg_181_0 (by omega) k (by omega) (by omega)) | (intro t k a b; rw [sg]; exact dg_138_0 (by omega) k (by omega) (by omega)) | (intro t k a b; rw [sg, ← sg0, sgi k (by omega)]; omega) | (intro t; omega) | (intro t k a b; rw [sg]; rcases (by omega : k = p138_1 ∨ k < p138_1) with q | q <;> first | exact dg_138_0 (by omega) k (by omega) (by omega) | (subst q; omega)) | omega) (by first | assumption | omega | (subst_vars; omega) | omega) (by first | assumption | omega | (subst_vars; omega) | omega) (by first | assumption | omega | (subst_vars; omega) | omega) (by first | exact tk_A_e A_181_0 (by omega) (by omega) (by omega) | exact tk_A_s A_138_0 (by omega) (by omega) (by omega) (by omega) | exact tk_A_e A_138_0 (by omega) (by omega) (by omega) | exact tk_A_0 b52 (n52 (by omega)).1 (n52 (by omega)).2 k88 (by omega) (by omega) (by omega) | omega) (by omega) (by omega) (by omega)
            ·
              refine w_iload_n gz_38_6 rfl ?_
              refine w_bipush gz_38_7 (by decide) ?_
              refine w_icgt (t := 14) gz_38_9 rfl (fun u245 => ?_) (fun u245 => ?_)
              ·
                refine w_iload_n gz_38_14 rfl ?_
                refine w_bipush gz_38_15 (by decide) ?_
                refine w_iclt (t := 28) gz_38_17 rfl (fun u246 => by exfalso; omega) (fun u246 => ?_)
                refine w_iload_n gz_38_20 rfl ?_
                refine w_bipush gz_38_21 (by decide) ?_
                refine w_icgt (t := 28) gz_38_23 rfl (fun u247 => ?_) (fun u247 => by exfalso; omega)
                refine w_iload_n gz_38_28 rfl ?_
                refine w_bipush gz_38_29 (by decide) ?_
                refine w_icne (t := 38) gz_38_31 rfl (fun u248 => ?_) (fun u248 => by exfalso; omega)
                refine w_iconst gz_38_38 (by decide) ?_
                refine w_iret gz_38_39 gm_38 ?_
                show wp l rho (d + 1) 37 84 [(2, 82), (9, 0), (9, 0)] [(0, 4), (2, 82)] h181 Q
                refine w_goto (t := 88) gz_37_84 rfl ?_
                have k88 : tk_k (h 92 st) = 4 := by rw [← c81]; unfold tk_k; (repeat (first | rw [if_pos (by omega)] | rw [if_neg (by omega)]))
                refine v_putI (j := 6) gz_37_88 rfl is_82 rd_5 rfl (by omega) (by omega) rfl (fun h249 fh249 => ?_)
                have gh249 : my_fr [(5, 5), (5, 6), (5, 7), (5, 8)] h h249 := my_fr.up gh181 is_82 fh249 rfl
                refine w_aload_n gz_37_91 rfl ?_
                refine v_getI (j := 6) gz_37_92 rfl is_82 rd_5 rfl (fun v250 ev250 pv250 qv250 => ?_)
                have zv250 := ev250.trans (my_up_self fh249)
                refine w_ifne (t := 99) gz_37_95 rfl (fun u251 => ?_) (fun u251 => by exfalso; omega)
                refine w_aload_n gz_37_99 rfl ?_
                refine w_iconst gz_37_100 (by decide) ?_
                refine v_putI (j := 8) gz_37_101 rfl is_82 rd_5 rfl (by omega) (by omega) rfl (fun h252 fh252 => ?_)
                have gh252 : my_fr [(5, 5), (5, 6), (5, 7), (5, 8)] h h252 := my_fr.up gh249 is_82 fh252 rfl
                refine w_aload_n gz_37_104 rfl ?_
                refine v_getI (j := 6) gz_37_105 rfl is_82 rd_5 rfl (fun v253 ev253 pv253 qv253 => ?_)
                have zv253 := ev253.trans ((my_up_fld fh252 (by decide)).trans ev250.symm)
                refine w_iconst gz_37_108 (by decide) ?_
                refine w_icne (t := 117) gz_37_109 rfl (fun u254 => ?_) (fun u254 => by exfalso; omega)
                refine w_aload_n gz_37_117 rfl ?_
                refine v_getI (j := 6) gz_37_118 rfl is_82 rd_5 rfl (fun v255 ev255 pv255 qv255 => ?_)
                have zv255 := ev255.trans ev253.symm
                refine w_iconst gz_37_121 (by decide) ?_
                refine w_icne (t := 129) gz_37_122 rfl (fun u256 => ?_) (fun u256 => by exfalso; omega)
                refine w_iconst gz_37_129 (by decide) ?_
                refine w_istore_n (ls' := [(2, 82), (0, 1), (9, 0)]) gz_37_130 gm_37 rfl rfl rfl ?_
                refine w_aload_n gz_37_131 rfl ?_
                refine v_getI (j := 7) gz_37_132 rfl is_82 rd_5 rfl (fun v257 ev257 pv257 qv257 => ?_)
                have zv257 := ev257.trans ((my_up_fld fh252 (by decide)).trans ((my_up_fld fh249 (by decide)).trans (my_up_self fh181)))
                refine w_iconst gz_37_135 (by decide) ?_
                refine w_iadd gz_37_136 ⟨by omega, by omega⟩ ?_
                refine w_istore_n (ls' := [(2, 82), (0, 1), (0, (v257 + 1))]) gz_37_137 gm_37 rfl rfl rfl ?_
                have ce258 : h252 82 5 = v186 := ((my_up_fld fh252 (by decide)).trans ((my_up_fld fh249 (by decide)).trans ev186.symm))
                have ce259 : h252 82 6 = v255 := ev255.symm
                have ce260 : h252 82 7 = v257 := ev257.symm
                have ce261 : h252 82 8 = 0 := (my_up_self fh252)
                have sg : ∀ j : Int, h252 92 j = h0_0 92 j := fun j => ((my_up_role fh252 is_92 is_82 rfl).trans ((my_up_role fh249 is_92 is_82 rfl).trans ((my_up_role fh181 is_92 is_82 rfl).trans (rfl : h0_0 92 j = h0_0 92 j))))
                exact J138_0 (1001) (1) ((v257 + 1)) (v186) (v255) h252 (gh252) (by omega) (by omega) (by omega) (by omega) (by omega) (by omega) (by omega) (by omega) (by omega) (by omega) (by omega) (by omega) (by omega) (by omega) (by omega) (by omega) (((my_up_fld fh252 (by decide)).trans ((my_up_fld fh249 (by decide)).trans ev183.symm)).trans (by omega)) (((my_up_fld fh252 (by decide)).trans ((my_up_fld fh249 (by decide)).trans ev186.symm)).trans (by omega)) (ev255.symm.trans (by omega)) (ev257.symm.trans (by omega)) ((my_up_self fh252).trans (by omega)) (((my_up_fld fh252 (by decide)).trans ((my_up_fld fh249 (by decide)).trans ((my_up_fld fh181 (by decide)).trans c82_9_0_0))).trans (by omega)) (by omega) (by first | (intro t k a b; rw [sg]; exact dg_181_0 (by omega) k (by omega) (by omega)) | (intro t k a b; rw [sg]; exact dg_138_0 (by omega) k (by omega) (by omega)) | (intro t k a b; rw [sg, ← sg0, sgi k (by omega)]; omega) | (intro t; omega) | (intro t k a b; rw [sg]; rcases (by omega : k = p138_1 ∨ k < p138_1) with q | q <;> first | exact dg_138_0 (by omega) k (by omega) (by omega) | (subst q; omega)) | omega) (by first | assumption | omega | (subst_vars; omega) | omega) (by first | assumption | omega | (subst_vars; omega) | omega) (by first | assumption | omega | (subst_vars; omega) | omega) (by first | exact tk_A_e A_181_0 (by omega) (by omega) (by omega) | exact tk_A_s A_138_0 (by omega) (by omega) (by omega) (by omega) | exact tk_A_e A_138_0 (by omega) (by omega) (by omega) | exact tk_A_0 b52 (n52 (by omega)).1 (n52 (by omega)).2 k88 (by omega) (by omega) (by omega) | omega) (by omega) (by omega) (by omega)
              ·
                refine w_iconst gz_38_12 (by decide) ?_
                refine w_iret gz_38_13 gm_38 ?_
                show wp l rho (d + 1) 37 84 [(2, 82), (9, 0), (9, 0)] [(0, 1), (2, 82)] h181 Q
                refine w_goto (t := 88) gz_37_84 rfl ?_
                have k88 : tk_k (h 92 st) = 1 := by rw [← c81]; unfold tk_k; (repeat (first | rw [if_pos (by omega)] | rw [if_neg (by omega)]))
                refine v_putI (j := 6) gz_37_88 rfl is_82 rd_5 rfl (by omega) (by omega) rfl (fun h262 fh262 => ?_)
                have gh262 : my_fr [(5, 5), (5, 6), (5, 7), (5, 8)] h h262 := my_fr.up gh181 is_82 fh262 rfl
                refine w_aload_n gz_37_91 rfl ?_
                refine v_getI (j := 6) gz_37_92 rfl is_82 rd_5 rfl (fun v263 ev263 pv263 qv263 => ?_)
                have zv263 := ev263.trans (my_up_self fh262)
                refine w_ifne (t := 99) gz_37_95 rfl (fun u264 => ?_) (fun u264 => by exfalso; omega)
                refine w_aload_n gz_37_99 rfl ?_
                refine w_iconst gz_37_100 (by decide) ?_
                refine v_putI (j := 8) gz_37_101 rfl is_82 rd_5 rfl (by omega) (by omega) rfl (fun h265 fh265 => ?_)
                have gh265 : my_fr [(5, 5), (5, 6), (5, 7), (5, 8)] h h265 := my_fr.up gh262 is_82 fh265 rfl
                refine w_aload_n gz_37_104 rfl ?_
                refine v_getI (j := 6) gz_37_105 rfl is_82 rd_5 rfl (fun v266 ev266 pv266 qv266 => ?_)
                have zv266 := ev266.trans ((my_up_fld fh265 (by decide)).trans ev263.symm)
                refine w_iconst gz_37_108 (by decide) ?_
                refine w_icne (t := 117) gz_37_109 rfl (fun u267 => by exfalso; omega) (fun u267 => ?_)
                refine w_bipush gz_37_112 (by decide) ?_
                refine w_goto (t := 130) gz_37_114 rfl ?_
                refine w_istore_n (ls' := [(2, 82), (0, 8), (9, 0)]) gz_37_130 gm_37 rfl rfl rfl ?_
                refine w_aload_n gz_37_131 rfl ?_
                refine v_getI (j := 7) gz_37_132 rfl is_82 rd_5 rfl (fun v268 ev268 pv268 qv268 => ?_)
                have zv268 := ev268.trans ((my_up_fld fh265 (by decide)).trans ((my_up_fld fh262 (by decide)).trans (my_up_self fh181)))
                refine w_iconst gz_37_135 (by decide) ?_
                refine w_iadd gz_37_136 ⟨by omega, by omega⟩ ?_
                refine w_istore_n (ls' := [(2, 82), (0, 8), (0, (v268 + 1))]) gz_37_137 gm_37 rfl rfl rfl ?_
                have ce269 : h265 82 5 = v186 := ((my_up_fld fh265 (by decide)).trans ((my_up_fld fh262 (by decide)).trans ev186.symm))
                have ce270 : h265 82 6 = v266 := ev266.symm
                have ce271 : h265 82 7 = v268 := ev268.symm
                have ce272 : h265 82 8 = 0 := (my_up_self fh265)
                have sg : ∀ j : Int, h265 92 j = h0_0 92 j := fun j => ((my_up_role fh265 is_92 is_82 rfl).trans ((my_up_role fh262 is_92 is_82 rfl).trans ((my_up_role fh181 is_92 is_82 rfl).trans (rfl : h0_0 92 j = h0_0 92 j))))
                exact J138_0 (1001) (8) ((v268 + 1)) (v186) (v266) h265 (gh265) (by omega) (by omega) (by omega) (by omega) (by omega) (by omega) (by omega) (by omega) (by omega) (by omega) (by omega) (by omega) (by omega) (by omega) (by omega) (by omega) (((my_up_fld fh265 (by decide)).trans ((my_up_fld fh262 (by decide)).trans ev183.symm)).trans (by omega)) (((my_up_fld fh265 (by decide)).trans ((my_up_fld fh262 (by decide)).trans ev186.symm)).trans (by omega)) (ev266.symm.trans (by omega)) (ev268.symm.trans (by omega)) ((my_up_self fh265).trans (by omega)) (((my_up_fld fh265 (by decide)).trans ((my_up_fld fh262 (by decide)).trans ((my_up_fld fh181 (by decide)).trans c82_9_0_0))).trans (by omega)) (by omega) (by first | (intro t k a b; rw [sg]; exact dg_181_0 (by omega) k (by omega) (by omega)) | (intro t k a b; rw [sg]; exact dg_138_0 (by omega) k (by omega) (by omega)) | (intro t k a b; rw [sg, ← sg0, sgi k (by omega)]; omega) | (intro t; omega) | (intro t k a b; rw [sg]; rcases (by omega : k = p138_1 ∨ k < p138_1) with q | q <;> first | exact dg_138_0 (by omega) k (by omega) (by omega) | (subst q; omega)) | omega) (by first | assumption | omega | (subst_vars; omega) | omega) (by first | assumption | omega | (subst_vars; omega) | omega) (by first | assumption | omega | (subst_vars; omega) | omega) (by first | exact tk_A_e A_181_0 (by omega) (by omega) (by omega) | exact tk_A_s A_138_0 (by omega) (by omega) (by omega) (by omega) | exact tk_A_e A_138_0 (by omega) (by omega) (by omega) | exact tk_A_0 b52 (n52 (by omega)).1 (n52 (by omega)).2 k88 (by omega) (by omega) (by omega) | omega) (by omega) (by omega) (by omega)
          ·
            refine w_aload_n gz_37_39 rfl ?_
            refine w_dup gz_37_40 rfl ?_
            refine v_getI (j := 5) gz_37_41 rfl is_82 rd_5 rfl (fun v273 ev273 pv273 qv273 => ?_)
            have zv273 := ev273.trans ev177.symm
            refine w_iconst gz_37_44 (by decide) ?_
            refine w_iadd gz_37_45 ⟨by omega, by omega⟩ ?_
            refine v_putI (j := 5) gz_37_46 rfl is_82 rd_5 rfl (by omega) (by omega) rfl (fun h274 fh274 => ?_)
            have gh274 : my_fr [(5, 5), (5, 6), (5, 7), (5, 8)] h h274 := my_fr.up gh_0_0 is_82 fh274 rfl
            have b46 : ∀ i : Int, h 82 5 ≤ i → i < h274 82 5 → h 92 i = 10 ∨ h 92 i = 32 := by
              have z := my_up_self fh274
              intro i a b
              rcases (by omega : i = h0_0 82 5 ∨ i < h0_0 82 5) with q | q
              · rw [q]; omega
              · first | exact bl_0_0 i a q | omega
            refine w_goto (t := 0) gz_37_49 rfl ?_
            have ce275 : h274 82 5 = (v273 + 1) := (my_up_self fh274)
            exact ih_0_0 ((v273 + 1)) h274 (gh274) (by omega) (by omega) (by omega) (by omega) (by omega) (by omega) (by omega) (((my_up_fld fh274 (by decide)).trans ev151.symm).trans (by omega)) ((my_up_self fh274).trans (by omega)) (((my_up_fld fh274 (by decide)).trans c82_9_0_0).trans (by omega)) (b46) (by omega)
  refine w_aload_n gz_37_0 rfl ?_
  refine v_getI (j := 5) gz_37_1 rfl is_82 rd_5 rfl (fun v276 ev276 pv276 qv276 => ?_)
  have zv276 := ev276.trans ek82_5.symm
  refine w_aload_n gz_37_4 rfl ?_
  refine v_getI (j := 4) gz_37_5 rfl is_82 rd_5 rfl (fun v277 ev277 pv277 qv277 => ?_)
  have zv277 := ev277.trans ek82_4.symm
  refine w_icge (t := 52) gz_37_8 rfl (fun u278 => ?_) (fun u278 => ?_)
  ·
    obtain ⟨st, est⟩ : ∃ z : Int, z = h 82 5 := ⟨_, rfl⟩
    have b52 : ∀ i : Int, h 82 5 ≤ i → i < st → h 92 i = 10 ∨ h 92 i = 32 := by first | (intro i a b; exact bl_0_0 i a (by omega)) | (intro i a b; omega)
    have n52 : st < h 82 4 → h 92 st ≠ 10 ∧ h 92 st ≠ 32 := by rw [est]; intro q; omega
    refine w_aload_n gz_37_52 rfl ?_
    refine w_aload_n gz_37_53 rfl ?_
    refine v_getI (j := 5) gz_37_54 rfl is_82 rd_5 rfl (fun v279 ev279 pv279 qv279 => ?_)
    have zv279 := ev279.trans ev276.symm
    refine v_putI (j := 7) gz_37_57 rfl is_82 rd_5 rfl (by omega) (by omega) rfl (fun h280 fh280 => ?_)
    have gh280 : my_fr [(5, 5), (5, 6), (5, 7), (5, 8)] h h280 := my_fr.up my_fr.rf is_82 fh280 rfl
    have Al_h280 : Al h280 := Al_ag (my_ag.up fh280 is_82 rfl) n_Al
    refine w_aload_n gz_37_60 rfl ?_
    refine w_aload_n gz_37_61 rfl ?_
    refine v_getI (j := 5) gz_37_62 rfl is_82 rd_5 rfl (fun v281 ev281 pv281 qv281 => ?_)
    have zv281 := ev281.trans ((my_up_fld fh280 (by decide)).trans ev279.symm)
    refine w_aload_n gz_37_65 rfl ?_
    refine v_getI (j := 4) gz_37_66 rfl is_82 rd_5 rfl (fun v282 ev282 pv282 qv282 => ?_)
    have zv282 := ev282.trans ((my_up_fld fh280 (by decide)).trans ev277.symm)
    refine w_icge (t := 87) gz_37_69 rfl (fun u283 => ?_) (fun u283 => by exfalso; omega)
    refine w_iconst gz_37_87 (by decide) ?_
    refine v_putI (j := 6) gz_37_88 rfl is_82 rd_5 rfl (by omega) (by omega) rfl (fun h284 fh284 => ?_)
    have gh284 : my_fr [(5, 5), (5, 6), (5, 7), (5, 8)] h h284 := my_fr.up gh280 is_82 fh284 rfl
    have Al_h284 : Al h284 := Al_ag (my_ag.up fh284 is_82 rfl) Al_h280
    refine w_aload_n gz_37_91 rfl ?_
    refine v_getI (j := 6) gz_37_92 rfl is_82 rd_5 rfl (fun v285 ev285 pv285 qv285 => ?_)
    have zv285 := ev285.trans (my_up_self fh284)
    refine w_ifne (t := 99) gz_37_95 rfl (fun u286 => by exfalso; omega) (fun u286 => ?_)
    have ce287 : h284 82 4 = v282 := ((my_up_fld fh284 (by decide)).trans ev282.symm)
    have ce288 : h284 82 5 = v281 := ((my_up_fld fh284 (by decide)).trans ev281.symm)
    have ce289 : h284 82 6 = v285 := ev285.symm
    have ce290 : h284 82 7 = v279 := ((my_up_fld fh284 (by decide)).trans (my_up_self fh280))
    have ce291 : h284 82 8 = h 82 8 := ((my_up_fld fh284 (by decide)).trans ((my_up_fld fh280 (by decide)).trans (rfl : h 82 8 = h 82 8)))
    have Al_h284t292 : Al h284 := by unfold Al; omega
    have c293 := ev285.symm
    have c294 := ((my_up_fld fh284 (by decide)).trans ((my_up_fld fh280 (by decide)).trans cf))
    exact w_vret gz_37_98 gm_37 (k0 h284 (gh284) (by omega) (by omega) (by omega) (by first | exact tk_end b52 (by omega) (by omega) (by omega) (by omega) (by omega) | exact tk_fin A_181_0 E_181_0 D_181_0 (by omega) (by omega) (by omega) (by omega) (by omega) (by omega) (by omega) (by omega) (by omega) | omega) Al_h284t292)
  ·
    refine w_aload_n gz_37_11 rfl ?_
    refine w_getX (v := 92) gz_37_12 is_82 rd_5 rfl (by decide) rfl ?_
    refine w_aload_n gz_37_15 rfl ?_
    refine v_getI (j := 5) gz_37_16 rfl is_82 rd_5 rfl (fun v296 ev296 pv296 qv296 => ?_)
    have zv296 := ev296.trans ev276.symm
    refine w_yald gz_37_19 is_92 rd_40 (by omega) (by omega) (fun v297 ev297 pv297 qv297 => ?_)
    have c20 : v297 = h 92 (h 82 5) := by
      have z : h 92 v296 = h 92 v296 := by first | rfl | exact my_fr.at my_fr.rf is_92 rfl
      rw [show (h 82 5) = v296 by omega]
      omega
    refine w_bipush gz_37_20 (by decide) ?_
    refine w_iceq (t := 39) gz_37_22 rfl (fun u298 => ?_) (fun u298 => ?_)
    ·
      refine w_aload_n gz_37_39 rfl ?_
      refine w_dup gz_37_40 rfl ?_
      refine v_getI (j := 5) gz_37_41 rfl is_82 rd_5 rfl (fun v299 ev299 pv299 qv299 => ?_)
      have zv299 := ev299.trans ev296.symm
      refine w_iconst gz_37_44 (by decide) ?_
      refine w_iadd gz_37_45 ⟨by omega, by omega⟩ ?_
      refine v_putI (j := 5) gz_37_46 rfl is_82 rd_5 rfl (by omega) (by omega) rfl (fun h300 fh300 => ?_)
      have gh300 : my_fr [(5, 5), (5, 6), (5, 7), (5, 8)] h h300 := my_fr.up my_fr.rf is_82 fh300 rfl
      have b46 : ∀ i : Int, h 82 5 ≤ i → i < h300 82 5 → h 92 i = 10 ∨ h 92 i = 32 := by
        have z := my_up_self fh300
        intro i a b
        rcases (by omega : i = h 82 5 ∨ i < h 82 5) with q | q
        · rw [q]; omega
        · first | exact bl_0_0 i a q | omega
      refine w_goto (t := 0) gz_37_49 rfl ?_
      have ce301 : h300 82 5 = (v299 + 1) := (my_up_self fh300)
      exact J0_0 (1001) ((v299 + 1)) h300 (gh300) (by omega) (by omega) (by omega) (by omega) (by omega) (by omega) (by omega) (((my_up_fld fh300 (by decide)).trans ev277.symm).trans (by omega)) ((my_up_self fh300).trans (by omega)) (((my_up_fld fh300 (by decide)).trans cf).trans (by omega)) (b46) (by omega)
    ·
      refine w_aload_n gz_37_25 rfl ?_
      refine w_getX (v := 92) gz_37_26 is_82 rd_5 rfl (by decide) rfl ?_
      refine w_aload_n gz_37_29 rfl ?_
      refine v_getI (j := 5) gz_37_30 rfl is_82 rd_5 rfl (fun v303 ev303 pv303 qv303 => ?_)
      have zv303 := ev303.trans ev296.symm
      refine w_yald gz_37_33 is_92 rd_40 (by omega) (by omega) (fun v304 ev304 pv304 qv304 => ?_)
      have wv304 : v303 = v296 := by omega
      rw [wv304] at ev304
      have zv304 := ev304.trans ev297.symm
      have c34 : v304 = h 92 (h 82 5) := by
        have z : h 92 v296 = h 92 v296 := by first | rfl | exact my_fr.at my_fr.rf is_92 rfl
        rw [show (h 82 5) = v296 by omega]
        omega
      refine w_bipush gz_37_34 (by decide) ?_
      refine w_icne (t := 52) gz_37_36 rfl (fun u305 => ?_) (fun u305 => ?_)
      ·
        obtain ⟨st, est⟩ : ∃ z : Int, z = h 82 5 := ⟨_, rfl⟩
        have b52 : ∀ i : Int, h 82 5 ≤ i → i < st → h 92 i = 10 ∨ h 92 i = 32 := by first | (intro i a b; exact bl_0_0 i a (by omega)) | (intro i a b; omega)
        have n52 : st < h 82 4 → h 92 st ≠ 10 ∧ h 92 st ≠ 32 := by rw [est]; intro q; omega
        refine w_aload_n gz_37_52 rfl ?_
        refine w_aload_n gz_37_53 rfl ?_
        refine v_getI (j := 5) gz_37_54 rfl is_82 rd_5 rfl (fun v306 ev306 pv306 qv306 => ?_)
        have zv306 := ev306.trans ev303.symm
        refine v_putI (j := 7) gz_37_57 rfl is_82 rd_5 rfl (by omega) (by omega) rfl (fun h307 fh307 => ?_)
        have gh307 : my_fr [(5, 5), (5, 6), (5, 7), (5, 8)] h h307 := my_fr.up my_fr.rf is_82 fh307 rfl
        have Al_h307 : Al h307 := Al_ag (my_ag.up fh307 is_82 rfl) n_Al
        refine w_aload_n gz_37_60 rfl ?_
        refine w_aload_n gz_37_61 rfl ?_
        refine v_getI (j := 5) gz_37_62 rfl is_82 rd_5 rfl (fun v308 ev308 pv308 qv308 => ?_)
        have zv308 := ev308.trans ((my_up_fld fh307 (by decide)).trans ev306.symm)
        refine w_aload_n gz_37_65 rfl ?_
        refine v_getI (j := 4) gz_37_66 rfl is_82 rd_5 rfl (fun v309 ev309 pv309 qv309 => ?_)
        have zv309 := ev309.trans ((my_up_fld fh307 (by decide)).trans ev277.symm)
        refine w_icge (t := 87) gz_37_69 rfl (fun u310 => by exfalso; omega) (fun u310 => ?_)
        refine w_aload_n gz_37_72 rfl ?_
        refine w_getX (v := 92) gz_37_73 is_82 rd_5 rfl (by decide) rfl ?_
        refine w_aload_n gz_37_76 rfl ?_
        refine v_getI (j := 5) gz_37_77 rfl is_82 rd_5 rfl (fun v312 ev312 pv312 qv312 => ?_)
        have zv312 := ev312.trans ev308.symm
        have sg0 : ∀ j : Int, h307 92 j = h 92 j := fun j => ((my_up_role fh307 is_92 is_82 rfl).trans (rfl : h 92 j = h 92 j))
        refine w_yald gz_37_80 is_92 rd_40 (by omega) (by omega) (fun v313 ev313 pv313 qv313 => ?_)
        have wv313 : v312 = v296 := by omega
        rw [wv313] at ev313
        have zv313 := ev313.trans ((my_up_role fh307 is_92 is_82 rfl).trans ev304.symm)
        have sgi : ∀ k : Int, k = v296 → h307 92 k = v313 := fun k q => by rw [q]; omega
        have c81 : v313 = h 92 st := by
          have z : h307 92 v296 = h 92 v296 := by first | rfl | exact my_fr.at gh307 is_92 rfl
          rw [show st = v296 by omega]
          omega
        refine w_inS (k := 0) (as := [(0, v313)]) (r := [(2, 82)]) (ls0 := [(0, v313)]) gz_37_81 gm_38 rfl rfl rfl rfl rfl rfl ?_
        refine w_iload_n gz_38_0 rfl ?_
        refine w_bipush gz_38_1 (by decide) ?_
        refine w_iclt (t := 14) gz_38_3 rfl (fun u314 => ?_) (fun u314 => ?_)
        ·
          refine w_iload_n gz_38_14 rfl ?_
          refine w_bipush gz_38_15 (by decide) ?_
          refine w_iclt (t := 28) gz_38_17 rfl (fun u315 => ?_) (fun u315 => ?_)
          ·
            refine w_iload_n gz_38_28 rfl ?_
            refine w_bipush gz_38_29 (by decide) ?_
            refine w_icne (t := 38) gz_38_31 rfl (fun u316 => ?_) (fun u316 => by exfalso; omega)
            refine w_iconst gz_38_38 (by decide) ?_
            refine w_iret gz_38_39 gm_38 ?_
            show wp l rho (d + 1) 37 84 [(2, 82), (9, 0), (9, 0)] [(0, 4), (2, 82)] h307 Q
            refine w_goto (t := 88) gz_37_84 rfl ?_
            have k88 : tk_k (h 92 st) = 4 := by rw [← c81]; unfold tk_k; (repeat (first | rw [if_pos (by omega)] | rw [if_neg (by omega)]))
            refine v_putI (j := 6) gz_37_88 rfl is_82 rd_5 rfl (by omega) (by omega) rfl (fun h317 fh317 => ?_)
            have gh317 : my_fr [(5, 5), (5, 6), (5, 7), (5, 8)] h h317 := my_fr.up gh307 is_82 fh317 rfl
            have Al_h317 : Al h317 := Al_ag (my_ag.up fh317 is_82 rfl) Al_h307
            refine w_aload_n gz_37_91 rfl ?_
            refine v_getI (j := 6) gz_37_92 rfl is_82 rd_5 rfl (fun v318 ev318 pv318 qv318 => ?_)
            have zv318 := ev318.trans (my_up_self fh317)
            refine w_ifne (t := 99) gz_37_95 rfl (fun u319 => ?_) (fun u319 => by exfalso; omega)
            refine w_aload_n gz_37_99 rfl ?_
            refine w_iconst gz_37_100 (by decide) ?_
            refine v_putI (j := 8) gz_37_101 rfl is_82 rd_5 rfl (by omega) (by omega) rfl (fun h320 fh320 => ?_)
            have gh320 : my_fr [(5, 5), (5, 6), (5, 7), (5, 8)] h h320 := my_fr.up gh317 is_82 fh320 rfl
            have Al_h320 : Al h320 := Al_ag (my_ag.up fh320 is_82 rfl) Al_h317
            refine w_aload_n gz_37_104 rfl ?_
            refine v_getI (j := 6) gz_37_105 rfl is_82 rd_5 rfl (fun v321 ev321 pv321 qv321 => ?_)
            have zv321 := ev321.trans ((my_up_fld fh320 (by decide)).trans ev318.symm)
            refine w_iconst gz_37_108 (by decide) ?_
            refine w_icne (t := 117) gz_37_109 rfl (fun u322 => ?_) (fun u322 => by exfalso; omega)
            refine w_aload_n gz_37_117 rfl ?_
            refine v_getI (j := 6) gz_37_118 rfl is_82 rd_5 rfl (fun v323 ev323 pv323 qv323 => ?_)
            have zv323 := ev323.trans ev321.symm
            refine w_iconst gz_37_121 (by decide) ?_
            refine w_icne (t := 129) gz_37_122 rfl (fun u324 => ?_) (fun u324 => by exfalso; omega)
            refine w_iconst gz_37_129 (by decide) ?_
            refine w_istore_n (ls' := [(2, 82), (0, 1), (9, 0)]) gz_37_130 gm_37 rfl rfl rfl ?_
            refine w_aload_n gz_37_131 rfl ?_
            refine v_getI (j := 7) gz_37_132 rfl is_82 rd_5 rfl (fun v325 ev325 pv325 qv325 => ?_)
            have zv325 := ev325.trans ((my_up_fld fh320 (by decide)).trans ((my_up_fld fh317 (by decide)).trans (my_up_self fh307)))
            refine w_iconst gz_37_135 (by decide) ?_
            refine w_iadd gz_37_136 ⟨by omega, by omega⟩ ?_
            refine w_istore_n (ls' := [(2, 82), (0, 1), (0, (v325 + 1))]) gz_37_137 gm_37 rfl rfl rfl ?_
            have ce326 : h320 82 5 = v312 := ((my_up_fld fh320 (by decide)).trans ((my_up_fld fh317 (by decide)).trans ev312.symm))
            have ce327 : h320 82 6 = v323 := ev323.symm
            have ce328 : h320 82 7 = v325 := ev325.symm
            have ce329 : h320 82 8 = 0 := (my_up_self fh320)
            have sg : ∀ j : Int, h320 92 j = h 92 j := fun j => ((my_up_role fh320 is_92 is_82 rfl).trans ((my_up_role fh317 is_92 is_82 rfl).trans ((my_up_role fh307 is_92 is_82 rfl).trans (rfl : h 92 j = h 92 j))))
            exact J138_0 (1001) (1) ((v325 + 1)) (v312) (v323) h320 (gh320) (by omega) (by omega) (by omega) (by omega) (by omega) (by omega) (by omega) (by omega) (by omega) (by omega) (by omega) (by omega) (by omega) (by omega) (by omega) (by omega) (((my_up_fld fh320 (by decide)).trans ((my_up_fld fh317 (by decide)).trans ev309.symm)).trans (by omega)) (((my_up_fld fh320 (by decide)).trans ((my_up_fld fh317 (by decide)).trans ev312.symm)).trans (by omega)) (ev323.symm.trans (by omega)) (ev325.symm.trans (by omega)) ((my_up_self fh320).trans (by omega)) (((my_up_fld fh320 (by decide)).trans ((my_up_fld fh317 (by decide)).trans ((my_up_fld fh307 (by decide)).trans cf))).trans (by omega)) (by omega) (by first | (intro t k a b; rw [sg]; exact dg_181_0 (by omega) k (by omega) (by omega)) | (intro t k a b; rw [sg]; exact dg_138_0 (by omega) k (by omega) (by omega)) | (intro t k a b; rw [sg, ← sg0, sgi k (by omega)]; omega) | (intro t; omega) | (intro t k a b; rw [sg]; rcases (by omega : k = p138_1 ∨ k < p138_1) with q | q <;> first | exact dg_138_0 (by omega) k (by omega) (by omega) | (subst q; omega)) | omega) (by first | assumption | omega | (subst_vars; omega) | omega) (by first | assumption | omega | (subst_vars; omega) | omega) (by first | assumption | omega | (subst_vars; omega) | omega) (by first | exact tk_A_e A_181_0 (by omega) (by omega) (by omega) | exact tk_A_s A_138_0 (by omega) (by omega) (by omega) (by omega) | exact tk_A_e A_138_0 (by omega) (by omega) (by omega) | exact tk_A_0 b52 (n52 (by omega)).1 (n52 (by omega)).2 k88 (by omega) (by omega) (by omega) | omega) (by omega) (by omega) (by omega)
          ·
            refine w_iload_n gz_38_20 rfl ?_
            refine w_bipush gz_38_21 (by decide) ?_
            refine w_icgt (t := 28) gz_38_23 rfl (fun u330 => ?_) (fun u330 => ?_)
            ·
              refine w_iload_n gz_38_28 rfl ?_
              refine w_bipush gz_38_29 (by decide) ?_
              refine w_icne (t := 38) gz_38_31 rfl (fun u331 => ?_) (fun u331 => ?_)
              ·
                refine w_iconst gz_38_38 (by decide) ?_
                refine w_iret gz_38_39 gm_38 ?_
                show wp l rho (d + 1) 37 84 [(2, 82), (9, 0), (9, 0)] [(0, 4), (2, 82)] h307 Q
                refine w_goto (t := 88) gz_37_84 rfl ?_
                have k88 : tk_k (h 92 st) = 4 := by rw [← c81]; unfold tk_k; (repeat (first | rw [if_pos (by omega)] | rw [if_neg (by omega)]))
                refine v_putI (j := 6) gz_37_88 rfl is_82 rd_5 rfl (by omega) (by omega) rfl (fun h332 fh332 => ?_)
                have gh332 : my_fr [(5, 5), (5, 6), (5, 7), (5, 8)] h h332 := my_fr.up gh307 is_82 fh332 rfl
                have Al_h332 : Al h332 := Al_ag (my_ag.up fh332 is_82 rfl) Al_h307
                refine w_aload_n gz_37_91 rfl ?_
                refine v_getI (j := 6) gz_37_92 rfl is_82 rd_5 rfl (fun v333 ev333 pv333 qv333 => ?_)
                have zv333 := ev333.trans (my_up_self fh332)
                refine w_ifne (t := 99) gz_37_95 rfl (fun u334 => ?_) (fun u334 => by exfalso; omega)
                refine w_aload_n gz_37_99 rfl ?_
                refine w_iconst gz_37_100 (by decide) ?_
                refine v_putI (j := 8) gz_37_101 rfl is_82 rd_5 rfl (by omega) (by omega) rfl (fun h335 fh335 => ?_)
                have gh335 : my_fr [(5, 5), (5, 6), (5, 7), (5, 8)] h h335 := my_fr.up gh332 is_82 fh335 rfl
                have Al_h335 : Al h335 := Al_ag (my_ag.up fh335 is_82 rfl) Al_h332
                refine w_aload_n gz_37_104 rfl ?_
                refine v_getI (j := 6) gz_37_105 rfl is_82 rd_5 rfl (fun v336 ev336 pv336 qv336 => ?_)
                have zv336 := ev336.trans ((my_up_fld fh335 (by decide)).trans ev333.symm)
                refine w_iconst gz_37_108 (by decide) ?_
                refine w_icne (t := 117) gz_37_109 rfl (fun u337 => ?_) (fun u337 => by exfalso; omega)
                refine w_aload_n gz_37_117 rfl ?_
                refine v_getI (j := 6) gz_37_118 rfl is_82 rd_5 rfl (fun v338 ev338 pv338 qv338 => ?_)
                have zv338 := ev338.trans ev336.symm
                refine w_iconst gz_37_121 (by decide) ?_
                refine w_icne (t := 129) gz_37_122 rfl (fun u339 => ?_) (fun u339 => by exfalso; omega)
                refine w_iconst gz_37_129 (by decide) ?_
                refine w_istore_n (ls' := [(2, 82), (0, 1), (9, 0)]) gz_37_130 gm_37 rfl rfl rfl ?_
                refine w_aload_n gz_37_131 rfl ?_
                refine v_getI (j := 7) gz_37_132 rfl is_82 rd_5 rfl (fun v340 ev340 pv340 qv340 => ?_)
                have zv340 := ev340.trans ((my_up_fld fh335 (by decide)).trans ((my_up_fld fh332 (by decide)).trans (my_up_self fh307)))
                refine w_iconst gz_37_135 (by decide) ?_
                refine w_iadd gz_37_136 ⟨by omega, by omega⟩ ?_
                refine w_istore_n (ls' := [(2, 82), (0, 1), (0, (v340 + 1))]) gz_37_137 gm_37 rfl rfl rfl ?_
                have ce341 : h335 82 5 = v312 := ((my_up_fld fh335 (by decide)).trans ((my_up_fld fh332 (by decide)).trans ev312.symm))
                have ce342 : h335 82 6 = v338 := ev338.symm
                have ce343 : h335 82 7 = v340 := ev340.symm
                have ce344 : h335 82 8 = 0 := (my_up_self fh335)
                have sg : ∀ j : Int, h335 92 j = h 92 j := fun j => ((my_up_role fh335 is_92 is_82 rfl).trans ((my_up_role fh332 is_92 is_82 rfl).trans ((my_up_role fh307 is_92 is_82 rfl).trans (rfl : h 92 j = h 92 j))))
                exact J138_0 (1001) (1) ((v340 + 1)) (v312) (v338) h335 (gh335) (by omega) (by omega) (by omega) (by omega) (by omega) (by omega) (by omega) (by omega) (by omega) (by omega) (by omega) (by omega) (by omega) (by omega) (by omega) (by omega) (((my_up_fld fh335 (by decide)).trans ((my_up_fld fh332 (by decide)).trans ev309.symm)).trans (by omega)) (((my_up_fld fh335 (by decide)).trans ((my_up_fld fh332 (by decide)).trans ev312.symm)).trans (by omega)) (ev338.symm.trans (by omega)) (ev340.symm.trans (by omega)) ((my_up_self fh335).trans (by omega)) (((my_up_fld fh335 (by decide)).trans ((my_up_fld fh332 (by decide)).trans ((my_up_fld fh307 (by decide)).trans cf))).trans (by omega)) (by omega) (by first | (intro t k a b; rw [sg]; exact dg_181_0 (by omega) k (by omega) (by omega)) | (intro t k a b; rw [sg]; exact dg_138_0 (by omega) k (by omega) (by omega)) | (intro t k a b; rw [sg, ← sg0, sgi k (by omega)]; omega) | (intro t; omega) | (intro t k a b; rw [sg]; rcases (by omega : k = p138_1 ∨ k < p138_1) with q | q <;> first | exact dg_138_0 (by omega) k (by omega) (by omega) | (subst q; omega)) | omega) (by first | assumption | omega | (subst_vars; omega) | omega) (by first | assumption | omega | (subst_vars; omega) | omega) (by first | assumption | omega | (subst_vars; omega) | omega) (by first | exact tk_A_e A_181_0 (by omega) (by omega) (by omega) | exact tk_A_s A_138_0 (by omega) (by omega) (by omega) (by omega) | exact tk_A_e A_138_0 (by omega) (by omega) (by omega) | exact tk_A_0 b52 (n52 (by omega)).1 (n52 (by omega)).2 k88 (by omega) (by omega) (by omega) | omega) (by omega) (by omega) (by omega)
              ·
                refine w_iconst gz_38_34 (by decide) ?_
                refine w_goto (t := 39) gz_38_35 rfl ?_
                refine w_iret gz_38_39 gm_38 ?_
                show wp l rho (d + 1) 37 84 [(2, 82), (9, 0), (9, 0)] [(0, 3), (2, 82)] h307 Q
                refine w_goto (t := 88) gz_37_84 rfl ?_
                have k88 : tk_k (h 92 st) = 3 := by rw [← c81]; unfold tk_k; (repeat (first | rw [if_pos (by omega)] | rw [if_neg (by omega)]))
                refine v_putI (j := 6) gz_37_88 rfl is_82 rd_5 rfl (by omega) (by omega) rfl (fun h345 fh345 => ?_)
                have gh345 : my_fr [(5, 5), (5, 6), (5, 7), (5, 8)] h h345 := my_fr.up gh307 is_82 fh345 rfl
                have Al_h345 : Al h345 := Al_ag (my_ag.up fh345 is_82 rfl) Al_h307
                refine w_aload_n gz_37_91 rfl ?_
                refine v_getI (j := 6) gz_37_92 rfl is_82 rd_5 rfl (fun v346 ev346 pv346 qv346 => ?_)
                have zv346 := ev346.trans (my_up_self fh345)
                refine w_ifne (t := 99) gz_37_95 rfl (fun u347 => ?_) (fun u347 => by exfalso; omega)
                refine w_aload_n gz_37_99 rfl ?_
                refine w_iconst gz_37_100 (by decide) ?_
                refine v_putI (j := 8) gz_37_101 rfl is_82 rd_5 rfl (by omega) (by omega) rfl (fun h348 fh348 => ?_)
                have gh348 : my_fr [(5, 5), (5, 6), (5, 7), (5, 8)] h h348 := my_fr.up gh345 is_82 fh348 rfl
                have Al_h348 : Al h348 := Al_ag (my_ag.up fh348 is_82 rfl) Al_h345
                refine w_aload_n gz_37_104 rfl ?_
                refine v_getI (j := 6) gz_37_105 rfl is_82 rd_5 rfl (fun v349 ev349 pv349 qv349 => ?_)
                have zv349 := ev349.trans ((my_up_fld fh348 (by decide)).trans ev346.symm)
                refine w_iconst gz_37_108 (by decide) ?_
                refine w_icne (t := 117) gz_37_109 rfl (fun u350 => ?_) (fun u350 => by exfalso; omega)
                refine w_aload_n gz_37_117 rfl ?_
                refine v_getI (j := 6) gz_37_118 rfl is_82 rd_5 rfl (fun v351 ev351 pv351 qv351 => ?_)
                have zv351 := ev351.trans ev349.symm
                refine w_iconst gz_37_121 (by decide) ?_
                refine w_icne (t := 129) gz_37_122 rfl (fun u352 => ?_) (fun u352 => by exfalso; omega)
                refine w_iconst gz_37_129 (by decide) ?_
                refine w_istore_n (ls' := [(2, 82), (0, 1), (9, 0)]) gz_37_130 gm_37 rfl rfl rfl ?_
                refine w_aload_n gz_37_131 rfl ?_
                refine v_getI (j := 7) gz_37_132 rfl is_82 rd_5 rfl (fun v353 ev353 pv353 qv353 => ?_)
                have zv353 := ev353.trans ((my_up_fld fh348 (by decide)).trans ((my_up_fld fh345 (by decide)).trans (my_up_self fh307)))
                refine w_iconst gz_37_135 (by decide) ?_
                refine w_iadd gz_37_136 ⟨by omega, by omega⟩ ?_
                refine w_istore_n (ls' := [(2, 82), (0, 1), (0, (v353 + 1))]) gz_37_137 gm_37 rfl rfl rfl ?_
                have ce354 : h348 82 5 = v312 := ((my_up_fld fh348 (by decide)).trans ((my_up_fld fh345 (by decide)).trans ev312.symm))
                have ce355 : h348 82 6 = v351 := ev351.symm
                have ce356 : h348 82 7 = v353 := ev353.symm
                have ce357 : h348 82 8 = 0 := (my_up_self fh348)
                have sg : ∀ j : Int, h348 92 j = h 92 j := fun j => ((my_up_role fh348 is_92 is_82 rfl).trans ((my_up_role fh345 is_92 is_82 rfl).trans ((my_up_role fh307 is_92 is_82 rfl).trans (rfl : h 92 j = h 92 j))))
                exact J138_0 (1001) (1) ((v353 + 1)) (v312) (v351) h348 (gh348) (by omega) (by omega) (by omega) (by omega) (by omega) (by omega) (by omega) (by omega) (by omega) (by omega) (by omega) (by omega) (by omega) (by omega) (by omega) (by omega) (((my_up_fld fh348 (by decide)).trans ((my_up_fld fh345 (by decide)).trans ev309.symm)).trans (by omega)) (((my_up_fld fh348 (by decide)).trans ((my_up_fld fh345 (by decide)).trans ev312.symm)).trans (by omega)) (ev351.symm.trans (by omega)) (ev353.symm.trans (by omega)) ((my_up_self fh348).trans (by omega)) (((my_up_fld fh348 (by decide)).trans ((my_up_fld fh345 (by decide)).trans ((my_up_fld fh307 (by decide)).trans cf))).trans (by omega)) (by omega) (by first | (intro t k a b; rw [sg]; exact dg_181_0 (by omega) k (by omega) (by omega)) | (intro t k a b; rw [sg]; exact dg_138_0 (by omega) k (by omega) (by omega)) | (intro t k a b; rw [sg, ← sg0, sgi k (by omega)]; omega) | (intro t; omega) | (intro t k a b; rw [sg]; rcases (by omega : k = p138_1 ∨ k < p138_1) with q | q <;> first | exact dg_138_0 (by omega) k (by omega) (by omega) | (subst q; omega)) | omega) (by first | assumption | omega | (subst_vars; omega) | omega) (by first | assumption | omega | (subst_vars; omega) | omega) (by first | assumption | omega | (subst_vars; omega) | omega) (by first | exact tk_A_e A_181_0 (by omega) (by omega) (by omega) | exact tk_A_s A_138_0 (by omega) (by omega) (by omega) (by omega) | exact tk_A_e A_138_0 (by omega) (by omega) (by omega) | exact tk_A_0 b52 (n52 (by omega)).1 (n52 (by omega)).2 k88 (by omega) (by omega) (by omega) | omega) (by omega) (by omega) (by omega)
            ·
              refine w_iconst gz_38_26 (by decide) ?_
              refine w_iret gz_38_27 gm_38 ?_
              show wp l rho (d + 1) 37 84 [(2, 82), (9, 0), (9, 0)] [(0, 2), (2, 82)] h307 Q
              refine w_goto (t := 88) gz_37_84 rfl ?_
              have k88 : tk_k (h 92 st) = 2 := by rw [← c81]; unfold tk_k; (repeat (first | rw [if_pos (by omega)] | rw [if_neg (by omega)]))
              refine v_putI (j := 6) gz_37_88 rfl is_82 rd_5 rfl (by omega) (by omega) rfl (fun h358 fh358 => ?_)
              have gh358 : my_fr [(5, 5), (5, 6), (5, 7), (5, 8)] h h358 := my_fr.up gh307 is_82 fh358 rfl
              have Al_h358 : Al h358 := Al_ag (my_ag.up fh358 is_82 rfl) Al_h307
              refine w_aload_n gz_37_91 rfl ?_
              refine v_getI (j := 6) gz_37_92 rfl is_82 rd_5 rfl (fun v359 ev359 pv359 qv359 => ?_)
              have zv359 := ev359.trans (my_up_self fh358)
              refine w_ifne (t := 99) gz_37_95 rfl (fun u360 => ?_) (fun u360 => by exfalso; omega)
              refine w_aload_n gz_37_99 rfl ?_
              refine w_iconst gz_37_100 (by decide) ?_
              refine v_putI (j := 8) gz_37_101 rfl is_82 rd_5 rfl (by omega) (by omega) rfl (fun h361 fh361 => ?_)
              have gh361 : my_fr [(5, 5), (5, 6), (5, 7), (5, 8)] h h361 := my_fr.up gh358 is_82 fh361 rfl
              have Al_h361 : Al h361 := Al_ag (my_ag.up fh361 is_82 rfl) Al_h358
              refine w_aload_n gz_37_104 rfl ?_
              refine v_getI (j := 6) gz_37_105 rfl is_82 rd_5 rfl (fun v362 ev362 pv362 qv362 => ?_)
              have zv362 := ev362.trans ((my_up_fld fh361 (by decide)).trans ev359.symm)
              refine w_iconst gz_37_108 (by decide) ?_
              refine w_icne (t := 117) gz_37_109 rfl (fun u363 => ?_) (fun u363 => by exfalso; omega)
              refine w_aload_n gz_37_117 rfl ?_
              refine v_getI (j := 6) gz_37_118 rfl is_82 rd_5 rfl (fun v364 ev364 pv364 qv364 => ?_)
              have zv364 := ev364.trans ev362.symm
              refine w_iconst gz_37_121 (by decide) ?_
              refine w_icne (t := 129) gz_37_122 rfl (fun u365 => by exfalso; omega) (fun u365 => ?_)
              refine w_iconst gz_37_125 (by decide) ?_
              refine w_goto (t := 130) gz_37_126 rfl ?_
              refine w_istore_n (ls' := [(2, 82), (0, 3), (9, 0)]) gz_37_130 gm_37 rfl rfl rfl ?_
              refine w_aload_n gz_37_131 rfl ?_
              refine v_getI (j := 7) gz_37_132 rfl is_82 rd_5 rfl (fun v366 ev366 pv366 qv366 => ?_)
              have zv366 := ev366.trans ((my_up_fld fh361 (by decide)).trans ((my_up_fld fh358 (by decide)).trans (my_up_self fh307)))
              refine w_iconst gz_37_135 (by decide) ?_
              refine w_iadd gz_37_136 ⟨by omega, by omega⟩ ?_
              refine w_istore_n (ls' := [(2, 82), (0, 3), (0, (v366 + 1))]) gz_37_137 gm_37 rfl rfl rfl ?_
              have ce367 : h361 82 5 = v312 := ((my_up_fld fh361 (by decide)).trans ((my_up_fld fh358 (by decide)).trans ev312.symm))
              have ce368 : h361 82 6 = v364 := ev364.symm
              have ce369 : h361 82 7 = v366 := ev366.symm
              have ce370 : h361 82 8 = 0 := (my_up_self fh361)
              have sg : ∀ j : Int, h361 92 j = h 92 j := fun j => ((my_up_role fh361 is_92 is_82 rfl).trans ((my_up_role fh358 is_92 is_82 rfl).trans ((my_up_role fh307 is_92 is_82 rfl).trans (rfl : h 92 j = h 92 j))))
              exact J138_0 (1001) (3) ((v366 + 1)) (v312) (v364) h361 (gh361) (by omega) (by omega) (by omega) (by omega) (by omega) (by omega) (by omega) (by omega) (by omega) (by omega) (by omega) (by omega) (by omega) (by omega) (by omega) (by omega) (((my_up_fld fh361 (by decide)).trans ((my_up_fld fh358 (by decide)).trans ev309.symm)).trans (by omega)) (((my_up_fld fh361 (by decide)).trans ((my_up_fld fh358 (by decide)).trans ev312.symm)).trans (by omega)) (ev364.symm.trans (by omega)) (ev366.symm.trans (by omega)) ((my_up_self fh361).trans (by omega)) (((my_up_fld fh361 (by decide)).trans ((my_up_fld fh358 (by decide)).trans ((my_up_fld fh307 (by decide)).trans cf))).trans (by omega)) (by omega) (by first | (intro t k a b; rw [sg]; exact dg_181_0 (by omega) k (by omega) (by omega)) | (intro t k a b; rw [sg]; exact dg_138_0 (by omega) k (by omega) (by omega)) | (intro t k a b; rw [sg, ← sg0, sgi k (by omega)]; omega) | (intro t; omega) | (intro t k a b; rw [sg]; rcases (by omega : k = p138_1 ∨ k < p138_1) with q | q <;> first | exact dg_138_0 (by omega) k (by omega) (by omega) | (subst q; omega)) | omega) (by first | assumption | omega | (subst_vars; omega) | omega) (by first | assumption | omega | (subst_vars; omega) | omega) (by first | assumption | omega | (subst_vars; omega) | omega) (by first | exact tk_A_e A_181_0 (by omega) (by omega) (by omega) | exact tk_A_s A_138_0 (by omega) (by omega) (by omega) (by omega) | exact tk_A_e A_138_0 (by omega) (by omega) (by omega) | exact tk_A_0 b52 (n52 (by omega)).1 (n52 (by omega)).2 k88 (by omega) (by omega) (by omega) | omega) (by omega) (by omega) (by omega)
        ·
          refine w_iload_n gz_38_6 rfl ?_
          refine w_bipush gz_38_7 (by decide) ?_
          refine w_icgt (t := 14) gz_38_9 rfl (fun u371 => ?_) (fun u371 => ?_)
          ·
            refine w_iload_n gz_38_14 rfl ?_
            refine w_bipush gz_38_15 (by decide) ?_
            refine w_iclt (t := 28) gz_38_17 rfl (fun u372 => by exfalso; omega) (fun u372 => ?_)
            refine w_iload_n gz_38_20 rfl ?_
            refine w_bipush gz_38_21 (by decide) ?_
            refine w_icgt (t := 28) gz_38_23 rfl (fun u373 => ?_) (fun u373 => by exfalso; omega)
            refine w_iload_n gz_38_28 rfl ?_
            refine w_bipush gz_38_29 (by decide) ?_
            refine w_icne (t := 38) gz_38_31 rfl (fun u374 => ?_) (fun u374 => by exfalso; omega)
            refine w_iconst gz_38_38 (by decide) ?_
            refine w_iret gz_38_39 gm_38 ?_
            show wp l rho (d + 1) 37 84 [(2, 82), (9, 0), (9, 0)] [(0, 4), (2, 82)] h307 Q
            refine w_goto (t := 88) gz_37_84 rfl ?_
            have k88 : tk_k (h 92 st) = 4 := by rw [← c81]; unfold tk_k; (repeat (first | rw [if_pos (by omega)] | rw [if_neg (by omega)]))
            refine v_putI (j := 6) gz_37_88 rfl is_82 rd_5 rfl (by omega) (by omega) rfl (fun h375 fh375 => ?_)
            have gh375 : my_fr [(5, 5), (5, 6), (5, 7), (5, 8)] h h375 := my_fr.up gh307 is_82 fh375 rfl
            have Al_h375 : Al h375 := Al_ag (my_ag.up fh375 is_82 rfl) Al_h307
            refine w_aload_n gz_37_91 rfl ?_
            refine v_getI (j := 6) gz_37_92 rfl is_82 rd_5 rfl (fun v376 ev376 pv376 qv376 => ?_)
            have zv376 := ev376.trans (my_up_self fh375)
            refine w_ifne (t := 99) gz_37_95 rfl (fun u377 => ?_) (fun u377 => by exfalso; omega)
            refine w_aload_n gz_37_99 rfl ?_
            refine w_iconst gz_37_100 (by decide) ?_
            refine v_putI (j := 8) gz_37_101 rfl is_82 rd_5 rfl (by omega) (by omega) rfl (fun h378 fh378 => ?_)
            have gh378 : my_fr [(5, 5), (5, 6), (5, 7), (5, 8)] h h378 := my_fr.up gh375 is_82 fh378 rfl
            have Al_h378 : Al h378 := Al_ag (my_ag.up fh378 is_82 rfl) Al_h375
            refine w_aload_n gz_37_104 rfl ?_
            refine v_getI (j := 6) gz_37_105 rfl is_82 rd_5 rfl (fun v379 ev379 pv379 qv379 => ?_)
            have zv379 := ev379.trans ((my_up_fld fh378 (by decide)).trans ev376.symm)
            refine w_iconst gz_37_108 (by decide) ?_
            refine w_icne (t := 117) gz_37_109 rfl (fun u380 => ?_) (fun u380 => by exfalso; omega)
            refine w_aload_n gz_37_117 rfl ?_
            refine v_getI (j := 6) gz_37_118 rfl is_82 rd_5 rfl (fun v381 ev381 pv381 qv381 => ?_)
            have zv381 := ev381.trans ev379.symm
            refine w_iconst gz_37_121 (by decide) ?_
            refine w_icne (t := 129) gz_37_122 rfl (fun u382 => ?_) (fun u382 => by exfalso; omega)
            refine w_iconst gz_37_129 (by decide) ?_
            refine w_istore_n (ls' := [(2, 82), (0, 1), (9, 0)]) gz_37_130 gm_37 rfl rfl rfl ?_
            refine w_aload_n gz_37_131 rfl ?_
            refine v_getI (j := 7) gz_37_132 rfl is_82 rd_5 rfl (fun v383 ev383 pv383 qv383 => ?_)
            have zv383 := ev383.trans ((my_up_fld fh378 (by decide)).trans ((my_up_fld fh375 (by decide)).trans (my_up_self fh307)))
            refine w_iconst gz_37_135 (by decide) ?_
            refine w_iadd gz_37_136 ⟨by omega, by omega⟩ ?_
            refine w_istore_n (ls' := [(2, 82), (0, 1), (0, (v383 + 1))]) gz_37_137 gm_37 rfl rfl rfl ?_
            have ce384 : h378 82 5 = v312 := ((my_up_fld fh378 (by decide)).trans ((my_up_fld fh375 (by decide)).trans ev312.symm))
            have ce385 : h378 82 6 = v381 := ev381.symm
            have ce386 : h378 82 7 = v383 := ev383.symm
            have ce387 : h378 82 8 = 0 := (my_up_self fh378)
            have sg : ∀ j : Int, h378 92 j = h 92 j := fun j => ((my_up_role fh378 is_92 is_82 rfl).trans ((my_up_role fh375 is_92 is_82 rfl).trans ((my_up_role fh307 is_92 is_82 rfl).trans (rfl : h 92 j = h 92 j))))
            exact J138_0 (1001) (1) ((v383 + 1)) (v312) (v381) h378 (gh378) (by omega) (by omega) (by omega) (by omega) (by omega) (by omega) (by omega) (by omega) (by omega) (by omega) (by omega) (by omega) (by omega) (by omega) (by omega) (by omega) (((my_up_fld fh378 (by decide)).trans ((my_up_fld fh375 (by decide)).trans ev309.symm)).trans (by omega)) (((my_up_fld fh378 (by decide)).trans ((my_up_fld fh375 (by decide)).trans ev312.symm)).trans (by omega)) (ev381.symm.trans (by omega)) (ev383.symm.trans (by omega)) ((my_up_self fh378).trans (by omega)) (((my_up_fld fh378 (by decide)).trans ((my_up_fld fh375 (by decide)).trans ((my_up_fld fh307 (by decide)).trans cf))).trans (by omega)) (by omega) (by first | (intro t k a b; rw [sg]; exact dg_181_0 (by omega) k (by omega) (by omega)) | (intro t k a b; rw [sg]; exact dg_138_0 (by omega) k (by omega) (by omega)) | (intro t k a b; rw [sg, ← sg0, sgi k (by omega)]; omega) | (intro t; omega) | (intro t k a b; rw [sg]; rcases (by omega : k = p138_1 ∨ k < p138_1) with q | q <;> first | exact dg_138_0 (by omega) k (by omega) (by omega) | (subst q; omega)) | omega) (by first | assumption | omega | (subst_vars; omega) | omega) (by first | assumption | omega | (subst_vars; omega) | omega) (by first | assumption | omega | (subst_vars; omega) | omega) (by first | exact tk_A_e A_181_0 (by omega) (by omega) (by omega) | exact tk_A_s A_138_0 (by omega) (by omega) (by omega) (by omega) | exact tk_A_e A_138_0 (by omega) (by omega) (by omega) | exact tk_A_0 b52 (n52 (by omega)).1 (n52 (by omega)).2 k88 (by omega) (by omega) (by omega) | omega) (by omega) (by omega) (by omega)
          ·
            refine w_iconst gz_38_12 (by decide) ?_
            refine w_iret gz_38_13 gm_38 ?_
            show wp l rho (d + 1) 37 84 [(2, 82), (9, 0), (9, 0)] [(0, 1), (2, 82)] h307 Q
            refine w_goto (t := 88) gz_37_84 rfl ?_
            have k88 : tk_k (h 92 st) = 1 := by rw [← c81]; unfold tk_k; (repeat (first | rw [if_pos (by omega)] | rw [if_neg (by omega)]))
            refine v_putI (j := 6) gz_37_88 rfl is_82 rd_5 rfl (by omega) (by omega) rfl (fun h388 fh388 => ?_)
            have gh388 : my_fr [(5, 5), (5, 6), (5, 7), (5, 8)] h h388 := my_fr.up gh307 is_82 fh388 rfl
            have Al_h388 : Al h388 := Al_ag (my_ag.up fh388 is_82 rfl) Al_h307
            refine w_aload_n gz_37_91 rfl ?_
            refine v_getI (j := 6) gz_37_92 rfl is_82 rd_5 rfl (fun v389 ev389 pv389 qv389 => ?_)
            have zv389 := ev389.trans (my_up_self fh388)
            refine w_ifne (t := 99) gz_37_95 rfl (fun u390 => ?_) (fun u390 => by exfalso; omega)
            refine w_aload_n gz_37_99 rfl ?_
            refine w_iconst gz_37_100 (by decide) ?_
            refine v_putI (j := 8) gz_37_101 rfl is_82 rd_5 rfl (by omega) (by omega) rfl (fun h391 fh391 => ?_)
            have gh391 : my_fr [(5, 5), (5, 6), (5, 7), (5, 8)] h h391 := my_fr.up gh388 is_82 fh391 rfl
            have Al_h391 : Al h391 := Al_ag (my_ag.up fh391 is_82 rfl) Al_h388
            refine w_aload_n gz_37_104 rfl ?_
            refine v_getI (j := 6) gz_37_105 rfl is_82 rd_5 rfl (fun v392 ev392 pv392 qv392 => ?_)
            have zv392 := ev392.trans ((my_up_fld fh391 (by decide)).trans ev389.symm)
            refine w_iconst gz_37_108 (by decide) ?_
            refine w_icne (t := 117) gz_37_109 rfl (fun u393 => by exfalso; omega) (fun u393 => ?_)
            refine w_bipush gz_37_112 (by decide) ?_
            refine w_goto (t := 130) gz_37_114 rfl ?_
            refine w_istore_n (ls' := [(2, 82), (0, 8), (9, 0)]) gz_37_130 gm_37 rfl rfl rfl ?_
            refine w_aload_n gz_37_131 rfl ?_
            refine v_getI (j := 7) gz_37_132 rfl is_82 rd_5 rfl (fun v394 ev394 pv394 qv394 => ?_)
            have zv394 := ev394.trans ((my_up_fld fh391 (by decide)).trans ((my_up_fld fh388 (by decide)).trans (my_up_self fh307)))
            refine w_iconst gz_37_135 (by decide) ?_
            refine w_iadd gz_37_136 ⟨by omega, by omega⟩ ?_
            refine w_istore_n (ls' := [(2, 82), (0, 8), (0, (v394 + 1))]) gz_37_137 gm_37 rfl rfl rfl ?_
            have ce395 : h391 82 5 = v312 := ((my_up_fld fh391 (by decide)).trans ((my_up_fld fh388 (by decide)).trans ev312.symm))
            have ce396 : h391 82 6 = v392 := ev392.symm
            have ce397 : h391 82 7 = v394 := ev394.symm
            have ce398 : h391 82 8 = 0 := (my_up_self fh391)
            have sg : ∀ j : Int, h391 92 j = h 92 j := fun j => ((my_up_role fh391 is_92 is_82 rfl).trans ((my_up_role fh388 is_92 is_82 rfl).trans ((my_up_role fh307 is_92 is_82 rfl).trans (rfl : h 92 j = h 92 j))))
            exact J138_0 (1001) (8) ((v394 + 1)) (v312) (v392) h391 (gh391) (by omega) (by omega) (by omega) (by omega) (by omega) (by omega) (by omega) (by omega) (by omega) (by omega) (by omega) (by omega) (by omega) (by omega) (by omega) (by omega) (((my_up_fld fh391 (by decide)).trans ((my_up_fld fh388 (by decide)).trans ev309.symm)).trans (by omega)) (((my_up_fld fh391 (by decide)).trans ((my_up_fld fh388 (by decide)).trans ev312.symm)).trans (by omega)) (ev392.symm.trans (by omega)) (ev394.symm.trans (by omega)) ((my_up_self fh391).trans (by omega)) (((my_up_fld fh391 (by decide)).trans ((my_up_fld fh388 (by decide)).trans ((my_up_fld fh307 (by decide)).trans cf))).trans (by omega)) (by omega) (by first | (intro t k a b; rw [sg]; exact dg_181_0 (by omega) k (by omega) (by omega)) | (intro t k a b; rw [sg]; exact dg_138_0 (by omega) k (by omega) (by omega)) | (intro t k a b; rw [sg, ← sg0, sgi k (by omega)]; omega) | (intro t; omega) | (intro t k a b; rw [sg]; rcases (by omega : k = p138_1 ∨ k < p138_1) with q | q <;> first | exact dg_138_0 (by omega) k (by omega) (by omega) | (subst q; omega)) | omega) (by first | assumption | omega | (subst_vars; omega) | omega) (by first | assumption | omega | (subst_vars; omega) | omega) (by first | assumption | omega | (subst_vars; omega) | omega) (by first | exact tk_A_e A_181_0 (by omega) (by omega) (by omega) | exact tk_A_s A_138_0 (by omega) (by omega) (by omega) (by omega) | exact tk_A_e A_138_0 (by omega) (by omega) (by omega) | exact tk_A_0 b52 (n52 (by omega)).1 (n52 (by omega)).2 k88 (by omega) (by omega) (by omega) | omega) (by omega) (by omega) (by omega)
      ·
        refine w_aload_n gz_37_39 rfl ?_
        refine w_dup gz_37_40 rfl ?_
        refine v_getI (j := 5) gz_37_41 rfl is_82 rd_5 rfl (fun v399 ev399 pv399 qv399 => ?_)
        have zv399 := ev399.trans ev303.symm
        refine w_iconst gz_37_44 (by decide) ?_
        refine w_iadd gz_37_45 ⟨by omega, by omega⟩ ?_
        refine v_putI (j := 5) gz_37_46 rfl is_82 rd_5 rfl (by omega) (by omega) rfl (fun h400 fh400 => ?_)
        have gh400 : my_fr [(5, 5), (5, 6), (5, 7), (5, 8)] h h400 := my_fr.up my_fr.rf is_82 fh400 rfl
        have b46 : ∀ i : Int, h 82 5 ≤ i → i < h400 82 5 → h 92 i = 10 ∨ h 92 i = 32 := by
          have z := my_up_self fh400
          intro i a b
          rcases (by omega : i = h 82 5 ∨ i < h 82 5) with q | q
          · rw [q]; omega
          · first | exact bl_0_0 i a q | omega
        refine w_goto (t := 0) gz_37_49 rfl ?_
        have ce401 : h400 82 5 = (v399 + 1) := (my_up_self fh400)
        exact J0_0 (1001) ((v399 + 1)) h400 (gh400) (by omega) (by omega) (by omega) (by omega) (by omega) (by omega) (by omega) (((my_up_fld fh400 (by decide)).trans ev277.symm).trans (by omega)) ((my_up_self fh400).trans (by omega)) (((my_up_fld fh400 (by decide)).trans cf).trans (by omega)) (b46) (by omega)
end MYNReader_nextToken9_f0
