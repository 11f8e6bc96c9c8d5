/-! contracts, printed by wip/gen/gy.py -/
section MYNReader_nextToken9_f0
theorem c_Reader_nextToken9_f0 {l : Launch} {rho : Nat → Int32} {d : Nat} {h : my_H} {Q : my_H → my_V → Prop} (cf : h 82 9 = 0) (n_Al : Al h) (k0 : ∀ (h' : my_H), my_fr [(5, 5), (5, 6), (5, 7), (5, 8)] h h' → 0 ≤ h' 82 6 → h' 82 6 ≤ 4 → h' 82 9 = 0 → (Cu h → h' 82 7 = sN (cs h) (h 82 7)) → h' 82 7 = tS (tp_of h) (h 82 5) → Al h' → Cu h' → Q h' (9, 0)) : wp l rho (d + 1) 37 0 [(2, 82), (9, 0), (9, 0)] [] h Q := by
  refine v_know (x := 82) (j := 4) (b := 4) rfl is_82 rd_5 rfl (fun k82_4 ek82_4 pk82_4 qk82_4 => ?_)
  refine v_know (x := 82) (j := 5) (b := 5) rfl is_82 rd_5 rfl (fun k82_5 ek82_5 pk82_5 qk82_5 => ?_)
  have al0 : h 82 5 ≤ h 82 4 := n_Al
  have J181_0 : ∀ (n : Nat) (p181_0 p181_1 p181_2 p181_3 p181_4 p181_5 : Int) (h181_0 : my_H), my_fr [(5, 5), (5, 6), (5, 7), (5, 8)] h h181_0 → 1 ≤ p181_0 → p181_0 ≤ 8 → 1 ≤ p181_1 → p181_1 ≤ 1000 → 1 ≤ k82_4 → 0 ≤ p181_4 → p181_4 ≤ 999 → 1 ≤ p181_3 → p181_3 ≤ 4 → 0 ≤ p181_5 → p181_5 ≤ 999 → 0 ≤ p181_2 → p181_2 ≤ 1000 → k82_5 ≤ 999 → p181_4 ≤ (p181_1 - 1) → p181_4 ≤ p181_2 → p181_2 ≤ p181_1 → k82_5 ≤ (p181_1 - 1) → k82_5 ≤ p181_4 → k82_5 ≤ p181_2 → h181_0 82 4 = k82_4 → h181_0 82 5 = p181_2 → h181_0 82 6 = p181_3 → h181_0 82 7 = p181_4 → h181_0 82 8 = p181_5 → h181_0 82 9 = 0 → (h181_0 82 6 = 2 → p181_0 = 3) → (h181_0 82 6 = 2 → ∀ k : Int, h181_0 82 7 ≤ k → k < p181_1 → 48 ≤ h181_0 92 k ∧ h181_0 92 k ≤ 57) → h181_0 82 7 ≤ h181_0 82 5 → ((h181_0 82 5 = h181_0 82 7 → h181_0 82 8 = 0) ∧ (h181_0 82 5 = h181_0 82 7 + 1 → h181_0 82 8 ≤ 9) ∧ (h181_0 82 5 = h181_0 82 7 + 2 → h181_0 82 8 ≤ 99) ∧ 0 ≤ h181_0 82 8) → tk_A (h 92) (h 82 5) (h181_0 82 7) p181_1 (h181_0 82 6) → tk_N (h 92) k82_4 (h181_0 82 7) p181_1 (h181_0 82 6) → ((h181_0 82 6 = 1 → p181_0 = 8) ∧ (h181_0 82 6 = 2 → p181_0 = 3) ∧ (3 ≤ h181_0 82 6 → p181_0 = 1)) → tk_D (h 92) (h181_0 82 7) (h181_0 82 5) (h181_0 82 6) (h181_0 82 8) → p181_1 ≤ k82_4 → 1001 - h181_0 82 5 ≤ (n : Int) → wp l rho (d + 1) 37 181 [(2, 82), (0, p181_0), (0, p181_1)] [] h181_0 Q := by
    intro n
    induction n with
    | zero => intro p181_0 p181_1 p181_2 p181_3 p181_4 p181_5 h181_0 gh_181_0 q0_181_0 q1_181_0 q2_181_0 q3_181_0 q4_181_0 q5_181_0 q6_181_0 q7_181_0 q8_181_0 q9_181_0 q10_181_0 q11_181_0 q12_181_0 q13_181_0 q14_181_0 q15_181_0 q16_181_0 q17_181_0 q18_181_0 q19_181_0 c82_4_181_0 c82_5_181_0 c82_6_181_0 c82_7_181_0 c82_8_181_0 c82_9_181_0 tk_181_0 dg_181_0 se_181_0 nb_181_0 A_181_0 E_181_0 mo_181_0 D_181_0 lq_181_0 hm_181_0; exfalso; omega
    | succ n ih_181_0 =>
      intro p181_0 p181_1 p181_2 p181_3 p181_4 p181_5 h181_0 gh_181_0 q0_181_0 q1_181_0 q2_181_0 q3_181_0 q4_181_0 q5_181_0 q6_181_0 q7_181_0 q8_181_0 q9_181_0 q10_181_0 q11_181_0 q12_181_0 q13_181_0 q14_181_0 q15_181_0 q16_181_0 q17_181_0 q18_181_0 q19_181_0 c82_4_181_0 c82_5_181_0 c82_6_181_0 c82_7_181_0 c82_8_181_0 c82_9_181_0 tk_181_0 dg_181_0 se_181_0 nb_181_0 A_181_0 E_181_0 mo_181_0 D_181_0 lq_181_0 hm_181_0
      refine w_aload_n gz_37_181 rfl ?_
      refine v_getI (j := 5) gz_37_182 rfl is_82 rd_5 rfl (fun v1 ev1 pv1 qv1 => ?_)
      have zv1 := ev1.trans c82_5_181_0
      refine w_iload_n gz_37_185 rfl ?_
      refine w_icge (t := 247) gz_37_186 rfl (fun u2 => ?_) (fun u2 => ?_)
      ·
        have e2r := E_181_0.2
        refine w_iload_n gz_37_247 rfl ?_
        refine w_aload_n gz_37_248 rfl ?_
        refine v_getI (j := 7) gz_37_249 rfl is_82 rd_5 rfl (fun v3 ev3 pv3 qv3 => ?_)
        have zv3 := ev3.trans c82_7_181_0
        refine w_isub gz_37_252 ⟨by omega, by omega⟩ ?_
        refine w_iload_n gz_37_253 rfl ?_
        refine w_icle (t := 262) gz_37_254 rfl (fun u4 => ?_) (fun u4 => ?_)
        ·
          have ce5 : h181_0 82 4 = k82_4 := c82_4_181_0
          have ce6 : h181_0 82 5 = v1 := ev1.symm
          have ce7 : h181_0 82 6 = p181_3 := c82_6_181_0
          have ce8 : h181_0 82 7 = v3 := ev3.symm
          have ce9 : h181_0 82 8 = p181_5 := c82_8_181_0
          have TT : tk_T (h 92) (h 82 4) (h 82 5) (h181_0 82 7) (h181_0 82 5) (h181_0 82 6) (h181_0 82 8) := by first | exact tk_end b52 (by omega) (by omega) (by omega) (by omega) (by omega) | exact tk_fin A_181_0 E_181_0 D_181_0 (by omega) (by omega) (by omega) (by omega) (by omega) (by omega) (by omega) (by omega) (by omega)
          have Al_h181_0t10 : Al h181_0 := by unfold Al; omega
          have Cu_h181_0t11 : Cu h181_0 := Cu_T TT (fun j => my_fr.at gh_181_0 is_92 rfl) (my_fr.at gh_181_0 is_82 rfl)
          have c12 := c82_6_181_0
          have c13 := c82_9_181_0
          exact w_vret gz_37_262 gm_37 (k0 h181_0 (gh_181_0) (by omega) (by omega) (by omega) (by first | exact T_s TT | exact T_ns (T_s TT) | omega) (by first | exact T_s TT | exact T_ns (T_s TT) | omega) Al_h181_0t10 Cu_h181_0t11)
        ·
          refine w_aload_n gz_37_257 rfl ?_
          refine w_iconst gz_37_258 (by decide) ?_
          refine v_putI (j := 6) gz_37_259 rfl is_82 rd_5 rfl (by omega) (by omega) rfl (fun h14 fh14 => ?_)
          have gh14 : my_fr [(5, 5), (5, 6), (5, 7), (5, 8)] h h14 := my_fr.up gh_181_0 is_82 fh14 rfl
          have ce15 : h14 82 4 = k82_4 := ((my_up_fld fh14 (by decide)).trans c82_4_181_0)
          have ce16 : h14 82 5 = v1 := ((my_up_fld fh14 (by decide)).trans ev1.symm)
          have ce17 : h14 82 6 = 4 := (my_up_self fh14)
          have ce18 : h14 82 7 = v3 := ((my_up_fld fh14 (by decide)).trans ev3.symm)
          have ce19 : h14 82 8 = p181_5 := ((my_up_fld fh14 (by decide)).trans c82_8_181_0)
          have TT : tk_T (h 92) (h 82 4) (h 82 5) (h14 82 7) (h14 82 5) (h14 82 6) (h14 82 8) := by first | exact tk_end b52 (by omega) (by omega) (by omega) (by omega) (by omega) | exact tk_fin A_181_0 E_181_0 D_181_0 (by omega) (by omega) (by omega) (by omega) (by omega) (by omega) (by omega) (by omega) (by omega)
          have Al_h14t20 : Al h14 := by unfold Al; omega
          have Cu_h14t21 : Cu h14 := Cu_T TT (fun j => my_fr.at gh14 is_92 rfl) (my_fr.at gh14 is_82 rfl)
          have c22 := (my_up_self fh14)
          have c23 := ((my_up_fld fh14 (by decide)).trans c82_9_181_0)
          exact w_vret gz_37_262 gm_37 (k0 h14 (gh14) (by omega) (by omega) (by omega) (by first | exact T_s TT | exact T_ns (T_s TT) | omega) (by first | exact T_s TT | exact T_ns (T_s TT) | omega) Al_h14t20 Cu_h14t21)
      ·
        refine w_aload_n gz_37_189 rfl ?_
        refine v_getI (j := 6) gz_37_190 rfl is_82 rd_5 rfl (fun v24 ev24 pv24 qv24 => ?_)
        have zv24 := ev24.trans c82_6_181_0
        refine w_iconst gz_37_193 (by decide) ?_
        refine w_icne (t := 234) gz_37_194 rfl (fun u25 => ?_) (fun u25 => ?_)
        ·
          refine w_aload_n gz_37_234 rfl ?_
          refine w_dup gz_37_235 rfl ?_
          refine v_getI (j := 5) gz_37_236 rfl is_82 rd_5 rfl (fun v26 ev26 pv26 qv26 => ?_)
          have zv26 := ev26.trans ev1.symm
          refine w_iconst gz_37_239 (by decide) ?_
          refine w_iadd gz_37_240 ⟨by omega, by omega⟩ ?_
          refine v_putI (j := 5) gz_37_241 rfl is_82 rd_5 rfl (by omega) (by omega) rfl (fun h27 fh27 => ?_)
          have gh27 : my_fr [(5, 5), (5, 6), (5, 7), (5, 8)] h h27 := my_fr.up gh_181_0 is_82 fh27 rfl
          refine w_goto (t := 181) gz_37_244 rfl ?_
          have ce28 : h27 82 5 = (v26 + 1) := (my_up_self fh27)
          have ce29 : h27 82 6 = v24 := ((my_up_fld fh27 (by decide)).trans ev24.symm)
          have ce30 : h27 82 7 = p181_4 := ((my_up_fld fh27 (by decide)).trans c82_7_181_0)
          have ce31 : h27 82 8 = p181_5 := ((my_up_fld fh27 (by decide)).trans c82_8_181_0)
          have sg : ∀ j : Int, h27 92 j = h181_0 92 j := fun j => ((my_up_role fh27 is_92 is_82 rfl).trans (rfl : h181_0 92 j = h181_0 92 j))
          exact ih_181_0 (p181_0) (p181_1) ((v26 + 1)) (v24) (p181_4) (p181_5) h27 (gh27) (by omega) (by omega) (by omega) (by omega) (by omega) (by omega) (by omega) (by omega) (by omega) (by omega) (by omega) (by omega) (by omega) (by omega) (by omega) (by omega) (by omega) (by omega) (by omega) (by omega) (((my_up_fld fh27 (by decide)).trans c82_4_181_0).trans (by omega)) ((my_up_self fh27).trans (by omega)) (((my_up_fld fh27 (by decide)).trans ev24.symm).trans (by omega)) (((my_up_fld fh27 (by decide)).trans c82_7_181_0).trans (by omega)) (((my_up_fld fh27 (by decide)).trans c82_8_181_0).trans (by omega)) (((my_up_fld fh27 (by decide)).trans c82_9_181_0).trans (by omega)) (by omega) (by first | (intro t k a b; rw [sg]; exact dg_181_0 (by omega) k (by omega) (by omega)) | (intro t k a b; rw [sg]; exact dg_138_0 (by omega) k (by omega) (by omega)) | (intro t k a b; rw [sg, ← sg0, sgi k (by omega)]; omega) | (intro t; omega) | (intro t k a b; rw [sg]; rcases (by omega : k = p181_1 ∨ k < p181_1) with q | q <;> first | exact dg_138_0 (by omega) k (by omega) (by omega) | (subst q; omega)) | omega) (by first | assumption | omega | (subst_vars; omega) | omega) (by first | assumption | omega | (subst_vars; omega) | omega) (by first | exact tk_A_e A_181_0 (by omega) (by omega) (by omega) | exact tk_A_s A_138_0 (by omega) (by omega) (by omega) (by omega) | exact tk_A_e A_138_0 (by omega) (by omega) (by omega) | exact tk_A_0 b52 (n52 (by omega)).1 (n52 (by omega)).2 k88 (by omega) (by omega) (by omega) | omega) (by first | exact tk_N_e E_181_0 (by omega) (by omega) (by omega) | exact tk_N_e e173 (by omega) (by omega) (by omega) | omega) (by omega) (by first | exact tk_D_0 (by omega) (by omega) | exact tk_D_n (by omega) | exact tk_D_3 D_181_0 (by omega) (by omega) (by omega) (by omega) (by omega) | exact tk_D_s D_181_0 (by omega) (by omega) c227 (by omega) (by omega) (by omega) (by omega) (by omega) | omega) (by omega) (by omega)
        ·
          refine w_aload_n gz_37_197 rfl ?_
          refine v_getI (j := 5) gz_37_198 rfl is_82 rd_5 rfl (fun v32 ev32 pv32 qv32 => ?_)
          have zv32 := ev32.trans ev1.symm
          refine w_aload_n gz_37_201 rfl ?_
          refine v_getI (j := 7) gz_37_202 rfl is_82 rd_5 rfl (fun v33 ev33 pv33 qv33 => ?_)
          have zv33 := ev33.trans c82_7_181_0
          refine w_isub gz_37_205 ⟨by omega, by omega⟩ ?_
          refine w_iload_n gz_37_206 rfl ?_
          refine w_icge (t := 234) gz_37_207 rfl (fun u34 => ?_) (fun u34 => ?_)
          ·
            refine w_aload_n gz_37_234 rfl ?_
            refine w_dup gz_37_235 rfl ?_
            refine v_getI (j := 5) gz_37_236 rfl is_82 rd_5 rfl (fun v35 ev35 pv35 qv35 => ?_)
            have zv35 := ev35.trans ev32.symm
            refine w_iconst gz_37_239 (by decide) ?_
            refine w_iadd gz_37_240 ⟨by omega, by omega⟩ ?_
            refine v_putI (j := 5) gz_37_241 rfl is_82 rd_5 rfl (by omega) (by omega) rfl (fun h36 fh36 => ?_)
            have gh36 : my_fr [(5, 5), (5, 6), (5, 7), (5, 8)] h h36 := my_fr.up gh_181_0 is_82 fh36 rfl
            refine w_goto (t := 181) gz_37_244 rfl ?_
            have ce37 : h36 82 5 = (v35 + 1) := (my_up_self fh36)
            have ce38 : h36 82 6 = v24 := ((my_up_fld fh36 (by decide)).trans ev24.symm)
            have ce39 : h36 82 7 = v33 := ((my_up_fld fh36 (by decide)).trans ev33.symm)
            have ce40 : h36 82 8 = p181_5 := ((my_up_fld fh36 (by decide)).trans c82_8_181_0)
            have sg : ∀ j : Int, h36 92 j = h181_0 92 j := fun j => ((my_up_role fh36 is_92 is_82 rfl).trans (rfl : h181_0 92 j = h181_0 92 j))
            exact ih_181_0 (p181_0) (p181_1) ((v35 + 1)) (v24) (v33) (p181_5) h36 (gh36) (by omega) (by omega) (by omega) (by omega) (by omega) (by omega) (by omega) (by omega) (by omega) (by omega) (by omega) (by omega) (by omega) (by omega) (by omega) (by omega) (by omega) (by omega) (by omega) (by omega) (((my_up_fld fh36 (by decide)).trans c82_4_181_0).trans (by omega)) ((my_up_self fh36).trans (by omega)) (((my_up_fld fh36 (by decide)).trans ev24.symm).trans (by omega)) (((my_up_fld fh36 (by decide)).trans ev33.symm).trans (by omega)) (((my_up_fld fh36 (by decide)).trans c82_8_181_0).trans (by omega)) (((my_up_fld fh36 (by decide)).trans c82_9_181_0).trans (by omega)) (by omega) (by first | (intro t k a b; rw [sg]; exact dg_181_0 (by omega) k (by omega) (by omega)) | (intro t k a b; rw [sg]; exact dg_138_0 (by omega) k (by omega) (by omega)) | (intro t k a b; rw [sg, ← sg0, sgi k (by omega)]; omega) | (intro t; omega) | (intro t k a b; rw [sg]; rcases (by omega : k = p181_1 ∨ k < p181_1) with q | q <;> first | exact dg_138_0 (by omega) k (by omega) (by omega) | (subst q; omega)) | omega) (by first | assumption | omega | (subst_vars; omega) | omega) (by first | assumption | omega | (subst_vars; omega) | omega) (by first | exact tk_A_e A_181_0 (by omega) (by omega) (by omega) | exact tk_A_s A_138_0 (by omega) (by omega) (by omega) (by omega) | exact tk_A_e A_138_0 (by omega) (by omega) (by omega) | exact tk_A_0 b52 (n52 (by omega)).1 (n52 (by omega)).2 k88 (by omega) (by omega) (by omega) | omega) (by first | exact tk_N_e E_181_0 (by omega) (by omega) (by omega) | exact tk_N_e e173 (by omega) (by omega) (by omega) | omega) (by omega) (by first | exact tk_D_0 (by omega) (by omega) | exact tk_D_n (by omega) | exact tk_D_3 D_181_0 (by omega) (by omega) (by omega) (by omega) (by omega) | exact tk_D_s D_181_0 (by omega) (by omega) c227 (by omega) (by omega) (by omega) (by omega) (by omega) | omega) (by omega) (by omega)
          ·
            refine w_aload_n gz_37_210 rfl ?_
            refine w_bipush gz_37_211 (by decide) ?_
            refine w_aload_n gz_37_213 rfl ?_
            refine v_getI (j := 8) gz_37_214 rfl is_82 rd_5 rfl (fun v41 ev41 pv41 qv41 => ?_)
            have zv41 := ev41.trans c82_8_181_0
            refine w_imul gz_37_217 ⟨by omega, by omega⟩ ?_
            refine w_aload_n gz_37_218 rfl ?_
            refine w_getX (v := 92) gz_37_219 is_82 rd_5 rfl (by decide) rfl ?_
            refine w_aload_n gz_37_222 rfl ?_
            refine v_getI (j := 5) gz_37_223 rfl is_82 rd_5 rfl (fun v43 ev43 pv43 qv43 => ?_)
            have zv43 := ev43.trans ev32.symm
            have dd := dg_181_0 (by omega) v43 (by omega) (by omega)
            refine w_yald gz_37_226 is_92 rd_40 (by omega) (by omega) (fun v44 ev44 pv44 qv44 => ?_)
            have c227 : v44 = h 92 v43 := by
              have z : h181_0 92 v43 = h 92 v43 := by first | rfl | exact my_fr.at gh_181_0 is_92 rfl
              omega
            refine w_iadd gz_37_227 ⟨by omega, by omega⟩ ?_
            refine w_bipush gz_37_228 (by decide) ?_
            refine w_isub gz_37_230 ⟨by omega, by omega⟩ ?_
            have hi45 : 0 ≤ (((10 * v41) + v44) - 48) := by omega
            have hi46 : (((10 * v41) + v44) - 48) ≤ 999 := by omega
            refine v_putI (j := 8) gz_37_231 rfl is_82 rd_5 rfl (by omega) (by omega) rfl (fun h47 fh47 => ?_)
            have gh47 : my_fr [(5, 5), (5, 6), (5, 7), (5, 8)] h h47 := my_fr.up gh_181_0 is_82 fh47 rfl
            refine w_aload_n gz_37_234 rfl ?_
            refine w_dup gz_37_235 rfl ?_
            refine v_getI (j := 5) gz_37_236 rfl is_82 rd_5 rfl (fun v48 ev48 pv48 qv48 => ?_)
            have zv48 := ev48.trans ((my_up_fld fh47 (by decide)).trans ev43.symm)
            refine w_iconst gz_37_239 (by decide) ?_
            refine w_iadd gz_37_240 ⟨by omega, by omega⟩ ?_
            refine v_putI (j := 5) gz_37_241 rfl is_82 rd_5 rfl (by omega) (by omega) rfl (fun h49 fh49 => ?_)
            have gh49 : my_fr [(5, 5), (5, 6), (5, 7), (5, 8)] h h49 := my_fr.up gh47 is_82 fh49 rfl
            refine w_goto (t := 181) gz_37_244 rfl ?_
            have ce50 : h49 82 5 = (v48 + 1) := (my_up_self fh49)
            have ce51 : h49 82 6 = v24 := ((my_up_fld fh49 (by decide)).trans ((my_up_fld fh47 (by decide)).trans ev24.symm))
            have ce52 : h49 82 7 = v33 := ((my_up_fld fh49 (by decide)).trans ((my_up_fld fh47 (by decide)).trans ev33.symm))
            have ce53 : h49 82 8 = (((10 * v41) + v44) - 48) := ((my_up_fld fh49 (by decide)).trans (my_up_self fh47))
            have sg : ∀ j : Int, h49 92 j = h181_0 92 j := fun j => ((my_up_role fh49 is_92 is_82 rfl).trans ((my_up_role fh47 is_92 is_82 rfl).trans (rfl : h181_0 92 j = h181_0 92 j)))
            exact ih_181_0 (p181_0) (p181_1) ((v48 + 1)) (v24) (v33) ((((10 * v41) + v44) - 48)) h49 (gh49) (by omega) (by omega) (by omega) (by omega) (by omega) (by omega) (by omega) (by omega) (by omega) (by omega) (by omega) (by omega) (by omega) (by omega) (by omega) (by omega) (by omega) (by omega) (by omega) (by omega) (((my_up_fld fh49 (by decide)).trans ((my_up_fld fh47 (by decide)).trans c82_4_181_0)).trans (by omega)) ((my_up_self fh49).trans (by omega)) (((my_up_fld fh49 (by decide)).trans ((my_up_fld fh47 (by decide)).trans ev24.symm)).trans (by omega)) (((my_up_fld fh49 (by decide)).trans ((my_up_fld fh47 (by decide)).trans ev33.symm)).trans (by omega)) (((my_up_fld fh49 (by decide)).trans (my_up_self fh47)).trans (by omega)) (((my_up_fld fh49 (by decide)).trans ((my_up_fld fh47 (by decide)).trans c82_9_181_0)).trans (by omega)) (by omega) (by first | (intro t k a b; rw [sg]; exact dg_181_0 (by omega) k (by omega) (by omega)) | (intro t k a b; rw [sg]; exact dg_138_0 (by omega) k (by omega) (by omega)) | (intro t k a b; rw [sg, ← sg0, sgi k (by omega)]; omega) | (intro t; omega) | (intro t k a b; rw [sg]; rcases (by omega : k = p181_1 ∨ k < p181_1) with q | q <;> first | exact dg_138_0 (by omega) k (by omega) (by omega) | (subst q; omega)) | omega) (by first | assumption | omega | (subst_vars; omega) | omega) (by first | assumption | omega | (subst_vars; omega) | omega) (by first | exact tk_A_e A_181_0 (by omega) (by omega) (by omega) | exact tk_A_s A_138_0 (by omega) (by omega) (by omega) (by omega) | exact tk_A_e A_138_0 (by omega) (by omega) (by omega) | exact tk_A_0 b52 (n52 (by omega)).1 (n52 (by omega)).2 k88 (by omega) (by omega) (by omega) | omega) (by first | exact tk_N_e E_181_0 (by omega) (by omega) (by omega) | exact tk_N_e e173 (by omega) (by omega) (by omega) | omega) (by omega) (by first | exact tk_D_0 (by omega) (by omega) | exact tk_D_n (by omega) | exact tk_D_3 D_181_0 (by omega) (by omega) (by omega) (by omega) (by omega) | exact tk_D_s D_181_0 (by omega) (by omega) c227 (by omega) (by omega) (by omega) (by omega) (by omega) | omega) (by omega) (by omega)
  have J138_0 : ∀ (n : Nat) (p138_0 p138_1 p138_2 p138_3 : Int) (h138_0 : my_H), my_fr [(5, 5), (5, 6), (5, 7), (5, 8)] h h138_0 → 1 ≤ p138_0 → p138_0 ≤ 8 → 1 ≤ p138_1 → p138_1 ≤ 1000 → 1 ≤ k82_4 → 0 ≤ p138_2 → p138_2 ≤ 999 → 1 ≤ p138_3 → p138_3 ≤ 4 → k82_5 ≤ 999 → p138_1 ≤ k82_4 → p138_2 ≤ (p138_1 - 1) → p138_2 ≤ (k82_4 - 1) → k82_5 ≤ (p138_1 - 1) → k82_5 ≤ p138_2 → k82_5 ≤ (k82_4 - 1) → h138_0 82 4 = k82_4 → h138_0 82 5 = p138_2 → h138_0 82 6 = p138_3 → h138_0 82 7 = p138_2 → h138_0 82 8 = 0 → h138_0 82 9 = 0 → (h138_0 82 6 = 2 → p138_0 = 3) → (h138_0 82 6 = 2 → ∀ k : Int, h138_0 82 7 ≤ k → k < p138_1 → 48 ≤ h138_0 92 k ∧ h138_0 92 k ≤ 57) → h138_0 82 7 + 1 ≤ p138_1 → h138_0 82 8 = 0 → p138_1 ≤ 1000 → tk_A (h 92) (h 82 5) (h138_0 82 7) p138_1 (h138_0 82 6) → ((h138_0 82 6 = 1 → p138_0 = 8) ∧ (h138_0 82 6 = 2 → p138_0 = 3) ∧ (3 ≤ h138_0 82 6 → p138_0 = 1)) → (p138_0 = 1 → p138_1 = h138_0 82 7 + 1) → 1001 - p138_1 ≤ (n : Int) → wp l rho (d + 1) 37 138 [(2, 82), (0, p138_0), (0, p138_1)] [] h138_0 Q := by
    intro n
    induction n with
    | zero => intro p138_0 p138_1 p138_2 p138_3 h138_0 gh_138_0 q0_138_0 q1_138_0 q2_138_0 q3_138_0 q4_138_0 q5_138_0 q6_138_0 q7_138_0 q8_138_0 q9_138_0 q10_138_0 q11_138_0 q12_138_0 q13_138_0 q14_138_0 q15_138_0 c82_4_138_0 c82_5_138_0 c82_6_138_0 c82_7_138_0 c82_8_138_0 c82_9_138_0 tk_138_0 dg_138_0 sn_138_0 n0_138_0 lm_138_0 A_138_0 mo_138_0 m1_138_0 hm_138_0; exfalso; omega
    | succ n ih_138_0 =>
      intro p138_0 p138_1 p138_2 p138_3 h138_0 gh_138_0 q0_138_0 q1_138_0 q2_138_0 q3_138_0 q4_138_0 q5_138_0 q6_138_0 q7_138_0 q8_138_0 q9_138_0 q10_138_0 q11_138_0 q12_138_0 q13_138_0 q14_138_0 q15_138_0 c82_4_138_0 c82_5_138_0 c82_6_138_0 c82_7_138_0 c82_8_138_0 c82_9_138_0 tk_138_0 dg_138_0 sn_138_0 n0_138_0 lm_138_0 A_138_0 mo_138_0 m1_138_0 hm_138_0
      refine w_iload_n gz_37_138 rfl ?_
      refine w_aload_n gz_37_139 rfl ?_
      refine v_getI (j := 4) gz_37_140 rfl is_82 rd_5 rfl (fun v54 ev54 pv54 qv54 => ?_)
      have zv54 := ev54.trans c82_4_138_0
      refine w_icge (t := 173) gz_37_143 rfl (fun u55 => ?_) (fun u55 => ?_)
      ·
        have e173 : tk_N (h 92) k82_4 (h138_0 82 7) p138_1 (h138_0 82 6) := ⟨fun a b => by omega, fun a => by omega⟩
        refine w_aload_n gz_37_173 rfl ?_
        refine w_aload_n gz_37_174 rfl ?_
        refine v_getI (j := 7) gz_37_175 rfl is_82 rd_5 rfl (fun v56 ev56 pv56 qv56 => ?_)
        have zv56 := ev56.trans c82_7_138_0
        refine v_putI (j := 5) gz_37_178 rfl is_82 rd_5 rfl (by omega) (by omega) rfl (fun h57 fh57 => ?_)
        have gh57 : my_fr [(5, 5), (5, 6), (5, 7), (5, 8)] h h57 := my_fr.up gh_138_0 is_82 fh57 rfl
        have ce58 : h57 82 5 = v56 := (my_up_self fh57)
        have ce59 : h57 82 6 = p138_3 := ((my_up_fld fh57 (by decide)).trans c82_6_138_0)
        have ce60 : h57 82 7 = v56 := ((my_up_fld fh57 (by decide)).trans ev56.symm)
        have ce61 : h57 82 8 = 0 := ((my_up_fld fh57 (by decide)).trans c82_8_138_0)
        have sg : ∀ j : Int, h57 92 j = h138_0 92 j := fun j => ((my_up_role fh57 is_92 is_82 rfl).trans (rfl : h138_0 92 j = h138_0 92 j))
        exact J181_0 (1001) (p138_0) (p138_1) (v56) (p138_3) (v56) (0) h57 (gh57) (by omega) (by omega) (by omega) (by omega) (by omega) (by omega) (by omega) (by omega) (by omega) (by omega) (by omega) (by omega) (by omega) (by omega) (by omega) (by omega) (by omega) (by omega) (by omega) (by omega) (((my_up_fld fh57 (by decide)).trans ev54.symm).trans (by omega)) ((my_up_self fh57).trans (by omega)) (((my_up_fld fh57 (by decide)).trans c82_6_138_0).trans (by omega)) (((my_up_fld fh57 (by decide)).trans ev56.symm).trans (by omega)) (((my_up_fld fh57 (by decide)).trans c82_8_138_0).trans (by omega)) (((my_up_fld fh57 (by decide)).trans c82_9_138_0).trans (by omega)) (by omega) (by first | (intro t k a b; rw [sg]; exact dg_181_0 (by omega) k (by omega) (by omega)) | (intro t k a b; rw [sg]; exact dg_138_0 (by omega) k (by omega) (by omega)) | (intro t k a b; rw [sg, ← sg0, sgi k (by omega)]; omega) | (intro t; omega) | (intro t k a b; rw [sg]; rcases (by omega : k = p181_1 ∨ k < p181_1) with q | q <;> first | exact dg_138_0 (by omega) k (by omega) (by omega) | (subst q; omega)) | omega) (by first | assumption | omega | (subst_vars; omega) | omega) (by first | assumption | omega | (subst_vars; omega) | omega) (by first | exact tk_A_e A_181_0 (by omega) (by omega) (by omega) | exact tk_A_s A_138_0 (by omega) (by omega) (by omega) (by omega) | exact tk_A_e A_138_0 (by omega) (by omega) (by omega) | exact tk_A_0 b52 (n52 (by omega)).1 (n52 (by omega)).2 k88 (by omega) (by omega) (by omega) | omega) (by first | exact tk_N_e E_181_0 (by omega) (by omega) (by omega) | exact tk_N_e e173 (by omega) (by omega) (by omega) | omega) (by omega) (by first | exact tk_D_0 (by omega) (by omega) | exact tk_D_n (by omega) | exact tk_D_3 D_181_0 (by omega) (by omega) (by omega) (by omega) (by omega) | exact tk_D_s D_181_0 (by omega) (by omega) c227 (by omega) (by omega) (by omega) (by omega) (by omega) | omega) (by omega) (by omega)
      ·
        refine w_iload_n gz_37_146 rfl ?_
        refine w_iconst gz_37_147 (by decide) ?_
        refine w_icle (t := 173) gz_37_148 rfl (fun u62 => ?_) (fun u62 => ?_)
        ·
          have e173 : tk_N (h 92) k82_4 (h138_0 82 7) p138_1 (h138_0 82 6) := ⟨fun a b => by omega, fun a => by omega⟩
          refine w_aload_n gz_37_173 rfl ?_
          refine w_aload_n gz_37_174 rfl ?_
          refine v_getI (j := 7) gz_37_175 rfl is_82 rd_5 rfl (fun v63 ev63 pv63 qv63 => ?_)
          have zv63 := ev63.trans c82_7_138_0
          refine v_putI (j := 5) gz_37_178 rfl is_82 rd_5 rfl (by omega) (by omega) rfl (fun h64 fh64 => ?_)
          have gh64 : my_fr [(5, 5), (5, 6), (5, 7), (5, 8)] h h64 := my_fr.up gh_138_0 is_82 fh64 rfl
          have ce65 : h64 82 5 = v63 := (my_up_self fh64)
          have ce66 : h64 82 6 = p138_3 := ((my_up_fld fh64 (by decide)).trans c82_6_138_0)
          have ce67 : h64 82 7 = v63 := ((my_up_fld fh64 (by decide)).trans ev63.symm)
          have ce68 : h64 82 8 = 0 := ((my_up_fld fh64 (by decide)).trans c82_8_138_0)
          have sg : ∀ j : Int, h64 92 j = h138_0 92 j := fun j => ((my_up_role fh64 is_92 is_82 rfl).trans (rfl : h138_0 92 j = h138_0 92 j))
          exact J181_0 (1001) (p138_0) (p138_1) (v63) (p138_3) (v63) (0) h64 (gh64) (by omega) (by omega) (by omega) (by omega) (by omega) (by omega) (by omega) (by omega) (by omega) (by omega) (by omega) (by omega) (by omega) (by omega) (by omega) (by omega) (by omega) (by omega) (by omega) (by omega) (((my_up_fld fh64 (by decide)).trans ev54.symm).trans (by omega)) ((my_up_self fh64).trans (by omega)) (((my_up_fld fh64 (by decide)).trans c82_6_138_0).trans (by omega)) (((my_up_fld fh64 (by decide)).trans ev63.symm).trans (by omega)) (((my_up_fld fh64 (by decide)).trans c82_8_138_0).trans (by omega)) (((my_up_fld fh64 (by decide)).trans c82_9_138_0).trans (by omega)) (by omega) (by first | (intro t k a b; rw [sg]; exact dg_181_0 (by omega) k (by omega) (by omega)) | (intro t k a b; rw [sg]; exact dg_138_0 (by omega) k (by omega) (by omega)) | (intro t k a b; rw [sg, ← sg0, sgi k (by omega)]; omega) | (intro t; omega) | (intro t k a b; rw [sg]; rcases (by omega : k = p181_1 ∨ k < p181_1) with q | q <;> first | exact dg_138_0 (by omega) k (by omega) (by omega) | (subst q; omega)) | omega) (by first | assumption | omega | (subst_vars; omega) | omega) (by first | assumption | omega | (subst_vars; omega) | omega) (by first | exact tk_A_e A_181_0 (by omega) (by omega) (by omega) | exact tk_A_s A_138_0 (by omega) (by omega) (by omega) (by omega) | exact tk_A_e A_138_0 (by omega) (by omega) (by omega) | exact tk_A_0 b52 (n52 (by omega)).1 (n52 (by omega)).2 k88 (by omega) (by omega) (by omega) | omega) (by first | exact tk_N_e E_181_0 (by omega) (by omega) (by omega) | exact tk_N_e e173 (by omega) (by omega) (by omega) | omega) (by omega) (by first | exact tk_D_0 (by omega) (by omega) | exact tk_D_n (by omega) | exact tk_D_3 D_181_0 (by omega) (by omega) (by omega) (by omega) (by omega) | exact tk_D_s D_181_0 (by omega) (by omega) c227 (by omega) (by omega) (by omega) (by omega) (by omega) | omega) (by omega) (by omega)
        ·
          refine w_aload_n gz_37_151 rfl ?_
          refine w_getX (v := 92) gz_37_152 is_82 rd_5 rfl (by decide) rfl ?_
          refine w_iload_n gz_37_155 rfl ?_
          refine w_yald gz_37_156 is_92 rd_40 (by omega) (by omega) (fun v70 ev70 pv70 qv70 => ?_)
          have c157 : v70 = h 92 p138_1 := by
            have z : h138_0 92 p138_1 = h 92 p138_1 := by first | rfl | exact my_fr.at gh_138_0 is_92 rfl
            rw [show p138_1 = p138_1 by omega]
            omega
          refine w_inS (k := 0) (as := [(0, v70)]) (r := []) (ls0 := [(0, v70)]) gz_37_157 gm_38 rfl rfl rfl rfl rfl rfl ?_
          refine w_iload_n gz_38_0 rfl ?_
          refine w_bipush gz_38_1 (by decide) ?_
          refine w_iclt (t := 14) gz_38_3 rfl (fun u71 => ?_) (fun u71 => ?_)
          ·
            refine w_iload_n gz_38_14 rfl ?_
            refine w_bipush gz_38_15 (by decide) ?_
            refine w_iclt (t := 28) gz_38_17 rfl (fun u72 => ?_) (fun u72 => ?_)
            ·
              refine w_iload_n gz_38_28 rfl ?_
              refine w_bipush gz_38_29 (by decide) ?_
              refine w_icne (t := 38) gz_38_31 rfl (fun u73 => ?_) (fun u73 => by exfalso; omega)
              refine w_iconst gz_38_38 (by decide) ?_
              refine w_iret gz_38_39 gm_38 ?_
              show wp l rho (d + 1) 37 160 [(2, 82), (0, p138_0), (0, p138_1)] [(0, 4)] h138_0 Q
              have k160 : tk_k (h 92 p138_1) = 4 := by rw [← c157]; unfold tk_k; (repeat (first | rw [if_pos (by omega)] | rw [if_neg (by omega)]))
              refine w_aload_n gz_37_160 rfl ?_
              refine v_getI (j := 6) gz_37_161 rfl is_82 rd_5 rfl (fun v74 ev74 pv74 qv74 => ?_)
              have zv74 := ev74.trans c82_6_138_0
              refine w_icne (t := 173) gz_37_164 rfl (fun u75 => ?_) (fun u75 => ?_)
              ·
                have e173 : tk_N (h 92) k82_4 (h138_0 82 7) p138_1 (h138_0 82 6) := ⟨fun a b => by omega, fun a => by omega⟩
                refine w_aload_n gz_37_173 rfl ?_
                refine w_aload_n gz_37_174 rfl ?_
                refine v_getI (j := 7) gz_37_175 rfl is_82 rd_5 rfl (fun v76 ev76 pv76 qv76 => ?_)
                have zv76 := ev76.trans c82_7_138_0
                refine v_putI (j := 5) gz_37_178 rfl is_82 rd_5 rfl (by omega) (by omega) rfl (fun h77 fh77 => ?_)
                have gh77 : my_fr [(5, 5), (5, 6), (5, 7), (5, 8)] h h77 := my_fr.up gh_138_0 is_82 fh77 rfl
                have ce78 : h77 82 5 = v76 := (my_up_self fh77)
                have ce79 : h77 82 6 = v74 := ((my_up_fld fh77 (by decide)).trans ev74.symm)
                have ce80 : h77 82 7 = v76 := ((my_up_fld fh77 (by decide)).trans ev76.symm)
                have ce81 : h77 82 8 = 0 := ((my_up_fld fh77 (by decide)).trans c82_8_138_0)
                have sg : ∀ j : Int, h77 92 j = h138_0 92 j := fun j => ((my_up_role fh77 is_92 is_82 rfl).trans (rfl : h138_0 92 j = h138_0 92 j))
                exact J181_0 (1001) (p138_0) (p138_1) (v76) (v74) (v76) (0) h77 (gh77) (by omega) (by omega) (by omega) (by omega) (by omega) (by omega) (by omega) (by omega) (by omega) (by omega) (by omega) (by omega) (by omega) (by omega) (by omega) (by omega) (by omega) (by omega) (by omega) (by omega) (((my_up_fld fh77 (by decide)).trans ev54.symm).trans (by omega)) ((my_up_self fh77).trans (by omega)) (((my_up_fld fh77 (by decide)).trans ev74.symm).trans (by omega)) (((my_up_fld fh77 (by decide)).trans ev76.symm).trans (by omega)) (((my_up_fld fh77 (by decide)).trans c82_8_138_0).trans (by omega)) (((my_up_fld fh77 (by decide)).trans c82_9_138_0).trans (by omega)) (by omega) (by first | (intro t k a b; rw [sg]; exact dg_181_0 (by omega) k (by omega) (by omega)) | (intro t k a b; rw [sg]; exact dg_138_0 (by omega) k (by omega) (by omega)) | (intro t k a b; rw [sg, ← sg0, sgi k (by omega)]; omega) | (intro t; omega) | (intro t k a b; rw [sg]; rcases (by omega : k = p181_1 ∨ k < p181_1) with q | q <;> first | exact dg_138_0 (by omega) k (by omega) (by omega) | (subst q; omega)) | omega) (by first | assumption | omega | (subst_vars; omega) | omega) (by first | assumption | omega | (subst_vars; omega) | omega) (by first | exact tk_A_e A_181_0 (by omega) (by omega) (by omega) | exact tk_A_s A_138_0 (by omega) (by omega) (by omega) (by omega) | exact tk_A_e A_138_0 (by omega) (by omega) (by omega) | exact tk_A_0 b52 (n52 (by omega)).1 (n52 (by omega)).2 k88 (by omega) (by omega) (by omega) | omega) (by first | exact tk_N_e E_181_0 (by omega) (by omega) (by omega) | exact tk_N_e e173 (by omega) (by omega) (by omega) | omega) (by omega) (by first | exact tk_D_0 (by omega) (by omega) | exact tk_D_n (by omega) | exact tk_D_3 D_181_0 (by omega) (by omega) (by omega) (by omega) (by omega) | exact tk_D_s D_181_0 (by omega) (by omega) c227 (by omega) (by omega) (by omega) (by omega) (by omega) | omega) (by omega) (by omega)
              ·
                refine w_iinc (ls' := [(2, 82), (0, p138_0), (0, (p138_1 + 1))]) gz_37_167 rfl gm_37 rfl rfl rfl ⟨by omega, by omega⟩ ?_
                refine w_goto (t := 138) gz_37_170 rfl ?_
                have ce82 : h138_0 82 5 = p138_2 := c82_5_138_0
                have ce83 : h138_0 82 6 = v74 := ev74.symm
                have ce84 : h138_0 82 7 = p138_2 := c82_7_138_0
                have ce85 : h138_0 82 8 = 0 := c82_8_138_0
                have sg : ∀ j : Int, h138_0 92 j = h138_0 92 j := fun _ => rfl
                exact ih_138_0 (p138_0) ((p138_1 + 1)) (p138_2) (v74) h138_0 (gh_138_0) (by omega) (by omega) (by omega) (by omega) (by omega) (by omega) (by omega) (by omega) (by omega) (by omega) (by omega) (by omega) (by omega) (by omega) (by omega) (by omega) (ev54.symm.trans (by omega)) (c82_5_138_0.trans (by omega)) (ev74.symm.trans (by omega)) (c82_7_138_0.trans (by omega)) (c82_8_138_0.trans (by omega)) (c82_9_138_0.trans (by omega)) (by omega) (by first | (intro t k a b; rw [sg]; exact dg_181_0 (by omega) k (by omega) (by omega)) | (intro t k a b; rw [sg]; exact dg_138_0 (by omega) k (by omega) (by omega)) | (intro t k a b; rw [sg, ← sg0, sgi k (by omega)]; omega) | (intro t; omega) | (intro t k a b; rw [sg]; rcases (by omega : k = p138_1 ∨ k < p138_1) with q | q <;> first | exact dg_138_0 (by omega) k (by omega) (by omega) | (subst q; omega)) | omega) (by first | assumption | omega | (subst_vars; omega) | omega) (by first | assumption | omega | (subst_vars; omega) | omega) (by first | assumption | omega | (subst_vars; omega) | omega) (by first | exact tk_A_e A_181_0 (by omega) (by omega) (by omega) | exact tk_A_s A_138_0 (by omega) (by omega) (by omega) (by omega) | exact tk_A_e A_138_0 (by omega) (by omega) (by omega) | exact tk_A_0 b52 (n52 (by omega)).1 (n52 (by omega)).2 k88 (by omega) (by omega) (by omega) | omega) (by omega) (by omega) (by omega)
            ·
              refine w_iload_n gz_38_20 rfl ?_
              refine w_bipush gz_38_21 (by decide) ?_
              refine w_icgt (t := 28) gz_38_23 rfl (fun u86 => ?_) (fun u86 => ?_)
              ·
                refine w_iload_n gz_38_28 rfl ?_
                refine w_bipush gz_38_29 (by decide) ?_
                refine w_icne (t := 38) gz_38_31 rfl (fun u87 => ?_) (fun u87 => ?_)
                ·
                  refine w_iconst gz_38_38 (by decide) ?_
                  refine w_iret gz_38_39 gm_38 ?_
                  show wp l rho (d + 1) 37 160 [(2, 82), (0, p138_0), (0, p138_1)] [(0, 4)] h138_0 Q
                  have k160 : tk_k (h 92 p138_1) = 4 := by rw [← c157]; unfold tk_k; (repeat (first | rw [if_pos (by omega)] | rw [if_neg (by omega)]))
                  refine w_aload_n gz_37_160 rfl ?_
                  refine v_getI (j := 6) gz_37_161 rfl is_82 rd_5 rfl (fun v88 ev88 pv88 qv88 => ?_)
                  have zv88 := ev88.trans c82_6_138_0
                  refine w_icne (t := 173) gz_37_164 rfl (fun u89 => ?_) (fun u89 => ?_)
                  ·
                    have e173 : tk_N (h 92) k82_4 (h138_0 82 7) p138_1 (h138_0 82 6) := ⟨fun a b => by omega, fun a => by omega⟩
                    refine w_aload_n gz_37_173 rfl ?_
                    refine w_aload_n gz_37_174 rfl ?_
                    refine v_getI (j := 7) gz_37_175 rfl is_82 rd_5 rfl (fun v90 ev90 pv90 qv90 => ?_)
                    have zv90 := ev90.trans c82_7_138_0
                    refine v_putI (j := 5) gz_37_178 rfl is_82 rd_5 rfl (by omega) (by omega) rfl (fun h91 fh91 => ?_)
                    have gh91 : my_fr [(5, 5), (5, 6), (5, 7), (5, 8)] h h91 := my_fr.up gh_138_0 is_82 fh91 rfl
                    have ce92 : h91 82 5 = v90 := (my_up_self fh91)
                    have ce93 : h91 82 6 = v88 := ((my_up_fld fh91 (by decide)).trans ev88.symm)
                    have ce94 : h91 82 7 = v90 := ((my_up_fld fh91 (by decide)).trans ev90.symm)
                    have ce95 : h91 82 8 = 0 := ((my_up_fld fh91 (by decide)).trans c82_8_138_0)
                    have sg : ∀ j : Int, h91 92 j = h138_0 92 j := fun j => ((my_up_role fh91 is_92 is_82 rfl).trans (rfl : h138_0 92 j = h138_0 92 j))
                    exact J181_0 (1001) (p138_0) (p138_1) (v90) (v88) (v90) (0) h91 (gh91) (by omega) (by omega) (by omega) (by omega) (by omega) (by omega) (by omega) (by omega) (by omega) (by omega) (by omega) (by omega) (by omega) (by omega) (by omega) (by omega) (by omega) (by omega) (by omega) (by omega) (((my_up_fld fh91 (by decide)).trans ev54.symm).trans (by omega)) ((my_up_self fh91).trans (by omega)) (((my_up_fld fh91 (by decide)).trans ev88.symm).trans (by omega)) (((my_up_fld fh91 (by decide)).trans ev90.symm).trans (by omega)) (((my_up_fld fh91 (by decide)).trans c82_8_138_0).trans (by omega)) (((my_up_fld fh91 (by decide)).trans c82_9_138_0).trans (by omega)) (by omega) (by first | (intro t k a b; rw [sg]; exact dg_181_0 (by omega) k (by omega) (by omega)) | (intro t k a b; rw [sg]; exact dg_138_0 (by omega) k (by omega) (by omega)) | (intro t k a b; rw [sg, ← sg0, sgi k (by omega)]; omega) | (intro t; omega) | (intro t k a b; rw [sg]; rcases (by omega : k = p181_1 ∨ k < p181_1) with q | q <;> first | exact dg_138_0 (by omega) k (by omega) (by omega) | (subst q; omega)) | omega) (by first | assumption | omega | (subst_vars; omega) | omega) (by first | assumption | omega | (subst_vars; omega) | omega) (by first | exact tk_A_e A_181_0 (by omega) (by omega) (by omega) | exact tk_A_s A_138_0 (by omega) (by omega) (by omega) (by omega) | exact tk_A_e A_138_0 (by omega) (by omega) (by omega) | exact tk_A_0 b52 (n52 (by omega)).1 (n52 (by omega)).2 k88 (by omega) (by omega) (by omega) | omega) (by first | exact tk_N_e E_181_0 (by omega) (by omega) (by omega) | exact tk_N_e e173 (by omega) (by omega) (by omega) | omega) (by omega) (by first | exact tk_D_0 (by omega) (by omega) | exact tk_D_n (by omega) | exact tk_D_3 D_181_0 (by omega) (by omega) (by omega) (by omega) (by omega) | exact tk_D_s D_181_0 (by omega) (by omega) c227 (by omega) (by omega) (by omega) (by omega) (by omega) | omega) (by omega) (by omega)
                  ·
                    refine w_iinc (ls' := [(2, 82), (0, p138_0), (0, (p138_1 + 1))]) gz_37_167 rfl gm_37 rfl rfl rfl ⟨by omega, by omega⟩ ?_
                    refine w_goto (t := 138) gz_37_170 rfl ?_
                    have ce96 : h138_0 82 5 = p138_2 := c82_5_138_0
                    have ce97 : h138_0 82 6 = v88 := ev88.symm
                    have ce98 : h138_0 82 7 = p138_2 := c82_7_138_0
                    have ce99 : h138_0 82 8 = 0 := c82_8_138_0
                    have sg : ∀ j : Int, h138_0 92 j = h138_0 92 j := fun _ => rfl
                    exact ih_138_0 (p138_0) ((p138_1 + 1)) (p138_2) (v88) h138_0 (gh_138_0) (by omega) (by omega) (by omega) (by omega) (by omega) (by omega) (by omega) (by omega) (by omega) (by omega) (by omega) (by omega) (by omega) (by omega) (by omega) (by omega) (ev54.symm.trans (by omega)) (c82_5_138_0.trans (by omega)) (ev88.symm.trans (by omega)) (c82_7_138_0.trans (by omega)) (c82_8_138_0.trans (by omega)) (c82_9_138_0.trans (by omega)) (by omega) (by first | (intro t k a b; rw [sg]; exact dg_181_0 (by omega) k (by omega) (by omega)) | (intro t k a b; rw [sg]; exact dg_138_0 (by omega) k (by omega) (by omega)) | (intro t k a b; rw [sg, ← sg0, sgi k (by omega)]; omega) | (intro t; omega) | (intro t k a b; rw [sg]; rcases (by omega : k = p138_1 ∨ k < p138_1) with q | q <;> first | exact dg_138_0 (by omega) k (by omega) (by omega) | (subst q; omega)) | omega) (by first | assumption | omega | (subst_vars; omega) | omega) (by first | assumption | omega | (subst_vars; omega) | omega) (by first | assumption | omega | (subst_vars; omega) | omega) (by first | exact tk_A_e A_181_0 (by omega) (by omega) (by omega) | exact tk_A_s A_138_0 (by omega) (by omega) (by omega) (by omega) | exact tk_A_e A_138_0 (by omega) (by omega) (by omega) | exact tk_A_0 b52 (n52 (by omega)).1 (n52 (by omega)).2 k88 (by omega) (by omega) (by omega) | omega) (by omega) (by omega) (by omega)
                ·
                  refine w_iconst gz_38_34 (by decide) ?_
                  refine w_goto (t := 39) gz_38_35 rfl ?_
                  refine w_iret gz_38_39 gm_38 ?_
                  show wp l rho (d + 1) 37 160 [(2, 82), (0, p138_0), (0, p138_1)] [(0, 3)] h138_0 Q
                  have k160 : tk_k (h 92 p138_1) = 3 := by rw [← c157]; unfold tk_k; (repeat (first | rw [if_pos (by omega)] | rw [if_neg (by omega)]))
                  refine w_aload_n gz_37_160 rfl ?_
                  refine v_getI (j := 6) gz_37_161 rfl is_82 rd_5 rfl (fun v100 ev100 pv100 qv100 => ?_)
                  have zv100 := ev100.trans c82_6_138_0
                  refine w_icne (t := 173) gz_37_164 rfl (fun u101 => ?_) (fun u101 => ?_)
                  ·
                    have e173 : tk_N (h 92) k82_4 (h138_0 82 7) p138_1 (h138_0 82 6) := ⟨fun a b => by omega, fun a => by omega⟩
                    refine w_aload_n gz_37_173 rfl ?_
                    refine w_aload_n gz_37_174 rfl ?_
                    refine v_getI (j := 7) gz_37_175 rfl is_82 rd_5 rfl (fun v102 ev102 pv102 qv102 => ?_)
                    have zv102 := ev102.trans c82_7_138_0
                    refine v_putI (j := 5) gz_37_178 rfl is_82 rd_5 rfl (by omega) (by omega) rfl (fun h103 fh103 => ?_)
                    have gh103 : my_fr [(5, 5), (5, 6), (5, 7), (5, 8)] h h103 := my_fr.up gh_138_0 is_82 fh103 rfl
                    have ce104 : h103 82 5 = v102 := (my_up_self fh103)
                    have ce105 : h103 82 6 = v100 := ((my_up_fld fh103 (by decide)).trans ev100.symm)
                    have ce106 : h103 82 7 = v102 := ((my_up_fld fh103 (by decide)).trans ev102.symm)
                    have ce107 : h103 82 8 = 0 := ((my_up_fld fh103 (by decide)).trans c82_8_138_0)
                    have sg : ∀ j : Int, h103 92 j = h138_0 92 j := fun j => ((my_up_role fh103 is_92 is_82 rfl).trans (rfl : h138_0 92 j = h138_0 92 j))
                    exact J181_0 (1001) (p138_0) (p138_1) (v102) (v100) (v102) (0) h103 (gh103) (by omega) (by omega) (by omega) (by omega) (by omega) (by omega) (by omega) (by omega) (by omega) (by omega) (by omega) (by omega) (by omega) (by omega) (by omega) (by omega) (by omega) (by omega) (by omega) (by omega) (((my_up_fld fh103 (by decide)).trans ev54.symm).trans (by omega)) ((my_up_self fh103).trans (by omega)) (((my_up_fld fh103 (by decide)).trans ev100.symm).trans (by omega)) (((my_up_fld fh103 (by decide)).trans ev102.symm).trans (by omega)) (((my_up_fld fh103 (by decide)).trans c82_8_138_0).trans (by omega)) (((my_up_fld fh103 (by decide)).trans c82_9_138_0).trans (by omega)) (by omega) (by first | (intro t k a b; rw [sg]; exact dg_181_0 (by omega) k (by omega) (by omega)) | (intro t k a b; rw [sg]; exact dg_138_0 (by omega) k (by omega) (by omega)) | (intro t k a b; rw [sg, ← sg0, sgi k (by omega)]; omega) | (intro t; omega) | (intro t k a b; rw [sg]; rcases (by omega : k = p181_1 ∨ k < p181_1) with q | q <;> first | exact dg_138_0 (by omega) k (by omega) (by omega) | (subst q; omega)) | omega) (by first | assumption | omega | (subst_vars; omega) | omega) (by first | assumption | omega | (subst_vars; omega) | omega) (by first | exact tk_A_e A_181_0 (by omega) (by omega) (by omega) | exact tk_A_s A_138_0 (by omega) (by omega) (by omega) (by omega) | exact tk_A_e A_138_0 (by omega) (by omega) (by omega) | exact tk_A_0 b52 (n52 (by omega)).1 (n52 (by omega)).2 k88 (by omega) (by omega) (by omega) | omega) (by first | exact tk_N_e E_181_0 (by omega) (by omega) (by omega) | exact tk_N_e e173 (by omega) (by omega) (by omega) | omega) (by omega) (by first | exact tk_D_0 (by omega) (by omega) | exact tk_D_n (by omega) | exact tk_D_3 D_181_0 (by omega) (by omega) (by omega) (by omega) (by omega) | exact tk_D_s D_181_0 (by omega) (by omega) c227 (by omega) (by omega) (by omega) (by omega) (by omega) | omega) (by omega) (by omega)
                  ·
                    refine w_iinc (ls' := [(2, 82), (0, p138_0), (0, (p138_1 + 1))]) gz_37_167 rfl gm_37 rfl rfl rfl ⟨by omega, by omega⟩ ?_
                    refine w_goto (t := 138) gz_37_170 rfl ?_
                    have ce108 : h138_0 82 5 = p138_2 := c82_5_138_0
                    have ce109 : h138_0 82 6 = v100 := ev100.symm
                    have ce110 : h138_0 82 7 = p138_2 := c82_7_138_0
                    have ce111 : h138_0 82 8 = 0 := c82_8_138_0
                    have sg : ∀ j : Int, h138_0 92 j = h138_0 92 j := fun _ => rfl
                    exact ih_138_0 (p138_0) ((p138_1 + 1)) (p138_2) (v100) h138_0 (gh_138_0) (by omega) (by omega) (by omega) (by omega) (by omega) (by omega) (by omega) (by omega) (by omega) (by omega) (by omega) (by omega) (by omega) (by omega) (by omega) (by omega) (ev54.symm.trans (by omega)) (c82_5_138_0.trans (by omega)) (ev100.symm.trans (by omega)) (c82_7_138_0.trans (by omega)) (c82_8_138_0.trans (by omega)) (c82_9_138_0.trans (by omega)) (by omega) (by first | (intro t k a b; rw [sg]; exact dg_181_0 (by omega) k (by omega) (by omega)) | (intro t k a b; rw [sg]; exact dg_138_0 (by omega) k (by omega) (by omega)) | (intro t k a b; rw [sg, ← sg0, sgi k (by omega)]; omega) | (intro t; omega) | (intro t k a b; rw [sg]; rcases (by omega : k = p138_1 ∨ k < p138_1) with q | q <;> first | exact dg_138_0 (by omega) k (by omega) (by omega) | (subst q; omega)) | omega) (by first | assumption | omega | (subst_vars; omega) | omega) (by first | assumption | omega | (subst_vars; omega) | omega) (by first | assumption | omega | (subst_vars; omega) | omega) (by first | exact tk_A_e A_181_0 (by omega) (by omega) (by omega) | exact tk_A_s A_138_0 (by omega) (by omega) (by omega) (by omega) | exact tk_A_e A_138_0 (by omega) (by omega) (by omega) | exact tk_A_0 b52 (n52 (by omega)).1 (n52 (by omega)).2 k88 (by omega) (by omega) (by omega) | omega) (by omega) (by omega) (by omega)
              ·
                refine w_iconst gz_38_26 (by decide) ?_
                refine w_iret gz_38_27 gm_38 ?_
                show wp l rho (d + 1) 37 160 [(2, 82), (0, p138_0), (0, p138_1)] [(0, 2)] h138_0 Q
                have k160 : tk_k (h 92 p138_1) = 2 := by rw [← c157]; unfold tk_k; (repeat (first | rw [if_pos (by omega)] | rw [if_neg (by omega)]))
                refine w_aload_n gz_37_160 rfl ?_
                refine v_getI (j := 6) gz_37_161 rfl is_82 rd_5 rfl (fun v112 ev112 pv112 qv112 => ?_)
                have zv112 := ev112.trans c82_6_138_0
                refine w_icne (t := 173) gz_37_164 rfl (fun u113 => ?_) (fun u113 => ?_)
                ·
                  have e173 : tk_N (h 92) k82_4 (h138_0 82 7) p138_1 (h138_0 82 6) := ⟨fun a b => by omega, fun a => by omega⟩
                  refine w_aload_n gz_37_173 rfl ?_
                  refine w_aload_n gz_37_174 rfl ?_
                  refine v_getI (j := 7) gz_37_175 rfl is_82 rd_5 rfl (fun v114 ev114 pv114 qv114 => ?_)
                  have zv114 := ev114.trans c82_7_138_0
                  refine v_putI (j := 5) gz_37_178 rfl is_82 rd_5 rfl (by omega) (by omega) rfl (fun h115 fh115 => ?_)
                  have gh115 : my_fr [(5, 5), (5, 6), (5, 7), (5, 8)] h h115 := my_fr.up gh_138_0 is_82 fh115 rfl
                  have ce116 : h115 82 5 = v114 := (my_up_self fh115)
                  have ce117 : h115 82 6 = v112 := ((my_up_fld fh115 (by decide)).trans ev112.symm)
                  have ce118 : h115 82 7 = v114 := ((my_up_fld fh115 (by decide)).trans ev114.symm)
                  have ce119 : h115 82 8 = 0 := ((my_up_fld fh115 (by decide)).trans c82_8_138_0)
                  have sg : ∀ j : Int, h115 92 j = h138_0 92 j := fun j => ((my_up_role fh115 is_92 is_82 rfl).trans (rfl : h138_0 92 j = h138_0 92 j))
                  exact J181_0 (1001) (p138_0) (p138_1) (v114) (v112) (v114) (0) h115 (gh115) (by omega) (by omega) (by omega) (by omega) (by omega) (by omega) (by omega) (by omega) (by omega) (by omega) (by omega) (by omega) (by omega) (by omega) (by omega) (by omega) (by omega) (by omega) (by omega) (by omega) (((my_up_fld fh115 (by decide)).trans ev54.symm).trans (by omega)) ((my_up_self fh115).trans (by omega)) (((my_up_fld fh115 (by decide)).trans ev112.symm).trans (by omega)) (((my_up_fld fh115 (by decide)).trans ev114.symm).trans (by omega)) (((my_up_fld fh115 (by decide)).trans c82_8_138_0).trans (by omega)) (((my_up_fld fh115 (by decide)).trans c82_9_138_0).trans (by omega)) (by omega) (by first | (intro t k a b; rw [sg]; exact dg_181_0 (by omega) k (by omega) (by omega)) | (intro t k a b; rw [sg]; exact dg_138_0 (by omega) k (by omega) (by omega)) | (intro t k a b; rw [sg, ← sg0, sgi k (by omega)]; omega) | (intro t; omega) | (intro t k a b; rw [sg]; rcases (by omega : k = p181_1 ∨ k < p181_1) with q | q <;> first | exact dg_138_0 (by omega) k (by omega) (by omega) | (subst q; omega)) | omega) (by first | assumption | omega | (subst_vars; omega) | omega) (by first | assumption | omega | (subst_vars; omega) | omega) (by first | exact tk_A_e A_181_0 (by omega) (by omega) (by omega) | exact tk_A_s A_138_0 (by omega) (by omega) (by omega) (by omega) | exact tk_A_e A_138_0 (by omega) (by omega) (by omega) | exact tk_A_0 b52 (n52 (by omega)).1 (n52 (by omega)).2 k88 (by omega) (by omega) (by omega) | omega) (by first | exact tk_N_e E_181_0 (by omega) (by omega) (by omega) | exact tk_N_e e173 (by omega) (by omega) (by omega) | omega) (by omega) (by first | exact tk_D_0 (by omega) (by omega) | exact tk_D_n (by omega) | exact tk_D_3 D_181_0 (by omega) (by omega) (by omega) (by omega) (by omega) | exact tk_D_s D_181_0 (by omega) (by omega) c227 (by omega) (by omega) (by omega) (by omega) (by omega) | omega) (by omega) (by omega)
                ·
                  refine w_iinc (ls' := [(2, 82), (0, p138_0), (0, (p138_1 + 1))]) gz_37_167 rfl gm_37 rfl rfl rfl ⟨by omega, by omega⟩ ?_
                  refine w_goto (t := 138) gz_37_170 rfl ?_
                  have ce120 : h138_0 82 5 = p138_2 := c82_5_138_0
                  have ce121 : h138_0 82 6 = v112 := ev112.symm
                  have ce122 : h138_0 82 7 = p138_2 := c82_7_138_0
                  have ce123 : h138_0 82 8 = 0 := c82_8_138_0
                  have sg : ∀ j : Int, h138_0 92 j = h138_0 92 j := fun _ => rfl
                  exact ih_138_0 (p138_0) ((p138_1 + 1)) (p138_2) (v112) h138_0 (gh_138_0) (by omega) (by omega) (by omega) (by omega) (by omega) (by omega) (by omega) (by omega) (by omega) (by omega) (by omega) (by omega) (by omega) (by omega) (by omega) (by omega) (ev54.symm.trans (by omega)) (c82_5_138_0.trans (by omega)) (ev112.symm.trans (by omega)) (c82_7_138_0.trans (by omega)) (c82_8_138_0.trans (by omega)) (c82_9_138_0.trans (by omega)) (by omega) (by first | (intro t k a b; rw [sg]; exact dg_181_0 (by omega) k (by omega) (by omega)) | (intro t k a b; rw [sg]; exact dg_138_0 (by omega) k (by omega) (by omega)) | (intro t k a b; rw [sg, ← sg0, sgi k (by omega)]; omega) | (intro t; omega) | (intro t k a b; rw [sg]; rcases (by omega : k = p138_1 ∨ k < p138_1) with q | q <;> first | exact dg_138_0 (by omega) k (by omega) (by omega) | (subst q; omega)) | omega) (by first | assumption | omega | (subst_vars; omega) | omega) (by first | assumption | omega | (subst_vars; omega) | omega) (by first | assumption | omega | (subst_vars; omega) | omega) (by first | exact tk_A_e A_181_0 (by omega) (by omega) (by omega) | exact tk_A_s A_138_0 (by omega) (by omega) (by omega) (by omega) | exact tk_A_e A_138_0 (by omega) (by omega) (by omega) | exact tk_A_0 b52 (n52 (by omega)).1 (n52 (by omega)).2 k88 (by omega) (by omega) (by omega) | omega) (by omega) (by omega) (by omega)
          ·
            refine w_iload_n gz_38_6 rfl ?_
            refine w_bipush gz_38_7 (by decide) ?_
            refine w_icgt (t := 14) gz_38_9 rfl (fun u124 => ?_) (fun u124 => ?_)
            ·
              refine w_iload_n gz_38_14 rfl ?_
              refine w_bipush gz_38_15 (by decide) ?_
              refine w_iclt (t := 28) gz_38_17 rfl (fun u125 => by exfalso; omega) (fun u125 => ?_)
              refine w_iload_n gz_38_20 rfl ?_
              refine w_bipush gz_38_21 (by decide) ?_
              refine w_icgt (t := 28) gz_38_23 rfl (fun u126 => ?_) (fun u126 => by exfalso; omega)
              refine w_iload_n gz_38_28 rfl ?_
              refine w_bipush gz_38_29 (by decide) ?_
              refine w_icne (t := 38) gz_38_31 rfl (fun u127 => ?_) (fun u127 => by exfalso; omega)
              refine w_iconst gz_38_38 (by decide) ?_
              refine w_iret gz_38_39 gm_38 ?_
              show wp l rho (d + 1) 37 160 [(2, 82), (0, p138_0), (0, p138_1)] [(0, 4)] h138_0 Q
              have k160 : tk_k (h 92 p138_1) = 4 := by rw [← c157]; unfold tk_k; (repeat (first | rw [if_pos (by omega)] | rw [if_neg (by omega)]))
              refine w_aload_n gz_37_160 rfl ?_
              refine v_getI (j := 6) gz_37_161 rfl is_82 rd_5 rfl (fun v128 ev128 pv128 qv128 => ?_)
              have zv128 := ev128.trans c82_6_138_0
              refine w_icne (t := 173) gz_37_164 rfl (fun u129 => ?_) (fun u129 => ?_)
              ·
                have e173 : tk_N (h 92) k82_4 (h138_0 82 7) p138_1 (h138_0 82 6) := ⟨fun a b => by omega, fun a => by omega⟩
                refine w_aload_n gz_37_173 rfl ?_
                refine w_aload_n gz_37_174 rfl ?_
                refine v_getI (j := 7) gz_37_175 rfl is_82 rd_5 rfl (fun v130 ev130 pv130 qv130 => ?_)
                have zv130 := ev130.trans c82_7_138_0
                refine v_putI (j := 5) gz_37_178 rfl is_82 rd_5 rfl (by omega) (by omega) rfl (fun h131 fh131 => ?_)
                have gh131 : my_fr [(5, 5), (5, 6), (5, 7), (5, 8)] h h131 := my_fr.up gh_138_0 is_82 fh131 rfl
                have ce132 : h131 82 5 = v130 := (my_up_self fh131)
                have ce133 : h131 82 6 = v128 := ((my_up_fld fh131 (by decide)).trans ev128.symm)
                have ce134 : h131 82 7 = v130 := ((my_up_fld fh131 (by decide)).trans ev130.symm)
                have ce135 : h131 82 8 = 0 := ((my_up_fld fh131 (by decide)).trans c82_8_138_0)
                have sg : ∀ j : Int, h131 92 j = h138_0 92 j := fun j => ((my_up_role fh131 is_92 is_82 rfl).trans (rfl : h138_0 92 j = h138_0 92 j))
                exact J181_0 (1001) (p138_0) (p138_1) (v130) (v128) (v130) (0) h131 (gh131) (by omega) (by omega) (by omega) (by omega) (by omega) (by omega) (by omega) (by omega) (by omega) (by omega) (by omega) (by omega) (by omega) (by omega) (by omega) (by omega) (by omega) (by omega) (by omega) (by omega) (((my_up_fld fh131 (by decide)).trans ev54.symm).trans (by omega)) ((my_up_self fh131).trans (by omega)) (((my_up_fld fh131 (by decide)).trans ev128.symm).trans (by omega)) (((my_up_fld fh131 (by decide)).trans ev130.symm).trans (by omega)) (((my_up_fld fh131 (by decide)).trans c82_8_138_0).trans (by omega)) (((my_up_fld fh131 (by decide)).trans c82_9_138_0).trans (by omega)) (by omega) (by first | (intro t k a b; rw [sg]; exact dg_181_0 (by omega) k (by omega) (by omega)) | (intro t k a b; rw [sg]; exact dg_138_0 (by omega) k (by omega) (by omega)) | (intro t k a b; rw [sg, ← sg0, sgi k (by omega)]; omega) | (intro t; omega) | (intro t k a b; rw [sg]; rcases (by omega : k = p181_1 ∨ k < p181_1) with q | q <;> first | exact dg_138_0 (by omega) k (by omega) (by omega) | (subst q; omega)) | omega) (by first | assumption | omega | (subst_vars; omega) | omega) (by first | assumption | omega | (subst_vars; omega) | omega) (by first | exact tk_A_e A_181_0 (by omega) (by omega) (by omega) | exact tk_A_s A_138_0 (by omega) (by omega) (by omega) (by omega) | exact tk_A_e A_138_0 (by omega) (by omega) (by omega) | exact tk_A_0 b52 (n52 (by omega)).1 (n52 (by omega)).2 k88 (by omega) (by omega) (by omega) | omega) (by first | exact tk_N_e E_181_0 (by omega) (by omega) (by omega) | exact tk_N_e e173 (by omega) (by omega) (by omega) | omega) (by omega) (by first | exact tk_D_0 (by omega) (by omega) | exact tk_D_n (by omega) | exact tk_D_3 D_181_0 (by omega) (by omega) (by omega) (by omega) (by omega) | exact tk_D_s D_181_0 (by omega) (by omega) c227 (by omega) (by omega) (by omega) (by omega) (by omega) | omega) (by omega) (by omega)
              ·
                refine w_iinc (ls' := [(2, 82), (0, p138_0), (0, (p138_1 + 1))]) gz_37_167 rfl gm_37 rfl rfl rfl ⟨by omega, by omega⟩ ?_
                refine w_goto (t := 138) gz_37_170 rfl ?_
                have ce136 : h138_0 82 5 = p138_2 := c82_5_138_0
                have ce137 : h138_0 82 6 = v128 := ev128.symm
                have ce138 : h138_0 82 7 = p138_2 := c82_7_138_0
                have ce139 : h138_0 82 8 = 0 := c82_8_138_0
                have sg : ∀ j : Int, h138_0 92 j = h138_0 92 j := fun _ => rfl
                exact ih_138_0 (p138_0) ((p138_1 + 1)) (p138_2) (v128) h138_0 (gh_138_0) (by omega) (by omega) (by omega) (by omega) (by omega) (by omega) (by omega) (by omega) (by omega) (by omega) (by omega) (by omega) (by omega) (by omega) (by omega) (by omega) (ev54.symm.trans (by omega)) (c82_5_138_0.trans (by omega)) (ev128.symm.trans (by omega)) (c82_7_138_0.trans (by omega)) (c82_8_138_0.trans (by omega)) (c82_9_138_0.trans (by omega)) (by omega) (by first | (intro t k a b; rw [sg]; exact dg_181_0 (by omega) k (by omega) (by omega)) | (intro t k a b; rw [sg]; exact dg_138_0 (by omega) k (by omega) (by omega)) | (intro t k a b; rw [sg, ← sg0, sgi k (by omega)]; omega) | (intro t; omega) | (intro t k a b; rw [sg]; rcases (by omega : k = p138_1 ∨ k < p138_1) with q | q <;> first | exact dg_138_0 (by omega) k (by omega) (by omega) | (subst q; omega)) | omega) (by first | assumption | omega | (subst_vars; omega) | omega) (by first | assumption | omega | (subst_vars; omega) | omega) (by first | assumption | omega | (subst_vars; omega) | omega) (by first | exact tk_A_e A_181_0 (by omega) (by omega) (by omega) | exact tk_A_s A_138_0 (by omega) (by omega) (by omega) (by omega) | exact tk_A_e A_138_0 (by omega) (by omega) (by omega) | exact tk_A_0 b52 (n52 (by omega)).1 (n52 (by omega)).2 k88 (by omega) (by omega) (by omega) | omega) (by omega) (by omega) (by omega)
            ·
              refine w_iconst gz_38_12 (by decide) ?_
              refine w_iret gz_38_13 gm_38 ?_
              show wp l rho (d + 1) 37 160 [(2, 82), (0, p138_0), (0, p138_1)] [(0, 1)] h138_0 Q
              have k160 : tk_k (h 92 p138_1) = 1 := by rw [← c157]; unfold tk_k; (repeat (first | rw [if_pos (by omega)] | rw [if_neg (by omega)]))
              refine w_aload_n gz_37_160 rfl ?_
              refine v_getI (j := 6) gz_37_161 rfl is_82 rd_5 rfl (fun v140 ev140 pv140 qv140 => ?_)
              have zv140 := ev140.trans c82_6_138_0
              refine w_icne (t := 173) gz_37_164 rfl (fun u141 => ?_) (fun u141 => ?_)
              ·
                have e173 : tk_N (h 92) k82_4 (h138_0 82 7) p138_1 (h138_0 82 6) := ⟨fun a b => by omega, fun a => by omega⟩
                refine w_aload_n gz_37_173 rfl ?_
                refine w_aload_n gz_37_174 rfl ?_
                refine v_getI (j := 7) gz_37_175 rfl is_82 rd_5 rfl (fun v142 ev142 pv142 qv142 => ?_)
                have zv142 := ev142.trans c82_7_138_0
                refine v_putI (j := 5) gz_37_178 rfl is_82 rd_5 rfl (by omega) (by omega) rfl (fun h143 fh143 => ?_)
                have gh143 : my_fr [(5, 5), (5, 6), (5, 7), (5, 8)] h h143 := my_fr.up gh_138_0 is_82 fh143 rfl
                have ce144 : h143 82 5 = v142 := (my_up_self fh143)
                have ce145 : h143 82 6 = v140 := ((my_up_fld fh143 (by decide)).trans ev140.symm)
                have ce146 : h143 82 7 = v142 := ((my_up_fld fh143 (by decide)).trans ev142.symm)
                have ce147 : h143 82 8 = 0 := ((my_up_fld fh143 (by decide)).trans c82_8_138_0)
                have sg : ∀ j : Int, h143 92 j = h138_0 92 j := fun j => ((my_up_role fh143 is_92 is_82 rfl).trans (rfl : h138_0 92 j = h138_0 92 j))
                exact J181_0 (1001) (p138_0) (p138_1) (v142) (v140) (v142) (0) h143 (gh143) (by omega) (by omega) (by omega) (by omega) (by omega) (by omega) (by omega) (by omega) (by omega) (by omega) (by omega) (by omega) (by omega) (by omega) (by omega) (by omega) (by omega) (by omega) (by omega) (by omega) (((my_up_fld fh143 (by decide)).trans ev54.symm).trans (by omega)) ((my_up_self fh143).trans (by omega)) (((my_up_fld fh143 (by decide)).trans ev140.symm).trans (by omega)) (((my_up_fld fh143 (by decide)).trans ev142.symm).trans (by omega)) (((my_up_fld fh143 (by decide)).trans c82_8_138_0).trans (by omega)) (((my_up_fld fh143 (by decide)).trans c82_9_138_0).trans (by omega)) (by omega) (by first | (intro t k a b; rw [sg]; exact dg_181_0 (by omega) k (by omega) (by omega)) | (intro t k a b; rw [sg]; exact dg_138_0 (by omega) k (by omega) (by omega)) | (intro t k a b; rw [sg, ← sg0, sgi k (by omega)]; omega) | (intro t; omega) | (intro t k a b; rw [sg]; rcases (by omega : k = p181_1 ∨ k < p181_1) with q | q <;> first | exact dg_138_0 (by omega) k (by omega) (by omega) | (subst q; omega)) | omega) (by first | assumption | omega | (subst_vars; omega) | omega) (by first | assumption | omega | (subst_vars; omega) | omega) (by first | exact tk_A_e A_181_0 (by omega) (by omega) (by omega) | exact tk_A_s A_138_0 (by omega) (by omega) (by omega) (by omega) | exact tk_A_e A_138_0 (by omega) (by omega) (by omega) | exact tk_A_0 b52 (n52 (by omega)).1 (n52 (by omega)).2 k88 (by omega) (by omega) (by omega) | omega) (by first | exact tk_N_e E_181_0 (by omega) (by omega) (by omega) | exact tk_N_e e173 (by omega) (by omega) (by omega) | omega) (by omega) (by first | exact tk_D_0 (by omega) (by omega) | exact tk_D_n (by omega) | exact tk_D_3 D_181_0 (by omega) (by omega) (by omega) (by omega) (by omega) | exact tk_D_s D_181_0 (by omega) (by omega) c227 (by omega) (by omega) (by omega) (by omega) (by omega) | omega) (by omega) (by omega)
              ·
                refine w_iinc (ls' := [(2, 82), (0, p138_0), (0, (p138_1 + 1))]) gz_37_167 rfl gm_37 rfl rfl rfl ⟨by omega, by omega⟩ ?_
                refine w_goto (t := 138) gz_37_170 rfl ?_
                have ce148 : h138_0 82 5 = p138_2 := c82_5_138_0
                have ce149 : h138_0 82 6 = v140 := ev140.symm
                have ce150 : h138_0 82 7 = p138_2 := c82_7_138_0
                have ce151 : h138_0 82 8 = 0 := c82_8_138_0
                have sg : ∀ j : Int, h138_0 92 j = h138_0 92 j := fun _ => rfl
                exact ih_138_0 (p138_0) ((p138_1 + 1)) (p138_2) (v140) h138_0 (gh_138_0) (by omega) (by omega) (by omega) (by omega) (by omega) (by omega) (by omega) (by omega) (by omega) (by omega) (by omega) (by omega) (by omega) (by omega) (by omega) (by omega) (ev54.symm.trans (by omega)) (c82_5_138_0.trans (by omega)) (ev140.symm.trans (by omega)) (c82_7_138_0.trans (by omega)) (c82_8_138_0.trans (by omega)) (c82_9_138_0.trans (by omega)) (by omega) (by first | (intro t k a b; rw [sg]; exact dg_181_0 (by omega) k (by omega) (by omega)) | (intro t k a b; rw [sg]; exact dg_138_0 (by omega) k (by omega) (by omega)) | (intro t k a b; rw [sg, ← sg0, sgi k (by omega)]; omega) | (intro t; omega) | (intro t k a b; rw [sg]; rcases (by omega : k = p138_1 ∨ k < p138_1) with q | q <;> first | exact dg_138_0 (by omega) k (by omega) (by omega) | (subst q; omega)) | omega) (by first | assumption | omega | (subst_vars; omega) | omega) (by first | assumption | omega | (subst_vars; omega) | omega) (by first | assumption | omega | (subst_vars; omega) | omega) (by first | exact tk_A_e A_181_0 (by omega) (by omega) (by omega) | exact tk_A_s A_138_0 (by omega) (by omega) (by omega) (by omega) | exact tk_A_e A_138_0 (by omega) (by omega) (by omega) | exact tk_A_0 b52 (n52 (by omega)).1 (n52 (by omega)).2 k88 (by omega) (by omega) (by omega) | omega) (by omega) (by omega) (by omega)
  have J0_0 : ∀ (n : Nat) (p0_0 : Int) (h0_0 : my_H), my_fr [(5, 5), (5, 6), (5, 7), (5, 8)] h h0_0 → 1 ≤ k82_4 → 1 ≤ p0_0 → p0_0 ≤ 1000 → k82_5 ≤ 999 → p0_0 ≤ k82_4 → k82_5 ≤ (p0_0 - 1) → k82_5 ≤ (k82_4 - 1) → h0_0 82 4 = k82_4 → h0_0 82 5 = p0_0 → h0_0 82 9 = 0 → (∀ i : Int, h 82 5 ≤ i → i < h0_0 82 5 → h 92 i = 10 ∨ h 92 i = 32) → 1001 - h0_0 82 5 ≤ (n : Int) → wp l rho (d + 1) 37 0 [(2, 82), (9, 0), (9, 0)] [] h0_0 Q := by
    intro n
    induction n with
    | zero => intro p0_0 h0_0 gh_0_0 q0_0_0 q1_0_0 q2_0_0 q3_0_0 q4_0_0 q5_0_0 q6_0_0 c82_4_0_0 c82_5_0_0 c82_9_0_0 bl_0_0 hm_0_0; exfalso; omega
    | succ n ih_0_0 =>
      intro p0_0 h0_0 gh_0_0 q0_0_0 q1_0_0 q2_0_0 q3_0_0 q4_0_0 q5_0_0 q6_0_0 c82_4_0_0 c82_5_0_0 c82_9_0_0 bl_0_0 hm_0_0
      refine w_aload_n gz_37_0 rfl ?_
      refine v_getI (j := 5) gz_37_1 rfl is_82 rd_5 rfl (fun v152 ev152 pv152 qv152 => ?_)
      have zv152 := ev152.trans c82_5_0_0
      refine w_aload_n gz_37_4 rfl ?_
      refine v_getI (j := 4) gz_37_5 rfl is_82 rd_5 rfl (fun v153 ev153 pv153 qv153 => ?_)
      have zv153 := ev153.trans c82_4_0_0
      refine w_icge (t := 52) gz_37_8 rfl (fun u154 => ?_) (fun u154 => ?_)
      ·
        obtain ⟨st, est⟩ : ∃ z : Int, z = h0_0 82 5 := ⟨_, rfl⟩
        have b52 : ∀ i : Int, h 82 5 ≤ i → i < st → h 92 i = 10 ∨ h 92 i = 32 := by first | (intro i a b; exact bl_0_0 i a (by omega)) | (intro i a b; omega)
        have n52 : st < h0_0 82 4 → h 92 st ≠ 10 ∧ h 92 st ≠ 32 := by rw [est]; intro q; omega
        refine w_aload_n gz_37_52 rfl ?_
        refine w_aload_n gz_37_53 rfl ?_
        refine v_getI (j := 5) gz_37_54 rfl is_82 rd_5 rfl (fun v155 ev155 pv155 qv155 => ?_)
        have zv155 := ev155.trans ev152.symm
        refine v_putI (j := 7) gz_37_57 rfl is_82 rd_5 rfl (by omega) (by omega) rfl (fun h156 fh156 => ?_)
        have gh156 : my_fr [(5, 5), (5, 6), (5, 7), (5, 8)] h h156 := my_fr.up gh_0_0 is_82 fh156 rfl
        refine w_aload_n gz_37_60 rfl ?_
        refine w_aload_n gz_37_61 rfl ?_
        refine v_getI (j := 5) gz_37_62 rfl is_82 rd_5 rfl (fun v157 ev157 pv157 qv157 => ?_)
        have zv157 := ev157.trans ((my_up_fld fh156 (by decide)).trans ev155.symm)
        refine w_aload_n gz_37_65 rfl ?_
        refine v_getI (j := 4) gz_37_66 rfl is_82 rd_5 rfl (fun v158 ev158 pv158 qv158 => ?_)
        have zv158 := ev158.trans ((my_up_fld fh156 (by decide)).trans ev153.symm)
        refine w_icge (t := 87) gz_37_69 rfl (fun u159 => ?_) (fun u159 => by exfalso; omega)
        refine w_iconst gz_37_87 (by decide) ?_
        refine v_putI (j := 6) gz_37_88 rfl is_82 rd_5 rfl (by omega) (by omega) rfl (fun h160 fh160 => ?_)
        have gh160 : my_fr [(5, 5), (5, 6), (5, 7), (5, 8)] h h160 := my_fr.up gh156 is_82 fh160 rfl
        refine w_aload_n gz_37_91 rfl ?_
        refine v_getI (j := 6) gz_37_92 rfl is_82 rd_5 rfl (fun v161 ev161 pv161 qv161 => ?_)
        have zv161 := ev161.trans (my_up_self fh160)
        refine w_ifne (t := 99) gz_37_95 rfl (fun u162 => by exfalso; omega) (fun u162 => ?_)
        have ce163 : h160 82 4 = v158 := ((my_up_fld fh160 (by decide)).trans ev158.symm)
        have ce164 : h160 82 5 = v157 := ((my_up_fld fh160 (by decide)).trans ev157.symm)
        have ce165 : h160 82 6 = v161 := ev161.symm
        have ce166 : h160 82 7 = v155 := ((my_up_fld fh160 (by decide)).trans (my_up_self fh156))
        have ce167 : h160 82 8 = h0_0 82 8 := ((my_up_fld fh160 (by decide)).trans ((my_up_fld fh156 (by decide)).trans (rfl : h0_0 82 8 = h0_0 82 8)))
        have TT : tk_T (h 92) (h 82 4) (h 82 5) (h160 82 7) (h160 82 5) (h160 82 6) (h160 82 8) := by first | exact tk_end b52 (by omega) (by omega) (by omega) (by omega) (by omega) | exact tk_fin A_181_0 E_181_0 D_181_0 (by omega) (by omega) (by omega) (by omega) (by omega) (by omega) (by omega) (by omega) (by omega)
        have Al_h160t168 : Al h160 := by unfold Al; omega
        have Cu_h160t169 : Cu h160 := Cu_T TT (fun j => my_fr.at gh160 is_92 rfl) (my_fr.at gh160 is_82 rfl)
        have c170 := ev161.symm
        have c171 := ((my_up_fld fh160 (by decide)).trans ((my_up_fld fh156 (by decide)).trans c82_9_0_0))
        exact w_vret gz_37_98 gm_37 (k0 h160 (gh160) (by omega) (by omega) (by omega) (by first | exact T_s TT | exact T_ns (T_s TT) | omega) (by first | exact T_s TT | exact T_ns (T_s TT) | omega) Al_h160t168 Cu_h160t169)
      ·
        refine w_aload_n gz_37_11 rfl ?_
        refine w_getX (v := 92) gz_37_12 is_82 rd_5 rfl (by decide) rfl ?_
        refine w_aload_n gz_37_15 rfl ?_
        refine v_getI (j := 5) gz_37_16 rfl is_82 rd_5 rfl (fun v173 ev173 pv173 qv173 => ?_)
        have zv173 := ev173.trans ev152.symm
        refine w_yald gz_37_19 is_92 rd_40 (by omega) (by omega) (fun v174 ev174 pv174 qv174 => ?_)
        have c20 : v174 = h 92 (h0_0 82 5) := by
          have z : h0_0 92 v173 = h 92 v173 := by first | rfl | exact my_fr.at gh_0_0 is_92 rfl
          rw [show (h0_0 82 5) = v173 by omega]
          omega
        refine w_bipush gz_37_20 (by decide) ?_
        refine w_iceq (t := 39) gz_37_22 rfl (fun u175 => ?_) (fun u175 => ?_)
        ·
          refine w_aload_n gz_37_39 rfl ?_
          refine w_dup gz_37_40 rfl ?_
          refine v_getI (j := 5) gz_37_41 rfl is_82 rd_5 rfl (fun v176 ev176 pv176 qv176 => ?_)
          have zv176 := ev176.trans ev173.symm
          refine w_iconst gz_37_44 (by decide) ?_
          refine w_iadd gz_37_45 ⟨by omega, by omega⟩ ?_
          refine v_putI (j := 5) gz_37_46 rfl is_82 rd_5 rfl (by omega) (by omega) rfl (fun h177 fh177 => ?_)
          have gh177 : my_fr [(5, 5), (5, 6), (5, 7), (5, 8)] h h177 := my_fr.up gh_0_0 is_82 fh177 rfl
          have b46 : ∀ i : Int, h 82 5 ≤ i → i < h177 82 5 → h 92 i = 10 ∨ h 92 i = 32 := by
            have z := my_up_self fh177
            intro i a b
            rcases (by omega : i = h0_0 82 5 ∨ i < h0_0 82 5) with q | q
            · rw [q]; omega
            · first | exact bl_0_0 i a q | omega
          refine w_goto (t := 0) gz_37_49 rfl ?_
          have ce178 : h177 82 5 = (v176 + 1) := (my_up_self fh177)
          exact ih_0_0 ((v176 + 1)) h177 (gh177) (by omega) (by omega) (by omega) (by omega) (by omega) (by omega) (by omega) (((my_up_fld fh177 (by decide)).trans ev153.symm).trans (by omega)) ((my_up_self fh177).trans (by omega)) (((my_up_fld fh177 (by decide)).trans c82_9_0_0).trans (by omega)) (b46) (by omega)
        ·
          refine w_aload_n gz_37_25 rfl ?_
          refine w_getX (v := 92) gz_37_26 is_82 rd_5 rfl (by decide) rfl ?_
          refine w_aload_n gz_37_29 rfl ?_
          refine v_getI (j := 5) gz_37_30 rfl is_82 rd_5 rfl (fun v180 ev180 pv180 qv180 => ?_)
          have zv180 := ev180.trans ev173.symm
          refine w_yald gz_37_33 is_92 rd_40 (by omega) (by omega) (fun v181 ev181 pv181 qv181 => ?_)
          have wv181 : v180 = v173 := by omega
          rw [wv181] at ev181
          have zv181 := ev181.trans ev174.symm
          have c34 : v181 = h 92 (h0_0 82 5) := by
            have z : h0_0 92 v173 = h 92 v173 := by first | rfl | exact my_fr.at gh_0_0 is_92 rfl
            rw [show (h0_0 82 5) = v173 by omega]
            omega
          refine w_bipush gz_37_34 (by decide) ?_
          refine w_icne (t := 52) gz_37_36 rfl (fun u182 => ?_) (fun u182 => ?_)
          ·
            obtain ⟨st, est⟩ : ∃ z : Int, z = h0_0 82 5 := ⟨_, rfl⟩
            have b52 : ∀ i : Int, h 82 5 ≤ i → i < st → h 92 i = 10 ∨ h 92 i = 32 := by first | (intro i a b; exact bl_0_0 i a (by omega)) | (intro i a b; omega)
            have n52 : st < h0_0 82 4 → h 92 st ≠ 10 ∧ h 92 st ≠ 32 := by rw [est]; intro q; omega
            refine w_aload_n gz_37_52 rfl ?_
            refine w_aload_n gz_37_53 rfl ?_
            refine v_getI (j := 5) gz_37_54 rfl is_82 rd_5 rfl (fun v183 ev183 pv183 qv183 => ?_)
            have zv183 := ev183.trans ev180.symm
            refine v_putI (j := 7) gz_37_57 rfl is_82 rd_5 rfl (by omega) (by omega) rfl (fun h184 fh184 => ?_)
            have gh184 : my_fr [(5, 5), (5, 6), (5, 7), (5, 8)] h h184 := my_fr.up gh_0_0 is_82 fh184 rfl
            refine w_aload_n gz_37_60 rfl ?_
            refine w_aload_n gz_37_61 rfl ?_
            refine v_getI (j := 5) gz_37_62 rfl is_82 rd_5 rfl (fun v185 ev185 pv185 qv185 => ?_)
            have zv185 := ev185.trans ((my_up_fld fh184 (by decide)).trans ev183.symm)
            refine w_aload_n gz_37_65 rfl ?_
            refine v_getI (j := 4) gz_37_66 rfl is_82 rd_5 rfl (fun v186 ev186 pv186 qv186 => ?_)
            have zv186 := ev186.trans ((my_up_fld fh184 (by decide)).trans ev153.symm)
            refine w_icge (t := 87) gz_37_69 rfl (fun u187 => by exfalso; omega) (fun u187 => ?_)
            refine w_aload_n gz_37_72 rfl ?_
            refine w_getX (v := 92) gz_37_73 is_82 rd_5 rfl (by decide) rfl ?_
            refine w_aload_n gz_37_76 rfl ?_
            refine v_getI (j := 5) gz_37_77 rfl is_82 rd_5 rfl (fun v189 ev189 pv189 qv189 => ?_)
            have zv189 := ev189.trans ev185.symm
            have sg0 : ∀ j : Int, h184 92 j = h0_0 92 j := fun j => ((my_up_role fh184 is_92 is_82 rfl).trans (rfl : h0_0 92 j = h0_0 92 j))
            refine w_yald gz_37_80 is_92 rd_40 (by omega) (by omega) (fun v190 ev190 pv190 qv190 => ?_)
            have wv190 : v189 = v173 := by omega
            rw [wv190] at ev190
            have zv190 := ev190.trans ((my_up_role fh184 is_92 is_82 rfl).trans ev181.symm)
            have sgi : ∀ k : Int, k = v173 → h184 92 k = v190 := fun k q => by rw [q]; omega
            have c81 : v190 = h 92 st := by
              have z : h184 92 v173 = h 92 v173 := by first | rfl | exact my_fr.at gh184 is_92 rfl
              rw [show st = v173 by omega]
              omega
            refine w_inS (k := 0) (as := [(0, v190)]) (r := [(2, 82)]) (ls0 := [(0, v190)]) gz_37_81 gm_38 rfl rfl rfl rfl rfl rfl ?_
            refine w_iload_n gz_38_0 rfl ?_
            refine w_bipush gz_38_1 (by decide) ?_
            refine w_iclt (t := 14) gz_38_3 rfl (fun u191 => ?_) (fun u191 => ?_)
            ·
              refine w_iload_n gz_38_14 rfl ?_
              refine w_bipush gz_38_15 (by decide) ?_
              refine w_iclt (t := 28) gz_38_17 rfl (fun u192 => ?_) (fun u192 => ?_)
              ·
                refine w_iload_n gz_38_28 rfl ?_
                refine w_bipush gz_38_29 (by decide) ?_
                refine w_icne (t := 38) gz_38_31 rfl (fun u193 => ?_) (fun u193 => by exfalso; omega)
                refine w_iconst gz_38_38 (by decide) ?_
                refine w_iret gz_38_39 gm_38 ?_
                show wp l rho (d + 1) 37 84 [(2, 82), (9, 0), (9, 0)] [(0, 4), (2, 82)] h184 Q
                refine w_goto (t := 88) gz_37_84 rfl ?_
                have k88 : tk_k (h 92 st) = 4 := by rw [← c81]; unfold tk_k; (repeat (first | rw [if_pos (by omega)] | rw [if_neg (by omega)]))
                refine v_putI (j := 6) gz_37_88 rfl is_82 rd_5 rfl (by omega) (by omega) rfl (fun h194 fh194 => ?_)
                have gh194 : my_fr [(5, 5), (5, 6), (5, 7), (5, 8)] h h194 := my_fr.up gh184 is_82 fh194 rfl
                refine w_aload_n gz_37_91 rfl ?_
                refine v_getI (j := 6) gz_37_92 rfl is_82 rd_5 rfl (fun v195 ev195 pv195 qv195 => ?_)
                have zv195 := ev195.trans (my_up_self fh194)
                refine w_ifne (t := 99) gz_37_95 rfl (fun u196 => ?_) (fun u196 => by exfalso; omega)
                refine w_aload_n gz_37_99 rfl ?_
                refine w_iconst gz_37_100 (by decide) ?_
                refine v_putI (j := 8) gz_37_101 rfl is_82 rd_5 rfl (by omega) (by omega) rfl (fun h197 fh197 => ?_)
                have gh197 : my_fr [(5, 5), (5, 6), (5, 7), (5, 8)] h h197 := my_fr.up gh194 is_82 fh197 rfl
                refine w_aload_n gz_37_104 rfl ?_
                refine v_getI (j := 6) gz_37_105 rfl is_82 rd_5 rfl (fun v198 ev198 pv198 qv198 => ?_)
                have zv198 := ev198.trans ((my_up_fld fh197 (by decide)).trans ev195.symm)
                refine w_iconst gz_37_108 (by decide) ?_
                refine w_icne (t := 117) gz_37_109 rfl (fun u199 => ?_) (fun u199 => by exfalso; omega)
                refine w_aload_n gz_37_117 rfl ?_
                refine v_getI (j := 6) gz_37_118 rfl is_82 rd_5 rfl (fun v200 ev200 pv200 qv200 => ?_)
                have zv200 := ev200.trans ev198.symm
                refine w_iconst gz_37_121 (by decide) ?_
                refine w_icne (t := 129) gz_37_122 rfl (fun u201 => ?_) (fun u201 => by exfalso; omega)
                refine w_iconst gz_37_129 (by decide) ?_
                refine w_istore_n (ls' := [(2, 82), (0, 1), (9, 0)]) gz_37_130 gm_37 rfl rfl rfl ?_
                refine w_aload_n gz_37_131 rfl ?_
                refine v_getI (j := 7) gz_37_132 rfl is_82 rd_5 rfl (fun v202 ev202 pv202 qv202 => ?_)
                have zv202 := ev202.trans ((my_up_fld fh197 (by decide)).trans ((my_up_fld fh194 (by decide)).trans (my_up_self fh184)))
                refine w_iconst gz_37_135 (by decide) ?_
                refine w_iadd gz_37_136 ⟨by omega, by omega⟩ ?_
                refine w_istore_n (ls' := [(2, 82), (0, 1), (0, (v202 + 1))]) gz_37_137 gm_37 rfl rfl rfl ?_
                have ce203 : h197 82 5 = v189 := ((my_up_fld fh197 (by decide)).trans ((my_up_fld fh194 (by decide)).trans ev189.symm))
                have ce204 : h197 82 6 = v200 := ev200.symm
                have ce205 : h197 82 7 = v202 := ev202.symm
                have ce206 : h197 82 8 = 0 := (my_up_self fh197)
                have sg : ∀ j : Int, h197 92 j = h0_0 92 j := fun j => ((my_up_role fh197 is_92 is_82 rfl).trans ((my_up_role fh194 is_92 is_82 rfl).trans ((my_up_role fh184 is_92 is_82 rfl).trans (rfl : h0_0 92 j = h0_0 92 j))))
                exact J138_0 (1001) (1) ((v202 + 1)) (v189) (v200) h197 (gh197) (by omega) (by omega) (by omega) (by omega) (by omega) (by omega) (by omega) (by omega) (by omega) (by omega) (by omega) (by omega) (by omega) (by omega) (by omega) (by omega) (((my_up_fld fh197 (by decide)).trans ((my_up_fld fh194 (by decide)).trans ev186.symm)).trans (by omega)) (((my_up_fld fh197 (by decide)).trans ((my_up_fld fh194 (by decide)).trans ev189.symm)).trans (by omega)) (ev200.symm.trans (by omega)) (ev202.symm.trans (by omega)) ((my_up_self fh197).trans (by omega)) (((my_up_fld fh197 (by decide)).trans ((my_up_fld fh194 (by decide)).trans ((my_up_fld fh184 (by decide)).trans c82_9_0_0))).trans (by omega)) (by omega) (by first | (intro t k a b; rw [sg]; exact dg_181_0 (by omega) k (by omega) (by omega)) | (intro t k a b; rw [sg]; exact dg_138_0 (by omega) k (by omega) (by omega)) | (intro t k a b; rw [sg, ← sg0, sgi k (by omega)]; omega) | (intro t; omega) | (intro t k a b; rw [sg]; rcases (by omega : k = p138_1 ∨ k < p138_1) with q | q <;> first | exact dg_138_0 (by omega) k (by omega) (by omega) | (subst q; omega)) | omega) (by first | assumption | omega | (subst_vars; omega) | omega) (by first | assumption | omega | (subst_vars; omega) | omega) (by first | assumption | omega | (subst_vars; omega) | omega) (by first | exact tk_A_e A_181_0 (by omega) (by omega) (by omega) | exact tk_A_s A_138_0 (by omega) (by omega) (by omega) (by omega) | exact tk_A_e A_138_0 (by omega) (by omega) (by omega) | exact tk_A_0 b52 (n52 (by omega)).1 (n52 (by omega)).2 k88 (by omega) (by omega) (by omega) | omega) (by omega) (by omega) (by omega)
              ·
                refine w_iload_n gz_38_20 rfl ?_
                refine w_bipush gz_38_21 (by decide) ?_
                refine w_icgt (t := 28) gz_38_23 rfl (fun u207 => ?_) (fun u207 => ?_)
                ·
                  refine w_iload_n gz_38_28 rfl ?_
                  refine w_bipush gz_38_29 (by decide) ?_
                  refine w_icne (t := 38) gz_38_31 rfl (fun u208 => ?_) (fun u208 => ?_)
                  ·
                    refine w_iconst gz_38_38 (by decide) ?_
                    refine w_iret gz_38_39 gm_38 ?_
                    show wp l rho (d + 1) 37 84 [(2, 82), (9, 0), (9, 0)] [(0, 4), (2, 82)] h184 Q
                    refine w_goto (t := 88) gz_37_84 rfl ?_
                    have k88 : tk_k (h 92 st) = 4 := by rw [← c81]; unfold tk_k; (repeat (first | rw [if_pos (by omega)] | rw [if_neg (by omega)]))
                    refine v_putI (j := 6) gz_37_88 rfl is_82 rd_5 rfl (by omega) (by omega) rfl (fun h209 fh209 => ?_)
                    have gh209 : my_fr [(5, 5), (5, 6), (5, 7), (5, 8)] h h209 := my_fr.up gh184 is_82 fh209 rfl
                    refine w_aload_n gz_37_91 rfl ?_
                    refine v_getI (j := 6) gz_37_92 rfl is_82 rd_5 rfl (fun v210 ev210 pv210 qv210 => ?_)
                    have zv210 := ev210.trans (my_up_self fh209)
                    refine w_ifne (t := 99) gz_37_95 rfl (fun u211 => ?_) (fun u211 => by exfalso; omega)
                    refine w_aload_n gz_37_99 rfl ?_
                    refine w_iconst gz_37_100 (by decide) ?_
                    refine v_putI (j := 8) gz_37_101 rfl is_82 rd_5 rfl (by omega) (by omega) rfl (fun h212 fh212 => ?_)
                    have gh212 : my_fr [(5, 5), (5, 6), (5, 7), (5, 8)] h h212 := my_fr.up gh209 is_82 fh212 rfl
                    refine w_aload_n gz_37_104 rfl ?_
                    refine v_getI (j := 6) gz_37_105 rfl is_82 rd_5 rfl (fun v213 ev213 pv213 qv213 => ?_)
                    have zv213 := ev213.trans ((my_up_fld fh212 (by decide)).trans ev210.symm)
                    refine w_iconst gz_37_108 (by decide) ?_
                    refine w_icne (t := 117) gz_37_109 rfl (fun u214 => ?_) (fun u214 => by exfalso; omega)
                    refine w_aload_n gz_37_117 rfl ?_
                    refine v_getI (j := 6) gz_37_118 rfl is_82 rd_5 rfl (fun v215 ev215 pv215 qv215 => ?_)
                    have zv215 := ev215.trans ev213.symm
                    refine w_iconst gz_37_121 (by decide) ?_
                    refine w_icne (t := 129) gz_37_122 rfl (fun u216 => ?_) (fun u216 => by exfalso; omega)
                    refine w_iconst gz_37_129 (by decide) ?_
                    refine w_istore_n (ls' := [(2, 82), (0, 1), (9, 0)]) gz_37_130 gm_37 rfl rfl rfl ?_
                    refine w_aload_n gz_37_131 rfl ?_
                    refine v_getI (j := 7) gz_37_132 rfl is_82 rd_5 rfl (fun v217 ev217 pv217 qv217 => ?_)
                    have zv217 := ev217.trans ((my_up_fld fh212 (by decide)).trans ((my_up_fld fh209 (by decide)).trans (my_up_self fh184)))
                    refine w_iconst gz_37_135 (by decide) ?_
                    refine w_iadd gz_37_136 ⟨by omega, by omega⟩ ?_
                    refine w_istore_n (ls' := [(2, 82), (0, 1), (0, (v217 + 1))]) gz_37_137 gm_37 rfl rfl rfl ?_
                    have ce218 : h212 82 5 = v189 := ((my_up_fld fh212 (by decide)).trans ((my_up_fld fh209 (by decide)).trans ev189.symm))
                    have ce219 : h212 82 6 = v215 := ev215.symm
                    have ce220 : h212 82 7 = v217 := ev217.symm
                    have ce221 : h212 82 8 = 0 := (my_up_self fh212)
                    have sg : ∀ j : Int, h212 92 j = h0_0 92 j := fun j => ((my_up_role fh212 is_92 is_82 rfl).trans ((my_up_role fh209 is_92 is_82 rfl).trans ((my_up_role fh184 is_92 is_82 rfl).trans (rfl : h0_0 92 j = h0_0 92 j))))
                    exact J138_0 (1001) (1) ((v217 + 1)) (v189) (v215) h212 (gh212) (by omega) (by omega) (by omega) (by omega) (by omega) (by omega) (by omega) (by omega) (by omega) (by omega) (by omega) (by omega) (by omega) (by omega) (by omega) (by omega) (((my_up_fld fh212 (by decide)).trans ((my_up_fld fh209 (by decide)).trans ev186.symm)).trans (by omega)) (((my_up_fld fh212 (by decide)).trans ((my_up_fld fh209 (by decide)).trans ev189.symm)).trans (by omega)) (ev215.symm.trans (by omega)) (ev217.symm.trans (by omega)) ((my_up_self fh212).trans (by omega)) (((my_up_fld fh212 (by decide)).trans ((my_up_fld fh209 (by decide)).trans ((my_up_fld fh184 (by decide)).trans c82_9_0_0))).trans (by omega)) (by omega) (by first | (intro t k a b; rw [sg]; exact dg_181_0 (by omega) k (by omega) (by omega)) | (intro t k a b; rw [sg]; exact dg_138_0 (by omega) k (by omega) (by omega)) | (intro t k a b; rw [sg, ← sg0, sgi k (by omega)]; omega) | (intro t; omega) | (intro t k a b; rw [sg]; rcases (by omega : k = p138_1 ∨ k < p138_1) with q | q <;> first | exact dg_138_0 (by omega) k (by omega) (by omega) | (subst q; omega)) | omega) (by first | assumption | omega | (subst_vars; omega) | omega) (by first | assumption | omega | (subst_vars; omega) | omega) (by first | assumption | omega | (subst_vars; omega) | omega) (by first | exact tk_A_e A_181_0 (by omega) (by omega) (by omega) | exact tk_A_s A_138_0 (by omega) (by omega) (by omega) (by omega) | exact tk_A_e A_138_0 (by omega) (by omega) (by omega) | exact tk_A_0 b52 (n52 (by omega)).1 (n52 (by omega)).2 k88 (by omega) (by omega) (by omega) | omega) (by omega) (by omega) (by omega)
                  ·
                    refine w_iconst gz_38_34 (by decide) ?_
                    refine w_goto (t := 39) gz_38_35 rfl ?_
                    refine w_iret gz_38_39 gm_38 ?_
                    show wp l rho (d + 1) 37 84 [(2, 82), (9, 0), (9, 0)] [(0, 3), (2, 82)] h184 Q
                    refine w_goto (t := 88) gz_37_84 rfl ?_
                    have k88 : tk_k (h 92 st) = 3 := by rw [← c81]; unfold tk_k; (repeat (first | rw [if_pos (by omega)] | rw [if_neg (by omega)]))
                    refine v_putI (j := 6) gz_37_88 rfl is_82 rd_5 rfl (by omega) (by omega) rfl (fun h222 fh222 => ?_)
                    have gh222 : my_fr [(5, 5), (5, 6), (5, 7), (5, 8)] h h222 := my_fr.up gh184 is_82 fh222 rfl
                    refine w_aload_n gz_37_91 rfl ?_
                    refine v_getI (j := 6) gz_37_92 rfl is_82 rd_5 rfl (fun v223 ev223 pv223 qv223 => ?_)
                    have zv223 := ev223.trans (my_up_self fh222)
                    refine w_ifne (t := 99) gz_37_95 rfl (fun u224 => ?_) (fun u224 => by exfalso; omega)
                    refine w_aload_n gz_37_99 rfl ?_
                    refine w_iconst gz_37_100 (by decide) ?_
                    refine v_putI (j := 8) gz_37_101 rfl is_82 rd_5 rfl (by omega) (by omega) rfl (fun h225 fh225 => ?_)
                    have gh225 : my_fr [(5, 5), (5, 6), (5, 7), (5, 8)] h h225 := my_fr.up gh222 is_82 fh225 rfl
                    refine w_aload_n gz_37_104 rfl ?_
                    refine v_getI (j := 6) gz_37_105 rfl is_82 rd_5 rfl (fun v226 ev226 pv226 qv226 => ?_)
                    have zv226 := ev226.trans ((my_up_fld fh225 (by decide)).trans ev223.symm)
                    refine w_iconst gz_37_108 (by decide) ?_
                    refine w_icne (t := 117) gz_37_109 rfl (fun u227 => ?_) (fun u227 => by exfalso; omega)
                    refine w_aload_n gz_37_117 rfl ?_
                    refine v_getI (j := 6) gz_37_118 rfl is_82 rd_5 rfl (fun v228 ev228 pv228 qv228 => ?_)
                    have zv228 := ev228.trans ev226.symm
                    refine w_iconst gz_37_121 (by decide) ?_
                    refine w_icne (t := 129) gz_37_122 rfl (fun u229 => ?_) (fun u229 => by exfalso; omega)
                    refine w_iconst gz_37_129 (by decide) ?_
                    refine w_istore_n (ls' := [(2, 82), (0, 1), (9, 0)]) gz_37_130 gm_37 rfl rfl rfl ?_
                    refine w_aload_n gz_37_131 rfl ?_
                    refine v_getI (j := 7) gz_37_132 rfl is_82 rd_5 rfl (fun v230 ev230 pv230 qv230 => ?_)
                    have zv230 := ev230.trans ((my_up_fld fh225 (by decide)).trans ((my_up_fld fh222 (by decide)).trans (my_up_self fh184)))
                    refine w_iconst gz_37_135 (by decide) ?_
                    refine w_iadd gz_37_136 ⟨by omega, by omega⟩ ?_
                    refine w_istore_n (ls' := [(2, 82), (0, 1), (0, (v230 + 1))]) gz_37_137 gm_37 rfl rfl rfl ?_
                    have ce231 : h225 82 5 = v189 := ((my_up_fld fh225 (by decide)).trans ((my_up_fld fh222 (by decide)).trans ev189.symm))
                    have ce232 : h225 82 6 = v228 := ev228.symm
                    have ce233 : h225 82 7 = v230 := ev230.symm
                    have ce234 : h225 82 8 = 0 := (my_up_self fh225)
                    have sg : ∀ j : Int, h225 92 j = h0_0 92 j := fun j => ((my_up_role fh225 is_92 is_82 rfl).trans ((my_up_role fh222 is_92 is_82 rfl).trans ((my_up_role fh184 is_92 is_82 rfl).trans (rfl : h0_0 92 j = h0_0 92 j))))
                    exact J138_0 (1001) (1) ((v230 + 1)) (v189) (v228) h225 (gh225) (by omega) (by omega) (by omega) (by omega) (by omega) (by omega) (by omega) (by omega) (by omega) (by omega) (by omega) (by omega) (by omega) (by omega) (by omega) (by omega) (((my_up_fld fh225 (by decide)).trans ((my_up_fld fh222 (by decide)).trans ev186.symm)).trans (by omega)) (((my_up_fld fh225 (by decide)).trans ((my_up_fld fh222 (by decide)).trans ev189.symm)).trans (by omega)) (ev228.symm.trans (by omega)) (ev230.symm.trans (by omega)) ((my_up_self fh225).trans (by omega)) (((my_up_fld fh225 (by decide)).trans ((my_up_fld fh222 (by decide)).trans ((my_up_fld fh184 (by decide)).trans c82_9_0_0))).trans (by omega)) (by omega) (by first | (intro t k a b; rw [sg]; exact dg_181_0 (by omega) k (by omega) (by omega)) | (intro t k a b; rw [sg]; exact dg_138_0 (by omega) k (by omega) (by omega)) | (intro t k a b; rw [sg, ← sg0, sgi k (by omega)]; omega) | (intro t; omega) | (intro t k a b; rw [sg]; rcases (by omega : k = p138_1 ∨ k < p138_1) with q | q <;> first | exact dg_138_0 (by omega) k (by omega) (by omega) | (subst q; omega)) | omega) (by first | assumption | omega | (subst_vars; omega) | omega) (by first | assumption | omega | (subst_vars; omega) | omega) (by first | assumption | omega | (subst_vars; omega) | omega) (by first | exact tk_A_e A_181_0 (by omega) (by omega) (by omega) | exact tk_A_s A_138_0 (by omega) (by omega) (by omega) (by omega) | exact tk_A_e A_138_0 (by omega) (by omega) (by omega) | exact tk_A_0 b52 (n52 (by omega)).1 (n52 (by omega)).2 k88 (by omega) (by omega) (by omega) | omega) (by omega) (by omega) (by omega)
                ·
                  refine w_iconst gz_38_26 (by decide) ?_
                  refine w_iret gz_38_27 gm_38 ?_
                  show wp l rho (d + 1) 37 84 [(2, 82), (9, 0), (9, 0)] [(0, 2), (2, 82)] h184 Q
                  refine w_goto (t := 88) gz_37_84 rfl ?_
                  have k88 : tk_k (h 92 st) = 2 := by rw [← c81]; unfold tk_k; (repeat (first | rw [if_pos (by omega)] | rw [if_neg (by omega)]))
                  refine v_putI (j := 6) gz_37_88 rfl is_82 rd_5 rfl (by omega) (by omega) rfl (fun h235 fh235 => ?_)
                  have gh235 : my_fr [(5, 5), (5, 6), (5, 7), (5, 8)] h h235 := my_fr.up gh184 is_82 fh235 rfl
                  refine w_aload_n gz_37_91 rfl ?_
                  refine v_getI (j := 6) gz_37_92 rfl is_82 rd_5 rfl (fun v236 ev236 pv236 qv236 => ?_)
                  have zv236 := ev236.trans (my_up_self fh235)
                  refine w_ifne (t := 99) gz_37_95 rfl (fun u237 => ?_) (fun u237 => by exfalso; omega)
                  refine w_aload_n gz_37_99 rfl ?_
                  refine w_iconst gz_37_100 (by decide) ?_
                  refine v_putI (j := 8) gz_37_101 rfl is_82 rd_5 rfl (by omega) (by omega) rfl (fun h238 fh238 => ?_)
                  have gh238 : my_fr [(5, 5), (5, 6), (5, 7), (5, 8)] h h238 := my_fr.up gh235 is_82 fh238 rfl
                  refine w_aload_n gz_37_104 rfl ?_
                  refine v_getI (j := 6) gz_37_105 rfl is_82 rd_5 rfl (fun v239 ev239 pv239 qv239 => ?_)
                  have zv239 := ev239.trans ((my_up_fld fh238 (by decide)).trans ev236.symm)
                  refine w_iconst gz_37_108 (by decide) ?_
                  refine w_icne (t := 117) gz_37_109 rfl (fun u240 => ?_) (fun u240 => by exfalso; omega)
                  refine w_aload_n gz_37_117 rfl ?_
                  refine v_getI (j := 6) gz_37_118 rfl is_82 rd_5 rfl (fun v241 ev241 pv241 qv241 => ?_)
                  have zv241 := ev241.trans ev239.symm
                  refine w_iconst gz_37_121 (by decide) ?_
                  refine w_icne (t := 129) gz_37_122 rfl (fun u242 => by exfalso; omega) (fun u242 => ?_)
                  refine w_iconst gz_37_125 (by decide) ?_
                  refine w_goto (t := 130) gz_37_126 rfl ?_
                  refine w_istore_n (ls' := [(2, 82), (0, 3), (9, 0)]) gz_37_130 gm_37 rfl rfl rfl ?_
                  refine w_aload_n gz_37_131 rfl ?_
                  refine v_getI (j := 7) gz_37_132 rfl is_82 rd_5 rfl (fun v243 ev243 pv243 qv243 => ?_)
                  have zv243 := ev243.trans ((my_up_fld fh238 (by decide)).trans ((my_up_fld fh235 (by decide)).trans (my_up_self fh184)))
                  refine w_iconst gz_37_135 (by decide) ?_
                  refine w_iadd gz_37_136 ⟨by omega, by omega⟩ ?_
                  refine w_istore_n (ls' := [(2, 82), (0, 3), (0, (v243 + 1))]) gz_37_137 gm_37 rfl rfl rfl ?_
                  have ce244 : h238 82 5 = v189 := ((my_up_fld fh238 (by decide)).trans ((my_up_fld fh235 (by decide)).trans ev189.symm))
                  have ce245 : h238 82 6 = v241 := ev241.symm
                  have ce246 : h238 82 7 = v243 := ev243.symm
                  have ce247 : h238 82 8 = 0 := (my_up_self fh238)
                  have sg : ∀ j : Int, h238 92 j = h0_0 92 j := fun j => ((my_up_role fh238 is_92 is_82 rfl).trans ((my_up_role fh235 is_92 is_82 rfl).trans ((my_up_role fh184 is_92 is_82 rfl).trans (rfl : h0_0 92 j = h0_0 92 j))))
                  exact J138_0 (1001) (3) ((v243 + 1)) (v189) (v241) h238 (gh238) (by omega) (by omega) (by omega) (by omega) (by omega) (by omega) (by omega) (by omega) (by omega) (by omega) (by omega) (by omega) (by omega) (by omega) (by omega) (by omega) (((my_up_fld fh238 (by decide)).trans ((my_up_fld fh235 (by decide)).trans ev186.symm)).trans (by omega)) (((my_up_fld fh238 (by decide)).trans ((my_up_fld fh235 (by decide)).trans ev189.symm)).trans (by omega)) (ev241.symm.trans (by omega)) (ev243.symm.trans (by omega)) ((my_up_self fh238).trans (by omega)) (((my_up_fld fh238 (by decide)).trans ((my_up_fld fh235 (by decide)).trans ((my_up_fld fh184 (by decide)).trans c82_9_0_0))).trans (by omega)) (by omega) (by first | (intro t k a b; rw [sg]; exact dg_181_0 (by omega) k (by omega) (by omega)) | (intro t k a b; rw [sg]; exact dg_138_0 (by omega) k (by omega) (by omega)) | (intro t k a b; rw [sg, ← sg0, sgi k (by omega)]; omega) | (intro t; omega) | (intro t k a b; rw [sg]; rcases (by omega : k = p138_1 ∨ k < p138_1) with q | q <;> first | exact dg_138_0 (by omega) k (by omega) (by omega) | (subst q; omega)) | omega) (by first | assumption | omega | (subst_vars; omega) | omega) (by first | assumption | omega | (subst_vars; omega) | omega) (by first | assumption | omega | (subst_vars; omega) | omega) (by first | exact tk_A_e A_181_0 (by omega) (by omega) (by omega) | exact tk_A_s A_138_0 (by omega) (by omega) (by omega) (by omega) | exact tk_A_e A_138_0 (by omega) (by omega) (by omega) | exact tk_A_0 b52 (n52 (by omega)).1 (n52 (by omega)).2 k88 (by omega) (by omega) (by omega) | omega) (by omega) (by omega) (by omega)
            ·
              refine w_iload_n gz_38_6 rfl ?_
              refine w_bipush gz_38_7 (by decide) ?_
              refine w_icgt (t := 14) gz_38_9 rfl (fun u248 => ?_) (fun u248 => ?_)
              ·
                refine w_iload_n gz_38_14 rfl ?_
                refine w_bipush gz_38_15 (by decide) ?_
                refine w_iclt (t := 28) gz_38_17 rfl (fun u249 => by exfalso; omega) (fun u249 => ?_)
                refine w_iload_n gz_38_20 rfl ?_
                refine w_bipush gz_38_21 (by decide) ?_
                refine w_icgt (t := 28) gz_38_23 rfl (fun u250 => ?_) (fun u250 => by exfalso; omega)
                refine w_iload_n gz_38_28 rfl ?_
                refine w_bipush gz_38_29 (by decide) ?_
                refine w_icne (t := 38) gz_38_31 rfl (fun u251 => ?_) (fun u251 => by exfalso; omega)
                refine w_iconst gz_38_38 (by decide) ?_
                refine w_iret gz_38_39 gm_38 ?_
                show wp l rho (d + 1) 37 84 [(2, 82), (9, 0), (9, 0)] [(0, 4), (2, 82)] h184 Q
                refine w_goto (t := 88) gz_37_84 rfl ?_
                have k88 : tk_k (h 92 st) = 4 := by rw [← c81]; unfold tk_k; (repeat (first | rw [if_pos (by omega)] | rw [if_neg (by omega)]))
                refine v_putI (j := 6) gz_37_88 rfl is_82 rd_5 rfl (by omega) (by omega) rfl (fun h252 fh252 => ?_)
                have gh252 : my_fr [(5, 5), (5, 6), (5, 7), (5, 8)] h h252 := my_fr.up gh184 is_82 fh252 rfl
                refine w_aload_n gz_37_91 rfl ?_
                refine v_getI (j := 6) gz_37_92 rfl is_82 rd_5 rfl (fun v253 ev253 pv253 qv253 => ?_)
                have zv253 := ev253.trans (my_up_self fh252)
                refine w_ifne (t := 99) gz_37_95 rfl (fun u254 => ?_) (fun u254 => by exfalso; omega)
                refine w_aload_n gz_37_99 rfl ?_
                refine w_iconst gz_37_100 (by decide) ?_
                refine v_putI (j := 8) gz_37_101 rfl is_82 rd_5 rfl (by omega) (by omega) rfl (fun h255 fh255 => ?_)
                have gh255 : my_fr [(5, 5), (5, 6), (5, 7), (5, 8)] h h255 := my_fr.up gh252 is_82 fh255 rfl
                refine w_aload_n gz_37_104 rfl ?_
                refine v_getI (j := 6) gz_37_105 rfl is_82 rd_5 rfl (fun v256 ev256 pv256 qv256 => ?_)
                have zv256 := ev256.trans ((my_up_fld fh255 (by decide)).trans ev253.symm)
                refine w_iconst gz_37_108 (by decide) ?_
                refine w_icne (t := 117) gz_37_109 rfl (fun u257 => ?_) (fun u257 => by exfalso; omega)
                refine w_aload_n gz_37_117 rfl ?_
                refine v_getI (j := 6) gz_37_118 rfl is_82 rd_5 rfl (fun v258 ev258 pv258 qv258 => ?_)
                have zv258 := ev258.trans ev256.symm
                refine w_iconst gz_37_121 (by decide) ?_
                refine w_icne (t := 129) gz_37_122 rfl (fun u259 => ?_) (fun u259 => by exfalso; omega)
                refine w_iconst gz_37_129 (by decide) ?_
                refine w_istore_n (ls' := [(2, 82), (0, 1), (9, 0)]) gz_37_130 gm_37 rfl rfl rfl ?_
                refine w_aload_n gz_37_131 rfl ?_
                refine v_getI (j := 7) gz_37_132 rfl is_82 rd_5 rfl (fun v260 ev260 pv260 qv260 => ?_)
                have zv260 := ev260.trans ((my_up_fld fh255 (by decide)).trans ((my_up_fld fh252 (by decide)).trans (my_up_self fh184)))
                refine w_iconst gz_37_135 (by decide) ?_
                refine w_iadd gz_37_136 ⟨by omega, by omega⟩ ?_
                refine w_istore_n (ls' := [(2, 82), (0, 1), (0, (v260 + 1))]) gz_37_137 gm_37 rfl rfl rfl ?_
                have ce261 : h255 82 5 = v189 := ((my_up_fld fh255 (by decide)).trans ((my_up_fld fh252 (by decide)).trans ev189.symm))
                have ce262 : h255 82 6 = v258 := ev258.symm
                have ce263 : h255 82 7 = v260 := ev260.symm
                have ce264 : h255 82 8 = 0 := (my_up_self fh255)
                have sg : ∀ j : Int, h255 92 j = h0_0 92 j := fun j => ((my_up_role fh255 is_92 is_82 rfl).trans ((my_up_role fh252 is_92 is_82 rfl).trans ((my_up_role fh184 is_92 is_82 rfl).trans (rfl : h0_0 92 j = h0_0 92 j))))
                exact J138_0 (1001) (1) ((v260 + 1)) (v189) (v258) h255 (gh255) (by omega) (by omega) (by omega) (by omega) (by omega) (by omega) (by omega) (by omega) (by omega) (by omega) (by omega) (by omega) (by omega) (by omega) (by omega) (by omega) (((my_up_fld fh255 (by decide)).trans ((my_up_fld fh252 (by decide)).trans ev186.symm)).trans (by omega)) (((my_up_fld fh255 (by decide)).trans ((my_up_fld fh252 (by decide)).trans ev189.symm)).trans (by omega)) (ev258.symm.trans (by omega)) (ev260.symm.trans (by omega)) ((my_up_self fh255).trans (by omega)) (((my_up_fld fh255 (by decide)).trans ((my_up_fld fh252 (by decide)).trans ((my_up_fld fh184 (by decide)).trans c82_9_0_0))).trans (by omega)) (by omega) (by first | (intro t k a b; rw [sg]; exact dg_181_0 (by omega) k (by omega) (by omega)) | (intro t k a b; rw [sg]; exact dg_138_0 (by omega) k (by omega) (by omega)) | (intro t k a b; rw [sg, ← sg0, sgi k (by omega)]; omega) | (intro t; omega) | (intro t k a b; rw [sg]; rcases (by omega : k = p138_1 ∨ k < p138_1) with q | q <;> first | exact dg_138_0 (by omega) k (by omega) (by omega) | (subst q; omega)) | omega) (by first | assumption | omega | (subst_vars; omega) | omega) (by first | assumption | omega | (subst_vars; omega) | omega) (by first | assumption | omega | (subst_vars; omega) | omega) (by first | exact tk_A_e A_181_0 (by omega) (by omega) (by omega) | exact tk_A_s A_138_0 (by omega) (by omega) (by omega) (by omega) | exact tk_A_e A_138_0 (by omega) (by omega) (by omega) | exact tk_A_0 b52 (n52 (by omega)).1 (n52 (by omega)).2 k88 (by omega) (by omega) (by omega) | omega) (by omega) (by omega) (by omega)
              ·
                refine w_iconst gz_38_12 (by decide) ?_
                refine w_iret gz_38_13 gm_38 ?_
                show wp l rho (d + 1) 37 84 [(2, 82), (9, 0), (9, 0)] [(0, 1), (2, 82)] h184 Q
                refine w_goto (t := 88) gz_37_84 rfl ?_
                have k88 : tk_k (h 92 st) = 1 := by rw [← c81]; unfold tk_k; (repeat (first | rw [if_pos (by omega)] | rw [if_neg (by omega)]))
                refine v_putI (j := 6) gz_37_88 rfl is_82 rd_5 rfl (by omega) (by omega) rfl (fun h265 fh265 => ?_)
                have gh265 : my_fr [(5, 5), (5, 6), (5, 7), (5, 8)] h h265 := my_fr.up gh184 is_82 fh265 rfl
                refine w_aload_n gz_37_91 rfl ?_
                refine v_getI (j := 6) gz_37_92 rfl is_82 rd_5 rfl (fun v266 ev266 pv266 qv266 => ?_)
                have zv266 := ev266.trans (my_up_self fh265)
                refine w_ifne (t := 99) gz_37_95 rfl (fun u267 => ?_) (fun u267 => by exfalso; omega)
                refine w_aload_n gz_37_99 rfl ?_
                refine w_iconst gz_37_100 (by decide) ?_
                refine v_putI (j := 8) gz_37_101 rfl is_82 rd_5 rfl (by omega) (by omega) rfl (fun h268 fh268 => ?_)
                have gh268 : my_fr [(5, 5), (5, 6), (5, 7), (5, 8)] h h268 := my_fr.up gh265 is_82 fh268 rfl
                refine w_aload_n gz_37_104 rfl ?_
                refine v_getI (j := 6) gz_37_105 rfl is_82 rd_5 rfl (fun v269 ev269 pv269 qv269 => ?_)
                have zv269 := ev269.trans ((my_up_fld fh268 (by decide)).trans ev266.symm)
                refine w_iconst gz_37_108 (by decide) ?_
                refine w_icne (t := 117) gz_37_109 rfl (fun u270 => by exfalso; omega) (fun u270 => ?_)
                refine w_bipush gz_37_112 (by decide) ?_
                refine w_goto (t := 130) gz_37_114 rfl ?_
                refine w_istore_n (ls' := [(2, 82), (0, 8), (9, 0)]) gz_37_130 gm_37 rfl rfl rfl ?_
                refine w_aload_n gz_37_131 rfl ?_
                refine v_getI (j := 7) gz_37_132 rfl is_82 rd_5 rfl (fun v271 ev271 pv271 qv271 => ?_)
                have zv271 := ev271.trans ((my_up_fld fh268 (by decide)).trans ((my_up_fld fh265 (by decide)).trans (my_up_self fh184)))
                refine w_iconst gz_37_135 (by decide) ?_
                refine w_iadd gz_37_136 ⟨by omega, by omega⟩ ?_
                refine w_istore_n (ls' := [(2, 82), (0, 8), (0, (v271 + 1))]) gz_37_137 gm_37 rfl rfl rfl ?_
                have ce272 : h268 82 5 = v189 := ((my_up_fld fh268 (by decide)).trans ((my_up_fld fh265 (by decide)).trans ev189.symm))
                have ce273 : h268 82 6 = v269 := ev269.symm
                have ce274 : h268 82 7 = v271 := ev271.symm
                have ce275 : h268 82 8 = 0 := (my_up_self fh268)
                have sg : ∀ j : Int, h268 92 j = h0_0 92 j := fun j => ((my_up_role fh268 is_92 is_82 rfl).trans ((my_up_role fh265 is_92 is_82 rfl).trans ((my_up_role fh184 is_92 is_82 rfl).trans (rfl : h0_0 92 j = h0_0 92 j))))
                exact J138_0 (1001) (8) ((v271 + 1)) (v189) (v269) h268 (gh268) (by omega) (by omega) (by omega) (by omega) (by omega) (by omega) (by omega) (by omega) (by omega) (by omega) (by omega) (by omega) (by omega) (by omega) (by omega) (by omega) (((my_up_fld fh268 (by decide)).trans ((my_up_fld fh265 (by decide)).trans ev186.symm)).trans (by omega)) (((my_up_fld fh268 (by decide)).trans ((my_up_fld fh265 (by decide)).trans ev189.symm)).trans (by omega)) (ev269.symm.trans (by omega)) (ev271.symm.trans (by omega)) ((my_up_self fh268).trans (by omega)) (((my_up_fld fh268 (by decide)).trans ((my_up_fld fh265 (by decide)).trans ((my_up_fld fh184 (by decide)).trans c82_9_0_0))).trans (by omega)) (by omega) (by first | (intro t k a b; rw [sg]; exact dg_181_0 (by omega) k (by omega) (by omega)) | (intro t k a b; rw [sg]; exact dg_138_0 (by omega) k (by omega) (by omega)) | (intro t k a b; rw [sg, ← sg0, sgi k (by omega)]; omega) | (intro t; omega) | (intro t k a b; rw [sg]; rcases (by omega : k = p138_1 ∨ k < p138_1) with q | q <;> first | exact dg_138_0 (by omega) k (by omega) (by omega) | (subst q; omega)) | omega) (by first | assumption | omega | (subst_vars; omega) | omega) (by first | assumption | omega | (subst_vars; omega) | omega) (by first | assumption | omega | (subst_vars; omega) | omega) (by first | exact tk_A_e A_181_0 (by omega) (by omega) (by omega) | exact tk_A_s A_138_0 (by omega) (by omega) (by omega) (by omega) | exact tk_A_e A_138_0 (by omega) (by omega) (by omega) | exact tk_A_0 b52 (n52 (by omega)).1 (n52 (by omega)).2 k88 (by omega) (by omega) (by omega) | omega) (by omega) (by omega) (by omega)
          ·
            refine w_aload_n gz_37_39 rfl ?_
            refine w_dup gz_37_40 rfl ?_
            refine v_getI (j := 5) gz_37_41 rfl is_82 rd_5 rfl (fun v276 ev276 pv276 qv276 => ?_)
            have zv276 := ev276.trans ev180.symm
            refine w_iconst gz_37_44 (by decide) ?_
            refine w_iadd gz_37_45 ⟨by omega, by omega⟩ ?_
            refine v_putI (j := 5) gz_37_46 rfl is_82 rd_5 rfl (by omega) (by omega) rfl (fun h277 fh277 => ?_)
            have gh277 : my_fr [(5, 5), (5, 6), (5, 7), (5, 8)] h h277 := my_fr.up gh_0_0 is_82 fh277 rfl
            have b46 : ∀ i : Int, h 82 5 ≤ i → i < h277 82 5 → h 92 i = 10 ∨ h 92 i = 32 := by
              have z := my_up_self fh277
              intro i a b
              rcases (by omega : i = h0_0 82 5 ∨ i < h0_0 82 5) with q | q
              · rw [q]; omega
              · first | exact bl_0_0 i a q | omega
            refine w_goto (t := 0) gz_37_49 rfl ?_
            have ce278 : h277 82 5 = (v276 + 1) := (my_up_self fh277)
            exact ih_0_0 ((v276 + 1)) h277 (gh277) (by omega) (by omega) (by omega) (by omega) (by omega) (by omega) (by omega) (((my_up_fld fh277 (by decide)).trans ev153.symm).trans (by omega)) ((my_up_self fh277).trans (by omega)) (((my_up_fld fh277 (by decide)).trans c82_9_0_0).trans (by omega)) (b46) (by omega)
  refine w_aload_n gz_37_0 rfl ?_
  refine v_getI (j := 5) gz_37_1 rfl is_82 rd_5 rfl (fun v279 ev279 pv279 qv279 => ?_)
  have zv279 := ev279.trans ek82_5.symm
  refine w_aload_n gz_37_4 rfl ?_
  refine v_getI (j := 4) gz_37_5 rfl is_82 rd_5 rfl (fun v280 ev280 pv280 qv280 => ?_)
  have zv280 := ev280.trans ek82_4.symm
  refine w_icge (t := 52) gz_37_8 rfl (fun u281 => ?_) (fun u281 => ?_)
  ·
    obtain ⟨st, est⟩ : ∃ z : Int, z = h 82 5 := ⟨_, rfl⟩
    have b52 : ∀ i : Int, h 82 5 ≤ i → i < st → h 92 i = 10 ∨ h 92 i = 32 := by first | (intro i a b; exact bl_0_0 i a (by omega)) | (intro i a b; omega)
    have n52 : st < h 82 4 → h 92 st ≠ 10 ∧ h 92 st ≠ 32 := by rw [est]; intro q; omega
    refine w_aload_n gz_37_52 rfl ?_
    refine w_aload_n gz_37_53 rfl ?_
    refine v_getI (j := 5) gz_37_54 rfl is_82 rd_5 rfl (fun v282 ev282 pv282 qv282 => ?_)
    have zv282 := ev282.trans ev279.symm
    refine v_putI (j := 7) gz_37_57 rfl is_82 rd_5 rfl (by omega) (by omega) rfl (fun h283 fh283 => ?_)
    have gh283 : my_fr [(5, 5), (5, 6), (5, 7), (5, 8)] h h283 := my_fr.up my_fr.rf is_82 fh283 rfl
    have Al_h283 : Al h283 := Al_ag (my_ag.up fh283 is_82 rfl) n_Al
    refine w_aload_n gz_37_60 rfl ?_
    refine w_aload_n gz_37_61 rfl ?_
    refine v_getI (j := 5) gz_37_62 rfl is_82 rd_5 rfl (fun v284 ev284 pv284 qv284 => ?_)
    have zv284 := ev284.trans ((my_up_fld fh283 (by decide)).trans ev282.symm)
    refine w_aload_n gz_37_65 rfl ?_
    refine v_getI (j := 4) gz_37_66 rfl is_82 rd_5 rfl (fun v285 ev285 pv285 qv285 => ?_)
    have zv285 := ev285.trans ((my_up_fld fh283 (by decide)).trans ev280.symm)
    refine w_icge (t := 87) gz_37_69 rfl (fun u286 => ?_) (fun u286 => by exfalso; omega)
    refine w_iconst gz_37_87 (by decide) ?_
    refine v_putI (j := 6) gz_37_88 rfl is_82 rd_5 rfl (by omega) (by omega) rfl (fun h287 fh287 => ?_)
    have gh287 : my_fr [(5, 5), (5, 6), (5, 7), (5, 8)] h h287 := my_fr.up gh283 is_82 fh287 rfl
    have Al_h287 : Al h287 := Al_ag (my_ag.up fh287 is_82 rfl) Al_h283
    refine w_aload_n gz_37_91 rfl ?_
    refine v_getI (j := 6) gz_37_92 rfl is_82 rd_5 rfl (fun v288 ev288 pv288 qv288 => ?_)
    have zv288 := ev288.trans (my_up_self fh287)
    refine w_ifne (t := 99) gz_37_95 rfl (fun u289 => by exfalso; omega) (fun u289 => ?_)
    have ce290 : h287 82 4 = v285 := ((my_up_fld fh287 (by decide)).trans ev285.symm)
    have ce291 : h287 82 5 = v284 := ((my_up_fld fh287 (by decide)).trans ev284.symm)
    have ce292 : h287 82 6 = v288 := ev288.symm
    have ce293 : h287 82 7 = v282 := ((my_up_fld fh287 (by decide)).trans (my_up_self fh283))
    have ce294 : h287 82 8 = h 82 8 := ((my_up_fld fh287 (by decide)).trans ((my_up_fld fh283 (by decide)).trans (rfl : h 82 8 = h 82 8)))
    have TT : tk_T (h 92) (h 82 4) (h 82 5) (h287 82 7) (h287 82 5) (h287 82 6) (h287 82 8) := by first | exact tk_end b52 (by omega) (by omega) (by omega) (by omega) (by omega) | exact tk_fin A_181_0 E_181_0 D_181_0 (by omega) (by omega) (by omega) (by omega) (by omega) (by omega) (by omega) (by omega) (by omega)
    have Al_h287t295 : Al h287 := by unfold Al; omega
    have Cu_h287t296 : Cu h287 := Cu_T TT (fun j => my_fr.at gh287 is_92 rfl) (my_fr.at gh287 is_82 rfl)
    have c297 := ev288.symm
    have c298 := ((my_up_fld fh287 (by decide)).trans ((my_up_fld fh283 (by decide)).trans cf))
    exact w_vret gz_37_98 gm_37 (k0 h287 (gh287) (by omega) (by omega) (by omega) (by first | exact T_s TT | exact T_ns (T_s TT) | omega) (by first | exact T_s TT | exact T_ns (T_s TT) | omega) Al_h287t295 Cu_h287t296)
  ·
    refine w_aload_n gz_37_11 rfl ?_
    refine w_getX (v := 92) gz_37_12 is_82 rd_5 rfl (by decide) rfl ?_
    refine w_aload_n gz_37_15 rfl ?_
    refine v_getI (j := 5) gz_37_16 rfl is_82 rd_5 rfl (fun v300 ev300 pv300 qv300 => ?_)
    have zv300 := ev300.trans ev279.symm
    refine w_yald gz_37_19 is_92 rd_40 (by omega) (by omega) (fun v301 ev301 pv301 qv301 => ?_)
    have c20 : v301 = h 92 (h 82 5) := by
      have z : h 92 v300 = h 92 v300 := by first | rfl | exact my_fr.at my_fr.rf is_92 rfl
      rw [show (h 82 5) = v300 by omega]
      omega
    refine w_bipush gz_37_20 (by decide) ?_
    refine w_iceq (t := 39) gz_37_22 rfl (fun u302 => ?_) (fun u302 => ?_)
    ·
      refine w_aload_n gz_37_39 rfl ?_
      refine w_dup gz_37_40 rfl ?_
      refine v_getI (j := 5) gz_37_41 rfl is_82 rd_5 rfl (fun v303 ev303 pv303 qv303 => ?_)
      have zv303 := ev303.trans ev300.symm
      refine w_iconst gz_37_44 (by decide) ?_
      refine w_iadd gz_37_45 ⟨by omega, by omega⟩ ?_
      refine v_putI (j := 5) gz_37_46 rfl is_82 rd_5 rfl (by omega) (by omega) rfl (fun h304 fh304 => ?_)
      have gh304 : my_fr [(5, 5), (5, 6), (5, 7), (5, 8)] h h304 := my_fr.up my_fr.rf is_82 fh304 rfl
      have b46 : ∀ i : Int, h 82 5 ≤ i → i < h304 82 5 → h 92 i = 10 ∨ h 92 i = 32 := by
        have z := my_up_self fh304
        intro i a b
        rcases (by omega : i = h 82 5 ∨ i < h 82 5) with q | q
        · rw [q]; omega
        · first | exact bl_0_0 i a q | omega
      refine w_goto (t := 0) gz_37_49 rfl ?_
      have ce305 : h304 82 5 = (v303 + 1) := (my_up_self fh304)
      exact J0_0 (1001) ((v303 + 1)) h304 (gh304) (by omega) (by omega) (by omega) (by omega) (by omega) (by omega) (by omega) (((my_up_fld fh304 (by decide)).trans ev280.symm).trans (by omega)) ((my_up_self fh304).trans (by omega)) (((my_up_fld fh304 (by decide)).trans cf).trans (by omega)) (b46) (by omega)
    ·
      refine w_aload_n gz_37_25 rfl ?_
      refine w_getX (v := 92) gz_37_26 is_82 rd_5 rfl (by decide) rfl ?_
      refine w_aload_n gz_37_29 rfl ?_
      refine v_getI (j := 5) gz_37_30 rfl is_82 rd_5 rfl (fun v307 ev307 pv307 qv307 => ?_)
      have zv307 := ev307.trans ev300.symm
      refine w_yald gz_37_33 is_92 rd_40 (by omega) (by omega) (fun v308 ev308 pv308 qv308 => ?_)
      have wv308 : v307 = v300 := by omega
      rw [wv308] at ev308
      have zv308 := ev308.trans ev301.symm
      have c34 : v308 = h 92 (h 82 5) := by
        have z : h 92 v300 = h 92 v300 := by first | rfl | exact my_fr.at my_fr.rf is_92 rfl
        rw [show (h 82 5) = v300 by omega]
        omega
      refine w_bipush gz_37_34 (by decide) ?_
      refine w_icne (t := 52) gz_37_36 rfl (fun u309 => ?_) (fun u309 => ?_)
      ·
        obtain ⟨st, est⟩ : ∃ z : Int, z = h 82 5 := ⟨_, rfl⟩
        have b52 : ∀ i : Int, h 82 5 ≤ i → i < st → h 92 i = 10 ∨ h 92 i = 32 := by first | (intro i a b; exact bl_0_0 i a (by omega)) | (intro i a b; omega)
        have n52 : st < h 82 4 → h 92 st ≠ 10 ∧ h 92 st ≠ 32 := by rw [est]; intro q; omega
        refine w_aload_n gz_37_52 rfl ?_
        refine w_aload_n gz_37_53 rfl ?_
        refine v_getI (j := 5) gz_37_54 rfl is_82 rd_5 rfl (fun v310 ev310 pv310 qv310 => ?_)
        have zv310 := ev310.trans ev307.symm
        refine v_putI (j := 7) gz_37_57 rfl is_82 rd_5 rfl (by omega) (by omega) rfl (fun h311 fh311 => ?_)
        have gh311 : my_fr [(5, 5), (5, 6), (5, 7), (5, 8)] h h311 := my_fr.up my_fr.rf is_82 fh311 rfl
        have Al_h311 : Al h311 := Al_ag (my_ag.up fh311 is_82 rfl) n_Al
        refine w_aload_n gz_37_60 rfl ?_
        refine w_aload_n gz_37_61 rfl ?_
        refine v_getI (j := 5) gz_37_62 rfl is_82 rd_5 rfl (fun v312 ev312 pv312 qv312 => ?_)
        have zv312 := ev312.trans ((my_up_fld fh311 (by decide)).trans ev310.symm)
        refine w_aload_n gz_37_65 rfl ?_
        refine v_getI (j := 4) gz_37_66 rfl is_82 rd_5 rfl (fun v313 ev313 pv313 qv313 => ?_)
        have zv313 := ev313.trans ((my_up_fld fh311 (by decide)).trans ev280.symm)
        refine w_icge (t := 87) gz_37_69 rfl (fun u314 => by exfalso; omega) (fun u314 => ?_)
        refine w_aload_n gz_37_72 rfl ?_
        refine w_getX (v := 92) gz_37_73 is_82 rd_5 rfl (by decide) rfl ?_
        refine w_aload_n gz_37_76 rfl ?_
        refine v_getI (j := 5) gz_37_77 rfl is_82 rd_5 rfl (fun v316 ev316 pv316 qv316 => ?_)
        have zv316 := ev316.trans ev312.symm
        have sg0 : ∀ j : Int, h311 92 j = h 92 j := fun j => ((my_up_role fh311 is_92 is_82 rfl).trans (rfl : h 92 j = h 92 j))
        refine w_yald gz_37_80 is_92 rd_40 (by omega) (by omega) (fun v317 ev317 pv317 qv317 => ?_)
        have wv317 : v316 = v300 := by omega
        rw [wv317] at ev317
        have zv317 := ev317.trans ((my_up_role fh311 is_92 is_82 rfl).trans ev308.symm)
        have sgi : ∀ k : Int, k = v300 → h311 92 k = v317 := fun k q => by rw [q]; omega
        have c81 : v317 = h 92 st := by
          have z : h311 92 v300 = h 92 v300 := by first | rfl | exact my_fr.at gh311 is_92 rfl
          rw [show st = v300 by omega]
          omega
        refine w_inS (k := 0) (as := [(0, v317)]) (r := [(2, 82)]) (ls0 := [(0, v317)]) gz_37_81 gm_38 rfl rfl rfl rfl rfl rfl ?_
        refine w_iload_n gz_38_0 rfl ?_
        refine w_bipush gz_38_1 (by decide) ?_
        refine w_iclt (t := 14) gz_38_3 rfl (fun u318 => ?_) (fun u318 => ?_)
        ·
          refine w_iload_n gz_38_14 rfl ?_
          refine w_bipush gz_38_15 (by decide) ?_
          refine w_iclt (t := 28) gz_38_17 rfl (fun u319 => ?_) (fun u319 => ?_)
          ·
            refine w_iload_n gz_38_28 rfl ?_
            refine w_bipush gz_38_29 (by decide) ?_
            refine w_icne (t := 38) gz_38_31 rfl (fun u320 => ?_) (fun u320 => by exfalso; omega)
            refine w_iconst gz_38_38 (by decide) ?_
            refine w_iret gz_38_39 gm_38 ?_
            show wp l rho (d + 1) 37 84 [(2, 82), (9, 0), (9, 0)] [(0, 4), (2, 82)] h311 Q
            refine w_goto (t := 88) gz_37_84 rfl ?_
            have k88 : tk_k (h 92 st) = 4 := by rw [← c81]; unfold tk_k; (repeat (first | rw [if_pos (by omega)] | rw [if_neg (by omega)]))
            refine v_putI (j := 6) gz_37_88 rfl is_82 rd_5 rfl (by omega) (by omega) rfl (fun h321 fh321 => ?_)
            have gh321 : my_fr [(5, 5), (5, 6), (5, 7), (5, 8)] h h321 := my_fr.up gh311 is_82 fh321 rfl
            have Al_h321 : Al h321 := Al_ag (my_ag.up fh321 is_82 rfl) Al_h311
            refine w_aload_n gz_37_91 rfl ?_
            refine v_getI (j := 6) gz_37_92 rfl is_82 rd_5 rfl (fun v322 ev322 pv322 qv322 => ?_)
            have zv322 := ev322.trans (my_up_self fh321)
            refine w_ifne (t := 99) gz_37_95 rfl (fun u323 => ?_) (fun u323 => by exfalso; omega)
            refine w_aload_n gz_37_99 rfl ?_
            refine w_iconst gz_37_100 (by decide) ?_
            refine v_putI (j := 8) gz_37_101 rfl is_82 rd_5 rfl (by omega) (by omega) rfl (fun h324 fh324 => ?_)
            have gh324 : my_fr [(5, 5), (5, 6), (5, 7), (5, 8)] h h324 := my_fr.up gh321 is_82 fh324 rfl
            have Al_h324 : Al h324 := Al_ag (my_ag.up fh324 is_82 rfl) Al_h321
            refine w_aload_n gz_37_104 rfl ?_
            refine v_getI (j := 6) gz_37_105 rfl is_82 rd_5 rfl (fun v325 ev325 pv325 qv325 => ?_)
            have zv325 := ev325.trans ((my_up_fld fh324 (by decide)).trans ev322.symm)
            refine w_iconst gz_37_108 (by decide) ?_
            refine w_icne (t := 117) gz_37_109 rfl (fun u326 => ?_) (fun u326 => by exfalso; omega)
            refine w_aload_n gz_37_117 rfl ?_
            refine v_getI (j := 6) gz_37_118 rfl is_82 rd_5 rfl (fun v327 ev327 pv327 qv327 => ?_)
            have zv327 := ev327.trans ev325.symm
            refine w_iconst gz_37_121 (by decide) ?_
            refine w_icne (t := 129) gz_37_122 rfl (fun u328 => ?_) (fun u328 => by exfalso; omega)
            refine w_iconst gz_37_129 (by decide) ?_
            refine w_istore_n (ls' := [(2, 82), (0, 1), (9, 0)]) gz_37_130 gm_37 rfl rfl rfl ?_
            refine w_aload_n gz_37_131 rfl ?_
            refine v_getI (j := 7) gz_37_132 rfl is_82 rd_5 rfl (fun v329 ev329 pv329 qv329 => ?_)
            have zv329 := ev329.trans ((my_up_fld fh324 (by decide)).trans ((my_up_fld fh321 (by decide)).trans (my_up_self fh311)))
            refine w_iconst gz_37_135 (by decide) ?_
            refine w_iadd gz_37_136 ⟨by omega, by omega⟩ ?_
            refine w_istore_n (ls' := [(2, 82), (0, 1), (0, (v329 + 1))]) gz_37_137 gm_37 rfl rfl rfl ?_
            have ce330 : h324 82 5 = v316 := ((my_up_fld fh324 (by decide)).trans ((my_up_fld fh321 (by decide)).trans ev316.symm))
            have ce331 : h324 82 6 = v327 := ev327.symm
            have ce332 : h324 82 7 = v329 := ev329.symm
            have ce333 : h324 82 8 = 0 := (my_up_self fh324)
            have sg : ∀ j : Int, h324 92 j = h 92 j := fun j => ((my_up_role fh324 is_92 is_82 rfl).trans ((my_up_role fh321 is_92 is_82 rfl).trans ((my_up_role fh311 is_92 is_82 rfl).trans (rfl : h 92 j = h 92 j))))
            exact J138_0 (1001) (1) ((v329 + 1)) (v316) (v327) h324 (gh324) (by omega) (by omega) (by omega) (by omega) (by omega) (by omega) (by omega) (by omega) (by omega) (by omega) (by omega) (by omega) (by omega) (by omega) (by omega) (by omega) (((my_up_fld fh324 (by decide)).trans ((my_up_fld fh321 (by decide)).trans ev313.symm)).trans (by omega)) (((my_up_fld fh324 (by decide)).trans ((my_up_fld fh321 (by decide)).trans ev316.symm)).trans (by omega)) (ev327.symm.trans (by omega)) (ev329.symm.trans (by omega)) ((my_up_self fh324).trans (by omega)) (((my_up_fld fh324 (by decide)).trans ((my_up_fld fh321 (by decide)).trans ((my_up_fld fh311 (by decide)).trans cf))).trans (by omega)) (by omega) (by first | (intro t k a b; rw [sg]; exact dg_181_0 (by omega) k (by omega) (by omega)) | (intro t k a b; rw [sg]; exact dg_138_0 (by omega) k (by omega) (by omega)) | (intro t k a b; rw [sg, ← sg0, sgi k (by omega)]; omega) | (intro t; omega) | (intro t k a b; rw [sg]; rcases (by omega : k = p138_1 ∨ k < p138_1) with q | q <;> first | exact dg_138_0 (by omega) k (by omega) (by omega) | (subst q; omega)) | omega) (by first | assumption | omega | (subst_vars; omega) | omega) (by first | assumption | omega | (subst_vars; omega) | omega) (by first | assumption | omega | (subst_vars; omega) | omega) (by first | exact tk_A_e A_181_0 (by omega) (by omega) (by omega) | exact tk_A_s A_138_0 (by omega) (by omega) (by omega) (by omega) | exact tk_A_e A_138_0 (by omega) (by omega) (by omega) | exact tk_A_0 b52 (n52 (by omega)).1 (n52 (by omega)).2 k88 (by omega) (by omega) (by omega) | omega) (by omega) (by omega) (by omega)
          ·
            refine w_iload_n gz_38_20 rfl ?_
            refine w_bipush gz_38_21 (by decide) ?_
            refine w_icgt (t := 28) gz_38_23 rfl (fun u334 => ?_) (fun u334 => ?_)
            ·
              refine w_iload_n gz_38_28 rfl ?_
              refine w_bipush gz_38_29 (by decide) ?_
              refine w_icne (t := 38) gz_38_31 rfl (fun u335 => ?_) (fun u335 => ?_)
              ·
                refine w_iconst gz_38_38 (by decide) ?_
                refine w_iret gz_38_39 gm_38 ?_
                show wp l rho (d + 1) 37 84 [(2, 82), (9, 0), (9, 0)] [(0, 4), (2, 82)] h311 Q
                refine w_goto (t := 88) gz_37_84 rfl ?_
                have k88 : tk_k (h 92 st) = 4 := by rw [← c81]; unfold tk_k; (repeat (first | rw [if_pos (by omega)] | rw [if_neg (by omega)]))
                refine v_putI (j := 6) gz_37_88 rfl is_82 rd_5 rfl (by omega) (by omega) rfl (fun h336 fh336 => ?_)
                have gh336 : my_fr [(5, 5), (5, 6), (5, 7), (5, 8)] h h336 := my_fr.up gh311 is_82 fh336 rfl
                have Al_h336 : Al h336 := Al_ag (my_ag.up fh336 is_82 rfl) Al_h311
                refine w_aload_n gz_37_91 rfl ?_
                refine v_getI (j := 6) gz_37_92 rfl is_82 rd_5 rfl (fun v337 ev337 pv337 qv337 => ?_)
                have zv337 := ev337.trans (my_up_self fh336)
                refine w_ifne (t := 99) gz_37_95 rfl (fun u338 => ?_) (fun u338 => by exfalso; omega)
                refine w_aload_n gz_37_99 rfl ?_
                refine w_iconst gz_37_100 (by decide) ?_
                refine v_putI (j := 8) gz_37_101 rfl is_82 rd_5 rfl (by omega) (by omega) rfl (fun h339 fh339 => ?_)
                have gh339 : my_fr [(5, 5), (5, 6), (5, 7), (5, 8)] h h339 := my_fr.up gh336 is_82 fh339 rfl
                have Al_h339 : Al h339 := Al_ag (my_ag.up fh339 is_82 rfl) Al_h336
                refine w_aload_n gz_37_104 rfl ?_
                refine v_getI (j := 6) gz_37_105 rfl is_82 rd_5 rfl (fun v340 ev340 pv340 qv340 => ?_)
                have zv340 := ev340.trans ((my_up_fld fh339 (by decide)).trans ev337.symm)
                refine w_iconst gz_37_108 (by decide) ?_
                refine w_icne (t := 117) gz_37_109 rfl (fun u341 => ?_) (fun u341 => by exfalso; omega)
                refine w_aload_n gz_37_117 rfl ?_
                refine v_getI (j := 6) gz_37_118 rfl is_82 rd_5 rfl (fun v342 ev342 pv342 qv342 => ?_)
                have zv342 := ev342.trans ev340.symm
                refine w_iconst gz_37_121 (by decide) ?_
                refine w_icne (t := 129) gz_37_122 rfl (fun u343 => ?_) (fun u343 => by exfalso; omega)
                refine w_iconst gz_37_129 (by decide) ?_
                refine w_istore_n (ls' := [(2, 82), (0, 1), (9, 0)]) gz_37_130 gm_37 rfl rfl rfl ?_
                refine w_aload_n gz_37_131 rfl ?_
                refine v_getI (j := 7) gz_37_132 rfl is_82 rd_5 rfl (fun v344 ev344 pv344 qv344 => ?_)
                have zv344 := ev344.trans ((my_up_fld fh339 (by decide)).trans ((my_up_fld fh336 (by decide)).trans (my_up_self fh311)))
                refine w_iconst gz_37_135 (by decide) ?_
                refine w_iadd gz_37_136 ⟨by omega, by omega⟩ ?_
                refine w_istore_n (ls' := [(2, 82), (0, 1), (0, (v344 + 1))]) gz_37_137 gm_37 rfl rfl rfl ?_
                have ce345 : h339 82 5 = v316 := ((my_up_fld fh339 (by decide)).trans ((my_up_fld fh336 (by decide)).trans ev316.symm))
                have ce346 : h339 82 6 = v342 := ev342.symm
                have ce347 : h339 82 7 = v344 := ev344.symm
                have ce348 : h339 82 8 = 0 := (my_up_self fh339)
                have sg : ∀ j : Int, h339 92 j = h 92 j := fun j => ((my_up_role fh339 is_92 is_82 rfl).trans ((my_up_role fh336 is_92 is_82 rfl).trans ((my_up_role fh311 is_92 is_82 rfl).trans (rfl : h 92 j = h 92 j))))
                exact J138_0 (1001) (1) ((v344 + 1)) (v316) (v342) h339 (gh339) (by omega) (by omega) (by omega) (by omega) (by omega) (by omega) (by omega) (by omega) (by omega) (by omega) (by omega) (by omega) (by omega) (by omega) (by omega) (by omega) (((my_up_fld fh339 (by decide)).trans ((my_up_fld fh336 (by decide)).trans ev313.symm)).trans (by omega)) (((my_up_fld fh339 (by decide)).trans ((my_up_fld fh336 (by decide)).trans ev316.symm)).trans (by omega)) (ev342.symm.trans (by omega)) (ev344.symm.trans (by omega)) ((my_up_self fh339).trans (by omega)) (((my_up_fld fh339 (by decide)).trans ((my_up_fld fh336 (by decide)).trans ((my_up_fld fh311 (by decide)).trans cf))).trans (by omega)) (by omega) (by first | (intro t k a b; rw [sg]; exact dg_181_0 (by omega) k (by omega) (by omega)) | (intro t k a b; rw [sg]; exact dg_138_0 (by omega) k (by omega) (by omega)) | (intro t k a b; rw [sg, ← sg0, sgi k (by omega)]; omega) | (intro t; omega) | (intro t k a b; rw [sg]; rcases (by omega : k = p138_1 ∨ k < p138_1) with q | q <;> first | exact dg_138_0 (by omega) k (by omega) (by omega) | (subst q; omega)) | omega) (by first | assumption | omega | (subst_vars; omega) | omega) (by first | assumption | omega | (subst_vars; omega) | omega) (by first | assumption | omega | (subst_vars; omega) | omega) (by first | exact tk_A_e A_181_0 (by omega) (by omega) (by omega) | exact tk_A_s A_138_0 (by omega) (by omega) (by omega) (by omega) | exact tk_A_e A_138_0 (by omega) (by omega) (by omega) | exact tk_A_0 b52 (n52 (by omega)).1 (n52 (by omega)).2 k88 (by omega) (by omega) (by omega) | omega) (by omega) (by omega) (by omega)
              ·
                refine w_iconst gz_38_34 (by decide) ?_
                refine w_goto (t := 39) gz_38_35 rfl ?_
                refine w_iret gz_38_39 gm_38 ?_
                show wp l rho (d + 1) 37 84 [(2, 82), (9, 0), (9, 0)] [(0, 3), (2, 82)] h311 Q
                refine w_goto (t := 88) gz_37_84 rfl ?_
                have k88 : tk_k (h 92 st) = 3 := by rw [← c81]; unfold tk_k; (repeat (first | rw [if_pos (by omega)] | rw [if_neg (by omega)]))
                refine v_putI (j := 6) gz_37_88 rfl is_82 rd_5 rfl (by omega) (by omega) rfl (fun h349 fh349 => ?_)
                have gh349 : my_fr [(5, 5), (5, 6), (5, 7), (5, 8)] h h349 := my_fr.up gh311 is_82 fh349 rfl
                have Al_h349 : Al h349 := Al_ag (my_ag.up fh349 is_82 rfl) Al_h311
                refine w_aload_n gz_37_91 rfl ?_
                refine v_getI (j := 6) gz_37_92 rfl is_82 rd_5 rfl (fun v350 ev350 pv350 qv350 => ?_)
                have zv350 := ev350.trans (my_up_self fh349)
                refine w_ifne (t := 99) gz_37_95 rfl (fun u351 => ?_) (fun u351 => by exfalso; omega)
                refine w_aload_n gz_37_99 rfl ?_
                refine w_iconst gz_37_100 (by decide) ?_
                refine v_putI (j := 8) gz_37_101 rfl is_82 rd_5 rfl (by omega) (by omega) rfl (fun h352 fh352 => ?_)
                have gh352 : my_fr [(5, 5), (5, 6), (5, 7), (5, 8)] h h352 := my_fr.up gh349 is_82 fh352 rfl
                have Al_h352 : Al h352 := Al_ag (my_ag.up fh352 is_82 rfl) Al_h349
                refine w_aload_n gz_37_104 rfl ?_
                refine v_getI (j := 6) gz_37_105 rfl is_82 rd_5 rfl (fun v353 ev353 pv353 qv353 => ?_)
                have zv353 := ev353.trans ((my_up_fld fh352 (by decide)).trans ev350.symm)
                refine w_iconst gz_37_108 (by decide) ?_
                refine w_icne (t := 117) gz_37_109 rfl (fun u354 => ?_) (fun u354 => by exfalso; omega)
                refine w_aload_n gz_37_117 rfl ?_
                refine v_getI (j := 6) gz_37_118 rfl is_82 rd_5 rfl (fun v355 ev355 pv355 qv355 => ?_)
                have zv355 := ev355.trans ev353.symm
                refine w_iconst gz_37_121 (by decide) ?_
                refine w_icne (t := 129) gz_37_122 rfl (fun u356 => ?_) (fun u356 => by exfalso; omega)
                refine w_iconst gz_37_129 (by decide) ?_
                refine w_istore_n (ls' := [(2, 82), (0, 1), (9, 0)]) gz_37_130 gm_37 rfl rfl rfl ?_
                refine w_aload_n gz_37_131 rfl ?_
                refine v_getI (j := 7) gz_37_132 rfl is_82 rd_5 rfl (fun v357 ev357 pv357 qv357 => ?_)
                have zv357 := ev357.trans ((my_up_fld fh352 (by decide)).trans ((my_up_fld fh349 (by decide)).trans (my_up_self fh311)))
                refine w_iconst gz_37_135 (by decide) ?_
                refine w_iadd gz_37_136 ⟨by omega, by omega⟩ ?_
                refine w_istore_n (ls' := [(2, 82), (0, 1), (0, (v357 + 1))]) gz_37_137 gm_37 rfl rfl rfl ?_
                have ce358 : h352 82 5 = v316 := ((my_up_fld fh352 (by decide)).trans ((my_up_fld fh349 (by decide)).trans ev316.symm))
                have ce359 : h352 82 6 = v355 := ev355.symm
                have ce360 : h352 82 7 = v357 := ev357.symm
                have ce361 : h352 82 8 = 0 := (my_up_self fh352)
                have sg : ∀ j : Int, h352 92 j = h 92 j := fun j => ((my_up_role fh352 is_92 is_82 rfl).trans ((my_up_role fh349 is_92 is_82 rfl).trans ((my_up_role fh311 is_92 is_82 rfl).trans (rfl : h 92 j = h 92 j))))
                exact J138_0 (1001) (1) ((v357 + 1)) (v316) (v355) h352 (gh352) (by omega) (by omega) (by omega) (by omega) (by omega) (by omega) (by omega) (by omega) (by omega) (by omega) (by omega) (by omega) (by omega) (by omega) (by omega) (by omega) (((my_up_fld fh352 (by decide)).trans ((my_up_fld fh349 (by decide)).trans ev313.symm)).trans (by omega)) (((my_up_fld fh352 (by decide)).trans ((my_up_fld fh349 (by decide)).trans ev316.symm)).trans (by omega)) (ev355.symm.trans (by omega)) (ev357.symm.trans (by omega)) ((my_up_self fh352).trans (by omega)) (((my_up_fld fh352 (by decide)).trans ((my_up_fld fh349 (by decide)).trans ((my_up_fld fh311 (by decide)).trans cf))).trans (by omega)) (by omega) (by first | (intro t k a b; rw [sg]; exact dg_181_0 (by omega) k (by omega) (by omega)) | (intro t k a b; rw [sg]; exact dg_138_0 (by omega) k (by omega) (by omega)) | (intro t k a b; rw [sg, ← sg0, sgi k (by omega)]; omega) | (intro t; omega) | (intro t k a b; rw [sg]; rcases (by omega : k = p138_1 ∨ k < p138_1) with q | q <;> first | exact dg_138_0 (by omega) k (by omega) (by omega) | (subst q; omega)) | omega) (by first | assumption | omega | (subst_vars; omega) | omega) (by first | assumption | omega | (subst_vars; omega) | omega) (by first | assumption | omega | (subst_vars; omega) | omega) (by first | exact tk_A_e A_181_0 (by omega) (by omega) (by omega) | exact tk_A_s A_138_0 (by omega) (by omega) (by omega) (by omega) | exact tk_A_e A_138_0 (by omega) (by omega) (by omega) | exact tk_A_0 b52 (n52 (by omega)).1 (n52 (by omega)).2 k88 (by omega) (by omega) (by omega) | omega) (by omega) (by omega) (by omega)
            ·
              refine w_iconst gz_38_26 (by decide) ?_
              refine w_iret gz_38_27 gm_38 ?_
              show wp l rho (d + 1) 37 84 [(2, 82), (9, 0), (9, 0)] [(0, 2), (2, 82)] h311 Q
              refine w_goto (t := 88) gz_37_84 rfl ?_
              have k88 : tk_k (h 92 st) = 2 := by rw [← c81]; unfold tk_k; (repeat (first | rw [if_pos (by omega)] | rw [if_neg (by omega)]))
              refine v_putI (j := 6) gz_37_88 rfl is_82 rd_5 rfl (by omega) (by omega) rfl (fun h362 fh362 => ?_)
              have gh362 : my_fr [(5, 5), (5, 6), (5, 7), (5, 8)] h h362 := my_fr.up gh311 is_82 fh362 rfl
              have Al_h362 : Al h362 := Al_ag (my_ag.up fh362 is_82 rfl) Al_h311
              refine w_aload_n gz_37_91 rfl ?_
              refine v_getI (j := 6) gz_37_92 rfl is_82 rd_5 rfl (fun v363 ev363 pv363 qv363 => ?_)
              have zv363 := ev363.trans (my_up_self fh362)
              refine w_ifne (t := 99) gz_37_95 rfl (fun u364 => ?_) (fun u364 => by exfalso; omega)
              refine w_aload_n gz_37_99 rfl ?_
              refine w_iconst gz_37_100 (by decide) ?_
              refine v_putI (j := 8) gz_37_101 rfl is_82 rd_5 rfl (by omega) (by omega) rfl (fun h365 fh365 => ?_)
              have gh365 : my_fr [(5, 5), (5, 6), (5, 7), (5, 8)] h h365 := my_fr.up gh362 is_82 fh365 rfl
              have Al_h365 : Al h365 := Al_ag (my_ag.up fh365 is_82 rfl) Al_h362
              refine w_aload_n gz_37_104 rfl ?_
              refine v_getI (j := 6) gz_37_105 rfl is_82 rd_5 rfl (fun v366 ev366 pv366 qv366 => ?_)
              have zv366 := ev366.trans ((my_up_fld fh365 (by decide)).trans ev363.symm)
              refine w_iconst gz_37_108 (by decide) ?_
              refine w_icne (t := 117) gz_37_109 rfl (fun u367 => ?_) (fun u367 => by exfalso; omega)
              refine w_aload_n gz_37_117 rfl ?_
              refine v_getI (j := 6) gz_37_118 rfl is_82 rd_5 rfl (fun v368 ev368 pv368 qv368 => ?_)
              have zv368 := ev368.trans ev366.symm
              refine w_iconst gz_37_121 (by decide) ?_
              refine w_icne (t := 129) gz_37_122 rfl (fun u369 => by exfalso; omega) (fun u369 => ?_)
              refine w_iconst gz_37_125 (by decide) ?_
              refine w_goto (t := 130) gz_37_126 rfl ?_
              refine w_istore_n (ls' := [(2, 82), (0, 3), (9, 0)]) gz_37_130 gm_37 rfl rfl rfl ?_
              refine w_aload_n gz_37_131 rfl ?_
              refine v_getI (j := 7) gz_37_132 rfl is_82 rd_5 rfl (fun v370 ev370 pv370 qv370 => ?_)
              have zv370 := ev370.trans ((my_up_fld fh365 (by decide)).trans ((my_up_fld fh362 (by decide)).trans (my_up_self fh311)))
              refine w_iconst gz_37_135 (by decide) ?_
              refine w_iadd gz_37_136 ⟨by omega, by omega⟩ ?_
              refine w_istore_n (ls' := [(2, 82), (0, 3), (0, (v370 + 1))]) gz_37_137 gm_37 rfl rfl rfl ?_
              have ce371 : h365 82 5 = v316 := ((my_up_fld fh365 (by decide)).trans ((my_up_fld fh362 (by decide)).trans ev316.symm))
              have ce372 : h365 82 6 = v368 := ev368.symm
              have ce373 : h365 82 7 = v370 := ev370.symm
              have ce374 : h365 82 8 = 0 := (my_up_self fh365)
              have sg : ∀ j : Int, h365 92 j = h 92 j := fun j => ((my_up_role fh365 is_92 is_82 rfl).trans ((my_up_role fh362 is_92 is_82 rfl).trans ((my_up_role fh311 is_92 is_82 rfl).trans (rfl : h 92 j = h 92 j))))
              exact J138_0 (1001) (3) ((v370 + 1)) (v316) (v368) h365 (gh365) (by omega) (by omega) (by omega) (by omega) (by omega) (by omega) (by omega) (by omega) (by omega) (by omega) (by omega) (by omega) (by omega) (by omega) (by omega) (by omega) (((my_up_fld fh365 (by decide)).trans ((my_up_fld fh362 (by decide)).trans ev313.symm)).trans (by omega)) (((my_up_fld fh365 (by decide)).trans ((my_up_fld fh362 (by decide)).trans ev316.symm)).trans (by omega)) (ev368.symm.trans (by omega)) (ev370.symm.trans (by omega)) ((my_up_self fh365).trans (by omega)) (((my_up_fld fh365 (by decide)).trans ((my_up_fld fh362 (by decide)).trans ((my_up_fld fh311 (by decide)).trans cf))).trans (by omega)) (by omega) (by first | (intro t k a b; rw [sg]; exact dg_181_0 (by omega) k (by omega) (by omega)) | (intro t k a b; rw [sg]; exact dg_138_0 (by omega) k (by omega) (by omega)) | (intro t k a b; rw [sg, ← sg0, sgi k (by omega)]; omega) | (intro t; omega) | (intro t k a b; rw [sg]; rcases (by omega : k = p138_1 ∨ k < p138_1) with q | q <;> first | exact dg_138_0 (by omega) k (by omega) (by omega) | (subst q; omega)) | omega) (by first | assumption | omega | (subst_vars; omega) | omega) (by first | assumption | omega | (subst_vars; omega) | omega) (by first | assumption | omega | (subst_vars; omega) | omega) (by first | exact tk_A_e A_181_0 (by omega) (by omega) (by omega) | exact tk_A_s A_138_0 (by omega) (by omega) (by omega) (by omega) | exact tk_A_e A_138_0 (by omega) (by omega) (by omega) | exact tk_A_0 b52 (n52 (by omega)).1 (n52 (by omega)).2 k88 (by omega) (by omega) (by omega) | omega) (by omega) (by omega) (by omega)
        ·
          refine w_iload_n gz_38_6 rfl ?_
          refine w_bipush gz_38_7 (by decide) ?_
          refine w_icgt (t := 14) gz_38_9 rfl (fun u375 => ?_) (fun u375 => ?_)
          ·
            refine w_iload_n gz_38_14 rfl ?_
            refine w_bipush gz_38_15 (by decide) ?_
            refine w_iclt (t := 28) gz_38_17 rfl (fun u376 => by exfalso; omega) (fun u376 => ?_)
            refine w_iload_n gz_38_20 rfl ?_
            refine w_bipush gz_38_21 (by decide) ?_
            refine w_icgt (t := 28) gz_38_23 rfl (fun u377 => ?_) (fun u377 => by exfalso; omega)
            refine w_iload_n gz_38_28 rfl ?_
            refine w_bipush gz_38_29 (by decide) ?_
            refine w_icne (t := 38) gz_38_31 rfl (fun u378 => ?_) (fun u378 => by exfalso; omega)
            refine w_iconst gz_38_38 (by decide) ?_
            refine w_iret gz_38_39 gm_38 ?_
            show wp l rho (d + 1) 37 84 [(2, 82), (9, 0), (9, 0)] [(0, 4), (2, 82)] h311 Q
            refine w_goto (t := 88) gz_37_84 rfl ?_
            have k88 : tk_k (h 92 st) = 4 := by rw [← c81]; unfold tk_k; (repeat (first | rw [if_pos (by omega)] | rw [if_neg (by omega)]))
            refine v_putI (j := 6) gz_37_88 rfl is_82 rd_5 rfl (by omega) (by omega) rfl (fun h379 fh379 => ?_)
            have gh379 : my_fr [(5, 5), (5, 6), (5, 7), (5, 8)] h h379 := my_fr.up gh311 is_82 fh379 rfl
            have Al_h379 : Al h379 := Al_ag (my_ag.up fh379 is_82 rfl) Al_h311
            refine w_aload_n gz_37_91 rfl ?_
            refine v_getI (j := 6) gz_37_92 rfl is_82 rd_5 rfl (fun v380 ev380 pv380 qv380 => ?_)
            have zv380 := ev380.trans (my_up_self fh379)
            refine w_ifne (t := 99) gz_37_95 rfl (fun u381 => ?_) (fun u381 => by exfalso; omega)
            refine w_aload_n gz_37_99 rfl ?_
            refine w_iconst gz_37_100 (by decide) ?_
            refine v_putI (j := 8) gz_37_101 rfl is_82 rd_5 rfl (by omega) (by omega) rfl (fun h382 fh382 => ?_)
            have gh382 : my_fr [(5, 5), (5, 6), (5, 7), (5, 8)] h h382 := my_fr.up gh379 is_82 fh382 rfl
            have Al_h382 : Al h382 := Al_ag (my_ag.up fh382 is_82 rfl) Al_h379
            refine w_aload_n gz_37_104 rfl ?_
            refine v_getI (j := 6) gz_37_105 rfl is_82 rd_5 rfl (fun v383 ev383 pv383 qv383 => ?_)
            have zv383 := ev383.trans ((my_up_fld fh382 (by decide)).trans ev380.symm)
            refine w_iconst gz_37_108 (by decide) ?_
            refine w_icne (t := 117) gz_37_109 rfl (fun u384 => ?_) (fun u384 => by exfalso; omega)
            refine w_aload_n gz_37_117 rfl ?_
            refine v_getI (j := 6) gz_37_118 rfl is_82 rd_5 rfl (fun v385 ev385 pv385 qv385 => ?_)
            have zv385 := ev385.trans ev383.symm
            refine w_iconst gz_37_121 (by decide) ?_
            refine w_icne (t := 129) gz_37_122 rfl (fun u386 => ?_) (fun u386 => by exfalso; omega)
            refine w_iconst gz_37_129 (by decide) ?_
            refine w_istore_n (ls' := [(2, 82), (0, 1), (9, 0)]) gz_37_130 gm_37 rfl rfl rfl ?_
            refine w_aload_n gz_37_131 rfl ?_
            refine v_getI (j := 7) gz_37_132 rfl is_82 rd_5 rfl (fun v387 ev387 pv387 qv387 => ?_)
            have zv387 := ev387.trans ((my_up_fld fh382 (by decide)).trans ((my_up_fld fh379 (by decide)).trans (my_up_self fh311)))
            refine w_iconst gz_37_135 (by decide) ?_
            refine w_iadd gz_37_136 ⟨by omega, by omega⟩ ?_
            refine w_istore_n (ls' := [(2, 82), (0, 1), (0, (v387 + 1))]) gz_37_137 gm_37 rfl rfl rfl ?_
            have ce388 : h382 82 5 = v316 := ((my_up_fld fh382 (by decide)).trans ((my_up_fld fh379 (by decide)).trans ev316.symm))
            have ce389 : h382 82 6 = v385 := ev385.symm
            have ce390 : h382 82 7 = v387 := ev387.symm
            have ce391 : h382 82 8 = 0 := (my_up_self fh382)
            have sg : ∀ j : Int, h382 92 j = h 92 j := fun j => ((my_up_role fh382 is_92 is_82 rfl).trans ((my_up_role fh379 is_92 is_82 rfl).trans ((my_up_role fh311 is_92 is_82 rfl).trans (rfl : h 92 j = h 92 j))))
            exact J138_0 (1001) (1) ((v387 + 1)) (v316) (v385) h382 (gh382) (by omega) (by omega) (by omega) (by omega) (by omega) (by omega) (by omega) (by omega) (by omega) (by omega) (by omega) (by omega) (by omega) (by omega) (by omega) (by omega) (((my_up_fld fh382 (by decide)).trans ((my_up_fld fh379 (by decide)).trans ev313.symm)).trans (by omega)) (((my_up_fld fh382 (by decide)).trans ((my_up_fld fh379 (by decide)).trans ev316.symm)).trans (by omega)) (ev385.symm.trans (by omega)) (ev387.symm.trans (by omega)) ((my_up_self fh382).trans (by omega)) (((my_up_fld fh382 (by decide)).trans ((my_up_fld fh379 (by decide)).trans ((my_up_fld fh311 (by decide)).trans cf))).trans (by omega)) (by omega) (by first | (intro t k a b; rw [sg]; exact dg_181_0 (by omega) k (by omega) (by omega)) | (intro t k a b; rw [sg]; exact dg_138_0 (by omega) k (by omega) (by omega)) | (intro t k a b; rw [sg, ← sg0, sgi k (by omega)]; omega) | (intro t; omega) | (intro t k a b; rw [sg]; rcases (by omega : k = p138_1 ∨ k < p138_1) with q | q <;> first | exact dg_138_0 (by omega) k (by omega) (by omega) | (subst q; omega)) | omega) (by first | assumption | omega | (subst_vars; omega) | omega) (by first | assumption | omega | (subst_vars; omega) | omega) (by first | assumption | omega | (subst_vars; omega) | omega) (by first | exact tk_A_e A_181_0 (by omega) (by omega) (by omega) | exact tk_A_s A_138_0 (by omega) (by omega) (by omega) (by omega) | exact tk_A_e A_138_0 (by omega) (by omega) (by omega) | exact tk_A_0 b52 (n52 (by omega)).1 (n52 (by omega)).2 k88 (by omega) (by omega) (by omega) | omega) (by omega) (by omega) (by omega)
          ·
            refine w_iconst gz_38_12 (by decide) ?_
            refine w_iret gz_38_13 gm_38 ?_
            show wp l rho (d + 1) 37 84 [(2, 82), (9, 0), (9, 0)] [(0, 1), (2, 82)] h311 Q
            refine w_goto (t := 88) gz_37_84 rfl ?_
            have k88 : tk_k (h 92 st) = 1 := by rw [← c81]; unfold tk_k; (repeat (first | rw [if_pos (by omega)] | rw [if_neg (by omega)]))
            refine v_putI (j := 6) gz_37_88 rfl is_82 rd_5 rfl (by omega) (by omega) rfl (fun h392 fh392 => ?_)
            have gh392 : my_fr [(5, 5), (5, 6), (5, 7), (5, 8)] h h392 := my_fr.up gh311 is_82 fh392 rfl
            have Al_h392 : Al h392 := Al_ag (my_ag.up fh392 is_82 rfl) Al_h311
            refine w_aload_n gz_37_91 rfl ?_
            refine v_getI (j := 6) gz_37_92 rfl is_82 rd_5 rfl (fun v393 ev393 pv393 qv393 => ?_)
            have zv393 := ev393.trans (my_up_self fh392)
            refine w_ifne (t := 99) gz_37_95 rfl (fun u394 => ?_) (fun u394 => by exfalso; omega)
            refine w_aload_n gz_37_99 rfl ?_
            refine w_iconst gz_37_100 (by decide) ?_
            refine v_putI (j := 8) gz_37_101 rfl is_82 rd_5 rfl (by omega) (by omega) rfl (fun h395 fh395 => ?_)
            have gh395 : my_fr [(5, 5), (5, 6), (5, 7), (5, 8)] h h395 := my_fr.up gh392 is_82 fh395 rfl
            have Al_h395 : Al h395 := Al_ag (my_ag.up fh395 is_82 rfl) Al_h392
            refine w_aload_n gz_37_104 rfl ?_
            refine v_getI (j := 6) gz_37_105 rfl is_82 rd_5 rfl (fun v396 ev396 pv396 qv396 => ?_)
            have zv396 := ev396.trans ((my_up_fld fh395 (by decide)).trans ev393.symm)
            refine w_iconst gz_37_108 (by decide) ?_
            refine w_icne (t := 117) gz_37_109 rfl (fun u397 => by exfalso; omega) (fun u397 => ?_)
            refine w_bipush gz_37_112 (by decide) ?_
            refine w_goto (t := 130) gz_37_114 rfl ?_
            refine w_istore_n (ls' := [(2, 82), (0, 8), (9, 0)]) gz_37_130 gm_37 rfl rfl rfl ?_
            refine w_aload_n gz_37_131 rfl ?_
            refine v_getI (j := 7) gz_37_132 rfl is_82 rd_5 rfl (fun v398 ev398 pv398 qv398 => ?_)
            have zv398 := ev398.trans ((my_up_fld fh395 (by decide)).trans ((my_up_fld fh392 (by decide)).trans (my_up_self fh311)))
            refine w_iconst gz_37_135 (by decide) ?_
            refine w_iadd gz_37_136 ⟨by omega, by omega⟩ ?_
            refine w_istore_n (ls' := [(2, 82), (0, 8), (0, (v398 + 1))]) gz_37_137 gm_37 rfl rfl rfl ?_
            have ce399 : h395 82 5 = v316 := ((my_up_fld fh395 (by decide)).trans ((my_up_fld fh392 (by decide)).trans ev316.symm))
            have ce400 : h395 82 6 = v396 := ev396.symm
            have ce401 : h395 82 7 = v398 := ev398.symm
            have ce402 : h395 82 8 = 0 := (my_up_self fh395)
            have sg : ∀ j : Int, h395 92 j = h 92 j := fun j => ((my_up_role fh395 is_92 is_82 rfl).trans ((my_up_role fh392 is_92 is_82 rfl).trans ((my_up_role fh311 is_92 is_82 rfl).trans (rfl : h 92 j = h 92 j))))
            exact J138_0 (1001) (8) ((v398 + 1)) (v316) (v396) h395 (gh395) (by omega) (by omega) (by omega) (by omega) (by omega) (by omega) (by omega) (by omega) (by omega) (by omega) (by omega) (by omega) (by omega) (by omega) (by omega) (by omega) (((my_up_fld fh395 (by decide)).trans ((my_up_fld fh392 (by decide)).trans ev313.symm)).trans (by omega)) (((my_up_fld fh395 (by decide)).trans ((my_up_fld fh392 (by decide)).trans ev316.symm)).trans (by omega)) (ev396.symm.trans (by omega)) (ev398.symm.trans (by omega)) ((my_up_self fh395).trans (by omega)) (((my_up_fld fh395 (by decide)).trans ((my_up_fld fh392 (by decide)).trans ((my_up_fld fh311 (by decide)).trans cf))).trans (by omega)) (by omega) (by first | (intro t k a b; rw [sg]; exact dg_181_0 (by omega) k (by omega) (by omega)) | (intro t k a b; rw [sg]; exact dg_138_0 (by omega) k (by omega) (by omega)) | (intro t k a b; rw [sg, ← sg0, sgi k (by omega)]; omega) | (intro t; omega) | (intro t k a b; rw [sg]; rcases (by omega : k = p138_1 ∨ k < p138_1) with q | q <;> first | exact dg_138_0 (by omega) k (by omega) (by omega) | (subst q; omega)) | omega) (by first | assumption | omega | (subst_vars; omega) | omega) (by first | assumption | omega | (subst_vars; omega) | omega) (by first | assumption | omega | (subst_vars; omega) | omega) (by first | exact tk_A_e A_181_0 (by omega) (by omega) (by omega) | exact tk_A_s A_138_0 (by omega) (by omega) (by omega) (by omega) | exact tk_A_e A_138_0 (by omega) (by omega) (by omega) | exact tk_A_0 b52 (n52 (by omega)).1 (n52 (by omega)).2 k88 (by omega) (by omega) (by omega) | omega) (by omega) (by omega) (by omega)
      ·
        refine w_aload_n gz_37_39 rfl ?_
        refine w_dup gz_37_40 rfl ?_
        refine v_getI (j := 5) gz_37_41 rfl is_82 rd_5 rfl (fun v403 ev403 pv403 qv403 => ?_)
        have zv403 := ev403.trans ev307.symm
        refine w_iconst gz_37_44 (by decide) ?_
        refine w_iadd gz_37_45 ⟨by omega, by omega⟩ ?_
        refine v_putI (j := 5) gz_37_46 rfl is_82 rd_5 rfl (by omega) (by omega) rfl (fun h404 fh404 => ?_)
        have gh404 : my_fr [(5, 5), (5, 6), (5, 7), (5, 8)] h h404 := my_fr.up my_fr.rf is_82 fh404 rfl
        have b46 : ∀ i : Int, h 82 5 ≤ i → i < h404 82 5 → h 92 i = 10 ∨ h 92 i = 32 := by
          have z := my_up_self fh404
          intro i a b
          rcases (by omega : i = h 82 5 ∨ i < h 82 5) with q | q
          · rw [q]; omega
          · first | exact bl_0_0 i a q | omega
        refine w_goto (t := 0) gz_37_49 rfl ?_
        have ce405 : h404 82 5 = (v403 + 1) := (my_up_self fh404)
        exact J0_0 (1001) ((v403 + 1)) h404 (gh404) (by omega) (by omega) (by omega) (by omega) (by omega) (by omega) (by omega) (((my_up_fld fh404 (by decide)).trans ev280.symm).trans (by omega)) ((my_up_self fh404).trans (by omega)) (((my_up_fld fh404 (by decide)).trans cf).trans (by omega)) (b46) (by omega)
theorem c_Reader_isWord9_f1 {l : Launch} {rho : Nat → Int32} {d : Nat} {h : my_H} {Q : my_H → my_V → Prop} {x1 : Int} (s1 : 1 ≤ x1 ∧ x1 ≤ 12) (xf : Int) (cf : h 82 9 = xf) (cf1 : 1 ≤ xf) (cf2 : xf ≤ 16005) (n_Cu : Cu h) (k0 : 1 ≤ h 82 9 → h 82 9 ≤ 16005 → sW (cs h) (h 82 7) ≠ wc x1 → Q h (0, 0)) (k1 : h 82 6 = 1 → 1 ≤ h 82 9 → h 82 9 ≤ 16005 → sW (cs h) (h 82 7) = wc x1 → Q h (0, 1)) : wp l rho (d + 4) 41 0 [(2, 82), (3, x1), (9, 0)] [] h Q := by
  refine v_know (x := 82) (j := 5) (b := 5) rfl is_82 rd_5 rfl (fun k82_5 ek82_5 pk82_5 qk82_5 => ?_)
  refine v_know (x := 82) (j := 7) (b := 7) rfl is_82 rd_5 rfl (fun k82_7 ek82_7 pk82_7 qk82_7 => ?_)
  have J28_0 : ∀ (n : Nat) (p28_0 p28_1 : Int), 0 ≤ p28_0 → p28_0 ≤ 6 → 1 ≤ p28_1 → p28_1 ≤ 16005 → h 82 5 = k82_5 → h 82 6 = 1 → h 82 7 = k82_7 → h 82 9 = p28_1 → Cu h → h 82 5 - h 82 7 = my_sl x1 → (∀ i : Int, 0 ≤ i → i < p28_0 → h 92 (h 82 7 + i) = my_sc x1 i) → 7 - p28_0 ≤ (n : Int) → wp l rho (d + 4) 41 28 [(2, 82), (3, x1), (0, p28_0)] [] h Q := by
    intro n
    induction n with
    | zero => intro p28_0 p28_1 q0_28_0 q1_28_0 q2_28_0 q3_28_0 c82_5_28_0 c82_6_28_0 c82_7_28_0 c82_9_28_0 n_Cu_28_0 ln_28_0 lt_28_0 hm_28_0; exfalso; omega
    | succ n ih_28_0 =>
      intro p28_0 p28_1 q0_28_0 q1_28_0 q2_28_0 q3_28_0 c82_5_28_0 c82_6_28_0 c82_7_28_0 c82_9_28_0 n_Cu_28_0 ln_28_0 lt_28_0 hm_28_0
      refine w_iload_n gz_41_28 rfl ?_
      refine w_aload3_n gz_41_29 rfl ?_
      refine w_slen (q := 177) sdec_30 s1 ?_
      have bd1 := my_sl_bd s1
      refine w_icge (t := 63) gz_41_33 rfl (fun u2 => ?_) (fun u2 => ?_)
      ·
        refine w_iconst gz_41_63 (by decide) ?_
        have c3 := c82_6_28_0
        have c4 := c82_9_28_0
        exact w_bret gz_41_64 gm_41 (by omega) (by omega) (k1 (by omega) (by omega) (by omega) (by first | exact W_1s n_Cu (by omega) s1 ln_28_0 (fun i a b => lt_28_0 i a (by omega)) | (intro z; have q := W_0s n_Cu s1 z; exfalso; have q3 := q.2.2 p28_0 (by omega) (by omega); omega) | (intro z; have q := W_0s n_Cu s1 z; omega) | omega))
      ·
        refine w_aload_n gz_41_36 rfl ?_
        refine w_getX (v := 92) gz_41_37 is_82 rd_5 rfl (by decide) rfl ?_
        refine w_aload_n gz_41_40 rfl ?_
        refine v_getI (j := 7) gz_41_41 rfl is_82 rd_5 rfl (fun v6 ev6 pv6 qv6 => ?_)
        have zv6 := ev6.trans c82_7_28_0
        refine w_iload_n gz_41_44 rfl ?_
        refine w_iadd gz_41_45 ⟨by omega, by omega⟩ ?_
        have hi7 : 0 ≤ (v6 + p28_0) := by omega
        have hi8 : (v6 + p28_0) ≤ 999 := by omega
        refine w_yald gz_41_46 is_92 rd_40 (by omega) (by omega) (fun v9 ev9 pv9 qv9 => ?_)
        refine w_aload3_n gz_41_47 rfl ?_
        refine w_iload_n gz_41_48 rfl ?_
        have l49 : v9 = h 92 (h 82 7 + p28_0) := by
          rw [show h 82 7 + p28_0 = (v6 + p28_0) by omega]
          omega
        refine w_schrE (q := 181) sdec_49 s1 (by omega) (by omega) (fun v10 pv10 qv10 xv10 => ?_)
        refine w_iceq (t := 57) gz_41_52 rfl (fun u11 => ?_) (fun u11 => ?_)
        ·
          refine w_iinc (ls' := [(2, 82), (3, x1), (0, (p28_0 + 1))]) gz_41_57 rfl gm_41 rfl rfl rfl ⟨by omega, by omega⟩ ?_
          refine w_goto (t := 28) gz_41_60 rfl ?_
          exact ih_28_0 ((p28_0 + 1)) (p28_1) (by omega) (by omega) (by omega) (by omega) (c82_5_28_0.trans (by omega)) (c82_6_28_0.trans (by omega)) (ev6.symm.trans (by omega)) (c82_9_28_0.trans (by omega)) n_Cu_28_0 (by first | assumption | omega | (subst_vars; omega) | omega) (by first | (intro i a b; omega) | (intro i a b; rcases (by omega : i = p28_0 ∨ i < p28_0) with q | q <;> first | exact lt_28_0 i a q | (rw [q, ← l49]; omega)) | omega) (by omega)
        ·
          refine w_iconst gz_41_55 (by decide) ?_
          have c12 := c82_9_28_0
          exact w_bret gz_41_56 gm_41 (by omega) (by omega) (k0 (by omega) (by omega) (by first | exact W_1s n_Cu (by omega) s1 ln_28_0 (fun i a b => lt_28_0 i a (by omega)) | (intro z; have q := W_0s n_Cu s1 z; exfalso; have q3 := q.2.2 p28_0 (by omega) (by omega); omega) | (intro z; have q := W_0s n_Cu s1 z; omega) | omega))
  refine w_aload_n gz_41_0 rfl ?_
  refine v_getI (j := 6) gz_41_1 rfl is_82 rd_5 rfl (fun v13 ev13 pv13 qv13 => ?_)
  refine w_iconst gz_41_4 (by decide) ?_
  refine w_icne (t := 24) gz_41_5 rfl (fun u14 => ?_) (fun u14 => ?_)
  ·
    refine w_iconst gz_41_24 (by decide) ?_
    have c15 := cf
    exact w_bret gz_41_25 gm_41 (by omega) (by omega) (k0 (by omega) (by omega) (by first | exact W_1s n_Cu (by omega) s1 ln_28_0 (fun i a b => lt_28_0 i a (by omega)) | (intro z; have q := W_0s n_Cu s1 z; exfalso; have q3 := q.2.2 0 (by omega) (by omega); omega) | (intro z; have q := W_0s n_Cu s1 z; omega) | omega))
  ·
    refine w_aload_n gz_41_8 rfl ?_
    refine v_getI (j := 5) gz_41_9 rfl is_82 rd_5 rfl (fun v16 ev16 pv16 qv16 => ?_)
    have zv16 := ev16.trans ek82_5.symm
    refine w_aload_n gz_41_12 rfl ?_
    refine v_getI (j := 7) gz_41_13 rfl is_82 rd_5 rfl (fun v17 ev17 pv17 qv17 => ?_)
    have zv17 := ev17.trans ek82_7.symm
    refine w_isub gz_41_16 ⟨by omega, by omega⟩ ?_
    refine w_aload3_n gz_41_17 rfl ?_
    refine w_slen (q := 177) sdec_18 s1 ?_
    have bd18 := my_sl_bd s1
    refine w_iceq (t := 26) gz_41_21 rfl (fun u19 => ?_) (fun u19 => ?_)
    ·
      refine w_iconst gz_41_26 (by decide) ?_
      refine w_istore_n (ls' := [(2, 82), (3, x1), (0, 0)]) gz_41_27 gm_41 rfl rfl rfl ?_
      exact J28_0 7 (0) (xf) (by omega) (by omega) (by omega) (by omega) (ev16.symm.trans (by omega)) (ev13.symm.trans (by omega)) (ev17.symm.trans (by omega)) (cf.trans (by omega)) n_Cu (by first | assumption | omega | (subst_vars; omega) | omega) (by first | (intro i a b; omega) | (intro i a b; rcases (by omega : i = p28_0 ∨ i < p28_0) with q | q <;> first | exact lt_28_0 i a q | (rw [q, ← l49]; omega)) | omega) (by omega)
    ·
      refine w_iconst gz_41_24 (by decide) ?_
      have c20 := cf
      exact w_bret gz_41_25 gm_41 (by omega) (by omega) (k0 (by omega) (by omega) (by first | exact W_1s n_Cu (by omega) s1 ln_28_0 (fun i a b => lt_28_0 i a (by omega)) | (intro z; have q := W_0s n_Cu s1 z; exfalso; have q3 := q.2.2 0 (by omega) (by omega); omega) | (intro z; have q := W_0s n_Cu s1 z; omega) | omega))
theorem c_Reader_isWord9_f0 {l : Launch} {rho : Nat → Int32} {d : Nat} {h : my_H} {Q : my_H → my_V → Prop} {x1 : Int} (s1 : 1 ≤ x1 ∧ x1 ≤ 12) (cf : h 82 9 = 0) (n_Cu : Cu h) (k0 : h 82 9 = 0 → sW (cs h) (h 82 7) ≠ wc x1 → Q h (0, 0)) (k1 : h 82 6 = 1 → h 82 9 = 0 → sW (cs h) (h 82 7) = wc x1 → Q h (0, 1)) : wp l rho (d + 4) 41 0 [(2, 82), (3, x1), (9, 0)] [] h Q := by
  refine v_know (x := 82) (j := 5) (b := 5) rfl is_82 rd_5 rfl (fun k82_5 ek82_5 pk82_5 qk82_5 => ?_)
  refine v_know (x := 82) (j := 7) (b := 7) rfl is_82 rd_5 rfl (fun k82_7 ek82_7 pk82_7 qk82_7 => ?_)
  have J28_0 : ∀ (n : Nat) (p28_0 : Int), 0 ≤ p28_0 → p28_0 ≤ 6 → h 82 5 = k82_5 → h 82 6 = 1 → h 82 7 = k82_7 → h 82 9 = 0 → Cu h → h 82 5 - h 82 7 = my_sl x1 → (∀ i : Int, 0 ≤ i → i < p28_0 → h 92 (h 82 7 + i) = my_sc x1 i) → 7 - p28_0 ≤ (n : Int) → wp l rho (d + 4) 41 28 [(2, 82), (3, x1), (0, p28_0)] [] h Q := by
    intro n
    induction n with
    | zero => intro p28_0 q0_28_0 q1_28_0 c82_5_28_0 c82_6_28_0 c82_7_28_0 c82_9_28_0 n_Cu_28_0 ln_28_0 lt_28_0 hm_28_0; exfalso; omega
    | succ n ih_28_0 =>
      intro p28_0 q0_28_0 q1_28_0 c82_5_28_0 c82_6_28_0 c82_7_28_0 c82_9_28_0 n_Cu_28_0 ln_28_0 lt_28_0 hm_28_0
      refine w_iload_n gz_41_28 rfl ?_
      refine w_aload3_n gz_41_29 rfl ?_
      refine w_slen (q := 177) sdec_30 s1 ?_
      have bd1 := my_sl_bd s1
      refine w_icge (t := 63) gz_41_33 rfl (fun u2 => ?_) (fun u2 => ?_)
      ·
        refine w_iconst gz_41_63 (by decide) ?_
        have c3 := c82_6_28_0
        have c4 := c82_9_28_0
        exact w_bret gz_41_64 gm_41 (by omega) (by omega) (k1 (by omega) (by omega) (by first | exact W_1s n_Cu (by omega) s1 ln_28_0 (fun i a b => lt_28_0 i a (by omega)) | (intro z; have q := W_0s n_Cu s1 z; exfalso; have q3 := q.2.2 p28_0 (by omega) (by omega); omega) | (intro z; have q := W_0s n_Cu s1 z; omega) | omega))
      ·
        refine w_aload_n gz_41_36 rfl ?_
        refine w_getX (v := 92) gz_41_37 is_82 rd_5 rfl (by decide) rfl ?_
        refine w_aload_n gz_41_40 rfl ?_
        refine v_getI (j := 7) gz_41_41 rfl is_82 rd_5 rfl (fun v6 ev6 pv6 qv6 => ?_)
        have zv6 := ev6.trans c82_7_28_0
        refine w_iload_n gz_41_44 rfl ?_
        refine w_iadd gz_41_45 ⟨by omega, by omega⟩ ?_
        have hi7 : 0 ≤ (v6 + p28_0) := by omega
        have hi8 : (v6 + p28_0) ≤ 999 := by omega
        refine w_yald gz_41_46 is_92 rd_40 (by omega) (by omega) (fun v9 ev9 pv9 qv9 => ?_)
        refine w_aload3_n gz_41_47 rfl ?_
        refine w_iload_n gz_41_48 rfl ?_
        have l49 : v9 = h 92 (h 82 7 + p28_0) := by
          rw [show h 82 7 + p28_0 = (v6 + p28_0) by omega]
          omega
        refine w_schrE (q := 181) sdec_49 s1 (by omega) (by omega) (fun v10 pv10 qv10 xv10 => ?_)
        refine w_iceq (t := 57) gz_41_52 rfl (fun u11 => ?_) (fun u11 => ?_)
        ·
          refine w_iinc (ls' := [(2, 82), (3, x1), (0, (p28_0 + 1))]) gz_41_57 rfl gm_41 rfl rfl rfl ⟨by omega, by omega⟩ ?_
          refine w_goto (t := 28) gz_41_60 rfl ?_
          exact ih_28_0 ((p28_0 + 1)) (by omega) (by omega) (c82_5_28_0.trans (by omega)) (c82_6_28_0.trans (by omega)) (ev6.symm.trans (by omega)) (c82_9_28_0.trans (by omega)) n_Cu_28_0 (by first | assumption | omega | (subst_vars; omega) | omega) (by first | (intro i a b; omega) | (intro i a b; rcases (by omega : i = p28_0 ∨ i < p28_0) with q | q <;> first | exact lt_28_0 i a q | (rw [q, ← l49]; omega)) | omega) (by omega)
        ·
          refine w_iconst gz_41_55 (by decide) ?_
          have c12 := c82_9_28_0
          exact w_bret gz_41_56 gm_41 (by omega) (by omega) (k0 (by omega) (by first | exact W_1s n_Cu (by omega) s1 ln_28_0 (fun i a b => lt_28_0 i a (by omega)) | (intro z; have q := W_0s n_Cu s1 z; exfalso; have q3 := q.2.2 p28_0 (by omega) (by omega); omega) | (intro z; have q := W_0s n_Cu s1 z; omega) | omega))
  refine w_aload_n gz_41_0 rfl ?_
  refine v_getI (j := 6) gz_41_1 rfl is_82 rd_5 rfl (fun v13 ev13 pv13 qv13 => ?_)
  refine w_iconst gz_41_4 (by decide) ?_
  refine w_icne (t := 24) gz_41_5 rfl (fun u14 => ?_) (fun u14 => ?_)
  ·
    refine w_iconst gz_41_24 (by decide) ?_
    have c15 := cf
    exact w_bret gz_41_25 gm_41 (by omega) (by omega) (k0 (by omega) (by first | exact W_1s n_Cu (by omega) s1 ln_28_0 (fun i a b => lt_28_0 i a (by omega)) | (intro z; have q := W_0s n_Cu s1 z; exfalso; have q3 := q.2.2 0 (by omega) (by omega); omega) | (intro z; have q := W_0s n_Cu s1 z; omega) | omega))
  ·
    refine w_aload_n gz_41_8 rfl ?_
    refine v_getI (j := 5) gz_41_9 rfl is_82 rd_5 rfl (fun v16 ev16 pv16 qv16 => ?_)
    have zv16 := ev16.trans ek82_5.symm
    refine w_aload_n gz_41_12 rfl ?_
    refine v_getI (j := 7) gz_41_13 rfl is_82 rd_5 rfl (fun v17 ev17 pv17 qv17 => ?_)
    have zv17 := ev17.trans ek82_7.symm
    refine w_isub gz_41_16 ⟨by omega, by omega⟩ ?_
    refine w_aload3_n gz_41_17 rfl ?_
    refine w_slen (q := 177) sdec_18 s1 ?_
    have bd18 := my_sl_bd s1
    refine w_iceq (t := 26) gz_41_21 rfl (fun u19 => ?_) (fun u19 => ?_)
    ·
      refine w_iconst gz_41_26 (by decide) ?_
      refine w_istore_n (ls' := [(2, 82), (3, x1), (0, 0)]) gz_41_27 gm_41 rfl rfl rfl ?_
      exact J28_0 7 (0) (by omega) (by omega) (ev16.symm.trans (by omega)) (ev13.symm.trans (by omega)) (ev17.symm.trans (by omega)) (cf.trans (by omega)) n_Cu (by first | assumption | omega | (subst_vars; omega) | omega) (by first | (intro i a b; omega) | (intro i a b; rcases (by omega : i = p28_0 ∨ i < p28_0) with q | q <;> first | exact lt_28_0 i a q | (rw [q, ← l49]; omega)) | omega) (by omega)
    ·
      refine w_iconst gz_41_24 (by decide) ?_
      have c20 := cf
      exact w_bret gz_41_25 gm_41 (by omega) (by omega) (k0 (by omega) (by first | exact W_1s n_Cu (by omega) s1 ln_28_0 (fun i a b => lt_28_0 i a (by omega)) | (intro z; have q := W_0s n_Cu s1 z; exfalso; have q3 := q.2.2 0 (by omega) (by omega); omega) | (intro z; have q := W_0s n_Cu s1 z; omega) | omega))
theorem c_Reader_wallNumber9_f0 {l : Launch} {rho : Nat → Int32} {d : Nat} {h : my_H} {Q : my_H → my_V → Prop} (cf : h 82 9 = 0) (n_Al : Al h) (n_Cu : Cu h) (k0 : ∀ (h' : my_H), my_fr [(5, 9)] h h' → 1 ≤ h' 82 9 → h' 82 9 ≤ 16004 → (sK (cs h) (h 82 7) ≠ 2 ∧ h' 82 9 = 1 + 16 * h 82 7) ∨ (sK (cs h) (h 82 7) = 2 ∧ 3 ≤ sV (cs h) (h 82 7) ∧ h' 82 9 = 4 + 16 * h 82 7) ∨ (sK (cs h) (h 82 7) = 2 ∧ sV (cs h) (h 82 7) < 3 ∧ h 2 (sV (cs h) (h 82 7)) ≤ 0 ∧ h' 82 9 = 2 + 16 * h 82 7) → Al h' → Cu h' → Q h' (0, (-1))) (k1 : ∀ (h' : my_H) (y : Int), my_fr [(5, 9)] h h' → 0 ≤ y → y ≤ 2 → h' 82 6 = 2 → 0 ≤ h' 82 8 → h' 82 8 ≤ 2 → h' 82 9 = 0 → (y ≠ -1 → 1 ≤ h' 2 y) → sK (cs h) (h 82 7) = 2 → y = sV (cs h) (h 82 7) → 1 ≤ h 2 y → Al h' → Cu h' → Q h' (0, y)) : wp l rho (d + 2) 43 0 [(2, 82), (9, 0)] [] h Q := by
  have ck1 := Cu_s n_Cu
  have cv2 := Cu_v n_Cu
  refine w_aload_n gz_43_0 rfl ?_
  refine w_iconst gz_43_1 (by decide) ?_
  refine w_inv (k := 0) (as := [(0, 3)]) (r := []) (x := 82) (ls0 := [(2, 82), (0, 3)]) gz_43_2 gm_44 rfl is_82 rd_5 rfl rfl rfl rfl rfl ?_
  refine w_aload_n gz_44_0 rfl ?_
  refine v_getI (j := 6) gz_44_1 rfl is_82 rd_5 rfl (fun v3 ev3 pv3 qv3 => ?_)
  refine w_iconst gz_44_4 (by decide) ?_
  refine w_iceq (t := 15) gz_44_5 rfl (fun u4 => ?_) (fun u4 => ?_)
  ·
    refine w_aload_n gz_44_15 rfl ?_
    refine v_getI (j := 8) gz_44_16 rfl is_82 rd_5 rfl (fun v5 ev5 pv5 qv5 => ?_)
    refine w_iload_n gz_44_19 rfl ?_
    refine w_iclt (t := 30) gz_44_20 rfl (fun u6 => ?_) (fun u6 => ?_)
    ·
      refine w_aload_n gz_44_30 rfl ?_
      refine v_getI (j := 9) gz_44_31 rfl is_82 rd_5 rfl (fun v7 ev7 pv7 qv7 => ?_)
      have zv7 := ev7.trans cf
      refine w_ifne (t := 44) gz_44_34 rfl (fun u8 => by exfalso; omega) (fun u8 => ?_)
      refine w_aload_n gz_44_37 rfl ?_
      refine v_getI (j := 8) gz_44_38 rfl is_82 rd_5 rfl (fun v9 ev9 pv9 qv9 => ?_)
      have zv9 := ev9.trans ev5.symm
      refine w_goto (t := 45) gz_44_41 rfl ?_
      refine w_iret gz_44_45 gm_44 ?_
      show wp l rho (d + 2) 43 5 [(2, 82), (9, 0)] [(0, v9)] h Q
      refine w_istore_n (ls' := [(2, 82), (0, v9)]) gz_43_5 gm_43 rfl rfl rfl ?_
      refine w_iload_n gz_43_6 rfl ?_
      refine w_iconst gz_43_7 (by decide) ?_
      refine w_iceq (t := 29) gz_43_8 rfl (fun u10 => by exfalso; omega) (fun u10 => ?_)
      refine w_aload_n gz_43_11 rfl ?_
      refine w_getX (v := 1) gz_43_12 is_82 rd_5 rfl (by decide) rfl ?_
      refine w_iload_n gz_43_15 rfl ?_
      refine w_inv (k := 0) (as := [(0, v9)]) (r := []) (x := 1) (ls0 := [(2, 1), (0, v9)]) gz_43_16 gm_13 rfl is_1 rd_3 rfl rfl rfl rfl rfl ?_
      refine w_iload_n gz_13_0 rfl ?_
      refine w_iflt (t := 22) gz_13_1 rfl (fun u12 => by exfalso; omega) (fun u12 => ?_)
      refine w_iload_n gz_13_4 rfl ?_
      refine w_iconst gz_13_5 (by decide) ?_
      refine w_icge (t := 22) gz_13_6 rfl (fun u13 => by exfalso; omega) (fun u13 => ?_)
      refine w_aload_n gz_13_9 rfl ?_
      refine w_getX (v := 2) gz_13_10 is_1 rd_3 rfl (by decide) rfl ?_
      refine w_iload_n gz_13_13 rfl ?_
      refine w_iald gz_13_14 is_2 rd_25 (by omega) (by omega) (fun v15 ev15 pv15 qv15 => ?_)
      refine w_ifle (t := 22) gz_13_15 rfl (fun u16 => ?_) (fun u16 => ?_)
      ·
        refine w_iconst gz_13_22 (by decide) ?_
        refine w_bret gz_13_23 gm_13 (by omega) (by omega) ?_
        show wp l rho (d + 2) 43 19 [(2, 82), (0, v9)] [(0, 0)] h Q
        refine w_ifne (t := 29) gz_43_19 rfl (fun u17 => by exfalso; omega) (fun u17 => ?_)
        refine w_aload_n gz_43_22 rfl ?_
        refine w_iconst gz_43_23 (by decide) ?_
        refine w_inv (k := 0) (as := [(0, 2)]) (r := []) (x := 82) (ls0 := [(2, 82), (0, 2)]) gz_43_24 gm_42 rfl is_82 rd_5 rfl rfl rfl rfl rfl ?_
        refine w_aload_n gz_42_0 rfl ?_
        refine v_getI (j := 9) gz_42_1 rfl is_82 rd_5 rfl (fun v18 ev18 pv18 qv18 => ?_)
        have zv18 := ev18.trans ev7.symm
        refine w_ifne (t := 20) gz_42_4 rfl (fun u19 => by exfalso; omega) (fun u19 => ?_)
        refine w_aload_n gz_42_7 rfl ?_
        refine w_iload_n gz_42_8 rfl ?_
        refine w_bipush gz_42_9 (by decide) ?_
        refine w_aload_n gz_42_11 rfl ?_
        refine v_getI (j := 7) gz_42_12 rfl is_82 rd_5 rfl (fun v20 ev20 pv20 qv20 => ?_)
        refine w_imul gz_42_15 ⟨by omega, by omega⟩ ?_
        refine w_iadd gz_42_16 ⟨by omega, by omega⟩ ?_
        refine v_putI (j := 9) gz_42_17 rfl is_82 rd_5 rfl (by omega) (by omega) rfl (fun h21 fh21 => ?_)
        have gh21 : my_fr [(5, 9)] h h21 := my_fr.up my_fr.rf is_82 fh21 rfl
        have Al_h21 : Al h21 := Al_ag (my_ag.up fh21 is_82 rfl) n_Al
        have Cu_h21 : Cu h21 := Cu_ag (my_ag.up fh21 is_82 rfl) n_Cu
        refine w_vret gz_42_20 gm_42 ?_
        show wp l rho (d + 2) 43 27 [(2, 82), (0, v9)] [] h21 Q
        refine w_iconst gz_43_27 (by decide) ?_
        have psR : h21 82 7 = h 82 7 := ((my_up_fld fh21 (by decide)).trans (rfl : h 82 7 = h 82 7))
        have npsR : cs h21 = cs h := cs_eq (fun j => my_fr.at gh21 is_92 rfl) (my_fr.at gh21 is_82 rfl)
        have c22 := (my_up_self fh21)
        exact w_iret gz_43_28 gm_43 (k0 h21 (gh21) (by omega) (by omega) (by first | omega | (have z : sV (cs h) (h 82 7) = v9 := by omega; rw [z]; omega) | grind | omega) Al_h21 Cu_h21)
      ·
        refine w_iconst gz_13_18 (by decide) ?_
        refine w_goto (t := 23) gz_13_19 rfl ?_
        refine w_bret gz_13_23 gm_13 (by omega) (by omega) ?_
        show wp l rho (d + 2) 43 19 [(2, 82), (0, v9)] [(0, 1)] h Q
        refine w_ifne (t := 29) gz_43_19 rfl (fun u23 => ?_) (fun u23 => by exfalso; omega)
        refine w_iload_n gz_43_29 rfl ?_
        have psR : h 82 7 = h 82 7 := (rfl : h 82 7 = h 82 7)
        have npsR : cs h = cs h := rfl
        have c24 := ev3.symm
        have c25 := ev9.symm
        have c26 := ev7.symm
        exact w_iret gz_43_30 gm_43 (k1 h (v9) (my_fr.rf) (by omega) (by omega) (by omega) (by omega) (by omega) (by omega) (by first | omega | (have z : sV (cs h) (h 82 7) = v9 := by omega; rw [z]; omega) | grind | omega) (by first | omega | (have z : sV (cs h) (h 82 7) = v9 := by omega; rw [z]; omega) | grind | omega) (by first | omega | (have z : sV (cs h) (h 82 7) = v9 := by omega; rw [z]; omega) | grind | omega) (by first | omega | (have z : sV (cs h) (h 82 7) = v9 := by omega; rw [z]; omega) | grind | omega) n_Al n_Cu)
    ·
      refine w_aload_n gz_44_23 rfl ?_
      refine w_iconst gz_44_24 (by decide) ?_
      refine w_inv (k := 0) (as := [(0, 4)]) (r := []) (x := 82) (ls0 := [(2, 82), (0, 4)]) gz_44_25 gm_42 rfl is_82 rd_5 rfl rfl rfl rfl rfl ?_
      refine w_aload_n gz_42_0 rfl ?_
      refine v_getI (j := 9) gz_42_1 rfl is_82 rd_5 rfl (fun v27 ev27 pv27 qv27 => ?_)
      have zv27 := ev27.trans cf
      refine w_ifne (t := 20) gz_42_4 rfl (fun u28 => by exfalso; omega) (fun u28 => ?_)
      refine w_aload_n gz_42_7 rfl ?_
      refine w_iload_n gz_42_8 rfl ?_
      refine w_bipush gz_42_9 (by decide) ?_
      refine w_aload_n gz_42_11 rfl ?_
      refine v_getI (j := 7) gz_42_12 rfl is_82 rd_5 rfl (fun v29 ev29 pv29 qv29 => ?_)
      refine w_imul gz_42_15 ⟨by omega, by omega⟩ ?_
      refine w_iadd gz_42_16 ⟨by omega, by omega⟩ ?_
      refine v_putI (j := 9) gz_42_17 rfl is_82 rd_5 rfl (by omega) (by omega) rfl (fun h30 fh30 => ?_)
      have gh30 : my_fr [(5, 9)] h h30 := my_fr.up my_fr.rf is_82 fh30 rfl
      have Al_h30 : Al h30 := Al_ag (my_ag.up fh30 is_82 rfl) n_Al
      have Cu_h30 : Cu h30 := Cu_ag (my_ag.up fh30 is_82 rfl) n_Cu
      refine w_vret gz_42_20 gm_42 ?_
      show wp l rho (d + 1) 44 28 [(2, 82), (0, 3)] [] h30 _
      refine w_iconst gz_44_28 (by decide) ?_
      refine w_iret gz_44_29 gm_44 ?_
      show wp l rho (d + 2) 43 5 [(2, 82), (9, 0)] [(0, (-1))] h30 Q
      refine w_istore_n (ls' := [(2, 82), (0, (-1))]) gz_43_5 gm_43 rfl rfl rfl ?_
      refine w_iload_n gz_43_6 rfl ?_
      refine w_iconst gz_43_7 (by decide) ?_
      refine w_iceq (t := 29) gz_43_8 rfl (fun u31 => ?_) (fun u31 => by exfalso; omega)
      refine w_iload_n gz_43_29 rfl ?_
      have psR : h30 82 7 = h 82 7 := ((my_up_fld fh30 (by decide)).trans (rfl : h 82 7 = h 82 7))
      have npsR : cs h30 = cs h := cs_eq (fun j => my_fr.at gh30 is_92 rfl) (my_fr.at gh30 is_82 rfl)
      have c32 := (my_up_self fh30)
      exact w_iret gz_43_30 gm_43 (k0 h30 (gh30) (by omega) (by omega) (by first | omega | (have z : sV (cs h) (h 82 7) = v9 := by omega; rw [z]; omega) | grind | omega) Al_h30 Cu_h30)
  ·
    refine w_aload_n gz_44_8 rfl ?_
    refine w_iconst gz_44_9 (by decide) ?_
    refine w_inv (k := 0) (as := [(0, 1)]) (r := []) (x := 82) (ls0 := [(2, 82), (0, 1)]) gz_44_10 gm_42 rfl is_82 rd_5 rfl rfl rfl rfl rfl ?_
    refine w_aload_n gz_42_0 rfl ?_
    refine v_getI (j := 9) gz_42_1 rfl is_82 rd_5 rfl (fun v33 ev33 pv33 qv33 => ?_)
    have zv33 := ev33.trans cf
    refine w_ifne (t := 20) gz_42_4 rfl (fun u34 => by exfalso; omega) (fun u34 => ?_)
    refine w_aload_n gz_42_7 rfl ?_
    refine w_iload_n gz_42_8 rfl ?_
    refine w_bipush gz_42_9 (by decide) ?_
    refine w_aload_n gz_42_11 rfl ?_
    refine v_getI (j := 7) gz_42_12 rfl is_82 rd_5 rfl (fun v35 ev35 pv35 qv35 => ?_)
    refine w_imul gz_42_15 ⟨by omega, by omega⟩ ?_
    refine w_iadd gz_42_16 ⟨by omega, by omega⟩ ?_
    refine v_putI (j := 9) gz_42_17 rfl is_82 rd_5 rfl (by omega) (by omega) rfl (fun h36 fh36 => ?_)
    have gh36 : my_fr [(5, 9)] h h36 := my_fr.up my_fr.rf is_82 fh36 rfl
    have Al_h36 : Al h36 := Al_ag (my_ag.up fh36 is_82 rfl) n_Al
    have Cu_h36 : Cu h36 := Cu_ag (my_ag.up fh36 is_82 rfl) n_Cu
    refine w_vret gz_42_20 gm_42 ?_
    show wp l rho (d + 1) 44 13 [(2, 82), (0, 3)] [] h36 _
    refine w_iconst gz_44_13 (by decide) ?_
    refine w_iret gz_44_14 gm_44 ?_
    show wp l rho (d + 2) 43 5 [(2, 82), (9, 0)] [(0, (-1))] h36 Q
    refine w_istore_n (ls' := [(2, 82), (0, (-1))]) gz_43_5 gm_43 rfl rfl rfl ?_
    refine w_iload_n gz_43_6 rfl ?_
    refine w_iconst gz_43_7 (by decide) ?_
    refine w_iceq (t := 29) gz_43_8 rfl (fun u37 => ?_) (fun u37 => by exfalso; omega)
    refine w_iload_n gz_43_29 rfl ?_
    have psR : h36 82 7 = h 82 7 := ((my_up_fld fh36 (by decide)).trans (rfl : h 82 7 = h 82 7))
    have npsR : cs h36 = cs h := cs_eq (fun j => my_fr.at gh36 is_92 rfl) (my_fr.at gh36 is_82 rfl)
    have c38 := (my_up_self fh36)
    exact w_iret gz_43_30 gm_43 (k0 h36 (gh36) (by omega) (by omega) (by first | omega | (have z : sV (cs h) (h 82 7) = v9 := by omega; rw [z]; omega) | grind | omega) Al_h36 Cu_h36)
theorem c_Reader_endsHere9_f0 {l : Launch} {rho : Nat → Int32} {d : Nat} {h : my_H} {Q : my_H → my_V → Prop} (cf : h 82 9 = 0) (n_Al : Al h) (n_Cu : Cu h) (k0 : ∀ (h' : my_H), my_fr [(5, 5), (5, 6), (5, 7), (5, 8), (5, 9)] h h' → 1 ≤ h' 82 9 → h' 82 9 ≤ 16001 → sK (cs h) (h 82 7) ≠ 3 → h' 82 9 = 1 + 16 * h 82 7 → Al h' → Cu h' → Q h' (0, 0)) (k1 : ∀ (h' : my_H), my_fr [(5, 5), (5, 6), (5, 7), (5, 8), (5, 9)] h h' → h' 82 9 = 0 → h' 82 7 = sN (cs h) (h 82 7) → sK (cs h) (h 82 7) = 3 → Al h' → Cu h' → Q h' (0, 1)) : wp l rho (d + 2) 47 0 [(2, 82)] [] h Q := by
  have ck1 := Cu_s n_Cu
  refine w_aload_n gz_47_0 rfl ?_
  refine v_getI (j := 6) gz_47_1 rfl is_82 rd_5 rfl (fun v2 ev2 pv2 qv2 => ?_)
  refine w_iconst gz_47_4 (by decide) ?_
  refine w_iceq (t := 15) gz_47_5 rfl (fun u3 => ?_) (fun u3 => ?_)
  ·
    refine w_aload_n gz_47_15 rfl ?_
    refine w_inv (k := 2) (as := []) (r := []) (x := 82) (ls0 := [(2, 82), (9, 0), (9, 0)]) gz_47_16 gm_37 rfl is_82 rd_5 rfl rfl rfl rfl rfl (c_Reader_nextToken9_f0 (d := d)  (cf.trans (by omega)) n_Al (fun h4 frh4 w5 w6 w7 xp8 xp9 Al_h4t10 Cu_h4t11 => ?_))
    have gh4 : my_fr [(5, 5), (5, 6), (5, 7), (5, 8), (5, 9)] h h4 := my_fr.tr my_fr.rf (frh4.mo rfl)
    show wp l rho (d + 2) 47 19 [(2, 82)] [] h4 Q
    have xc12 := xp8 n_Cu
    have ck13 := Cu_s Cu_h4t11
    rw [show cs h4 = cs h from cs_eq (fun j => my_fr.at gh4 is_92 rfl) (my_fr.at gh4 is_82 rfl)] at ck13
    rw [show h4 82 7 = (sN (cs h) (h 82 7)) from xc12] at ck13
    refine w_iconst gz_47_19 (by decide) ?_
    have psR : h4 82 7 = (sN (cs h) (h 82 7)) := xc12
    have npsR : cs h4 = cs h := cs_eq (fun j => my_fr.at gh4 is_92 rfl) (my_fr.at gh4 is_82 rfl)
    have c14 := ((my_fr.at frh4 is_82 rfl).trans cf)
    exact w_bret gz_47_20 gm_47 (by omega) (by omega) (k1 h4 (gh4) (by omega) (by first | assumption | omega | (subst_vars; omega) | omega) (by first | assumption | omega | (subst_vars; omega) | omega) Al_h4t10 Cu_h4t11)
  ·
    refine w_aload_n gz_47_8 rfl ?_
    refine w_iconst gz_47_9 (by decide) ?_
    refine w_inv (k := 0) (as := [(0, 1)]) (r := []) (x := 82) (ls0 := [(2, 82), (0, 1)]) gz_47_10 gm_42 rfl is_82 rd_5 rfl rfl rfl rfl rfl ?_
    refine w_aload_n gz_42_0 rfl ?_
    refine v_getI (j := 9) gz_42_1 rfl is_82 rd_5 rfl (fun v15 ev15 pv15 qv15 => ?_)
    have zv15 := ev15.trans cf
    refine w_ifne (t := 20) gz_42_4 rfl (fun u16 => by exfalso; omega) (fun u16 => ?_)
    refine w_aload_n gz_42_7 rfl ?_
    refine w_iload_n gz_42_8 rfl ?_
    refine w_bipush gz_42_9 (by decide) ?_
    refine w_aload_n gz_42_11 rfl ?_
    refine v_getI (j := 7) gz_42_12 rfl is_82 rd_5 rfl (fun v17 ev17 pv17 qv17 => ?_)
    refine w_imul gz_42_15 ⟨by omega, by omega⟩ ?_
    refine w_iadd gz_42_16 ⟨by omega, by omega⟩ ?_
    refine v_putI (j := 9) gz_42_17 rfl is_82 rd_5 rfl (by omega) (by omega) rfl (fun h18 fh18 => ?_)
    have gh18 : my_fr [(5, 5), (5, 6), (5, 7), (5, 8), (5, 9)] h h18 := my_fr.up my_fr.rf is_82 fh18 rfl
    have Al_h18 : Al h18 := Al_ag (my_ag.up fh18 is_82 rfl) n_Al
    have Cu_h18 : Cu h18 := Cu_ag (my_ag.up fh18 is_82 rfl) n_Cu
    refine w_vret gz_42_20 gm_42 ?_
    show wp l rho (d + 2) 47 13 [(2, 82)] [] h18 Q
    refine w_iconst gz_47_13 (by decide) ?_
    have psR : h18 82 7 = h 82 7 := ((my_up_fld fh18 (by decide)).trans (rfl : h 82 7 = h 82 7))
    have npsR : cs h18 = cs h := cs_eq (fun j => my_fr.at gh18 is_92 rfl) (my_fr.at gh18 is_82 rfl)
    have c19 := (my_up_self fh18)
    exact w_bret gz_47_14 gm_47 (by omega) (by omega) (k0 h18 (gh18) (by omega) (by omega) (by first | assumption | omega | (subst_vars; omega) | omega) (by first | assumption | omega | (subst_vars; omega) | omega) Al_h18 Cu_h18)
theorem c_Reader_takeNumber9_f1 {l : Launch} {rho : Nat → Int32} {d : Nat} {h : my_H} {Q : my_H → my_V → Prop} {x1 : Int} (a1 : 20 ≤ x1) (b1 : x1 ≤ 200) (xf : Int) (cf : h 82 9 = xf) (cf1 : 1 ≤ xf) (cf2 : xf ≤ 16005) (n_Al : Al h) (n_Cu : Cu h) (k0 : 1 ≤ h 82 9 → h 82 9 ≤ 16005 → Al h → Cu h → Q h (0, (-1))) : wp l rho (d + 2) 51 0 [(2, 82), (0, x1), (9, 0)] [] h Q := by
  have ck1 := Cu_s n_Cu
  have cv2 := Cu_v n_Cu
  refine w_aload_n gz_51_0 rfl ?_
  refine w_iload_n gz_51_1 rfl ?_
  refine w_inv (k := 0) (as := [(0, x1)]) (r := []) (x := 82) (ls0 := [(2, 82), (0, x1)]) gz_51_2 gm_44 rfl is_82 rd_5 rfl rfl rfl rfl rfl ?_
  refine w_aload_n gz_44_0 rfl ?_
  refine v_getI (j := 6) gz_44_1 rfl is_82 rd_5 rfl (fun v3 ev3 pv3 qv3 => ?_)
  refine w_iconst gz_44_4 (by decide) ?_
  refine w_iceq (t := 15) gz_44_5 rfl (fun u4 => ?_) (fun u4 => ?_)
  ·
    refine w_aload_n gz_44_15 rfl ?_
    refine v_getI (j := 8) gz_44_16 rfl is_82 rd_5 rfl (fun v5 ev5 pv5 qv5 => ?_)
    refine w_iload_n gz_44_19 rfl ?_
    refine w_iclt (t := 30) gz_44_20 rfl (fun u6 => ?_) (fun u6 => ?_)
    ·
      refine w_aload_n gz_44_30 rfl ?_
      refine v_getI (j := 9) gz_44_31 rfl is_82 rd_5 rfl (fun v7 ev7 pv7 qv7 => ?_)
      have zv7 := ev7.trans cf
      refine w_ifne (t := 44) gz_44_34 rfl (fun u8 => ?_) (fun u8 => by exfalso; omega)
      refine w_iconst gz_44_44 (by decide) ?_
      refine w_iret gz_44_45 gm_44 ?_
      show wp l rho (d + 2) 51 5 [(2, 82), (0, x1), (9, 0)] [(0, (-1))] h Q
      refine w_istore_n (ls' := [(2, 82), (0, x1), (0, (-1))]) gz_51_5 gm_51 rfl rfl rfl ?_
      refine w_iload_n gz_51_6 rfl ?_
      refine w_iconst gz_51_7 (by decide) ?_
      refine w_iceq (t := 15) gz_51_8 rfl (fun u9 => ?_) (fun u9 => by exfalso; omega)
      refine w_iload_n gz_51_15 rfl ?_
      have psR : h 82 7 = h 82 7 := (rfl : h 82 7 = h 82 7)
      have npsR : cs h = cs h := rfl
      have c10 := ev7.symm
      exact w_iret gz_51_16 gm_51 (k0 (by omega) (by omega) n_Al n_Cu)
    ·
      refine w_aload_n gz_44_23 rfl ?_
      refine w_iconst gz_44_24 (by decide) ?_
      refine w_inv (k := 0) (as := [(0, 4)]) (r := []) (x := 82) (ls0 := [(2, 82), (0, 4)]) gz_44_25 gm_42 rfl is_82 rd_5 rfl rfl rfl rfl rfl ?_
      refine w_aload_n gz_42_0 rfl ?_
      refine v_getI (j := 9) gz_42_1 rfl is_82 rd_5 rfl (fun v11 ev11 pv11 qv11 => ?_)
      have zv11 := ev11.trans cf
      refine w_ifne (t := 20) gz_42_4 rfl (fun u12 => ?_) (fun u12 => by exfalso; omega)
      refine w_vret gz_42_20 gm_42 ?_
      show wp l rho (d + 1) 44 28 [(2, 82), (0, x1)] [] h _
      refine w_iconst gz_44_28 (by decide) ?_
      refine w_iret gz_44_29 gm_44 ?_
      show wp l rho (d + 2) 51 5 [(2, 82), (0, x1), (9, 0)] [(0, (-1))] h Q
      refine w_istore_n (ls' := [(2, 82), (0, x1), (0, (-1))]) gz_51_5 gm_51 rfl rfl rfl ?_
      refine w_iload_n gz_51_6 rfl ?_
      refine w_iconst gz_51_7 (by decide) ?_
      refine w_iceq (t := 15) gz_51_8 rfl (fun u13 => ?_) (fun u13 => by exfalso; omega)
      refine w_iload_n gz_51_15 rfl ?_
      have psR : h 82 7 = h 82 7 := (rfl : h 82 7 = h 82 7)
      have npsR : cs h = cs h := rfl
      have c14 := ev11.symm
      exact w_iret gz_51_16 gm_51 (k0 (by omega) (by omega) n_Al n_Cu)
  ·
    refine w_aload_n gz_44_8 rfl ?_
    refine w_iconst gz_44_9 (by decide) ?_
    refine w_inv (k := 0) (as := [(0, 1)]) (r := []) (x := 82) (ls0 := [(2, 82), (0, 1)]) gz_44_10 gm_42 rfl is_82 rd_5 rfl rfl rfl rfl rfl ?_
    refine w_aload_n gz_42_0 rfl ?_
    refine v_getI (j := 9) gz_42_1 rfl is_82 rd_5 rfl (fun v15 ev15 pv15 qv15 => ?_)
    have zv15 := ev15.trans cf
    refine w_ifne (t := 20) gz_42_4 rfl (fun u16 => ?_) (fun u16 => by exfalso; omega)
    refine w_vret gz_42_20 gm_42 ?_
    show wp l rho (d + 1) 44 13 [(2, 82), (0, x1)] [] h _
    refine w_iconst gz_44_13 (by decide) ?_
    refine w_iret gz_44_14 gm_44 ?_
    show wp l rho (d + 2) 51 5 [(2, 82), (0, x1), (9, 0)] [(0, (-1))] h Q
    refine w_istore_n (ls' := [(2, 82), (0, x1), (0, (-1))]) gz_51_5 gm_51 rfl rfl rfl ?_
    refine w_iload_n gz_51_6 rfl ?_
    refine w_iconst gz_51_7 (by decide) ?_
    refine w_iceq (t := 15) gz_51_8 rfl (fun u17 => ?_) (fun u17 => by exfalso; omega)
    refine w_iload_n gz_51_15 rfl ?_
    have psR : h 82 7 = h 82 7 := (rfl : h 82 7 = h 82 7)
    have npsR : cs h = cs h := rfl
    have c18 := ev15.symm
    exact w_iret gz_51_16 gm_51 (k0 (by omega) (by omega) n_Al n_Cu)
theorem c_Reader_takeNumber9_f0 {l : Launch} {rho : Nat → Int32} {d : Nat} {h : my_H} {Q : my_H → my_V → Prop} {x1 : Int} (a1 : 0 ≤ x1) (b1 : x1 ≤ 200) (cf : h 82 9 = 0) (n_Al : Al h) (n_Cu : Cu h) (k0 : ∀ (h' : my_H), my_fr [(5, 5), (5, 6), (5, 7), (5, 8), (5, 9)] h h' → 1 ≤ h' 82 9 → h' 82 9 ≤ 16004 → (sK (cs h) (h 82 7) ≠ 2 ∧ h' 82 9 = 1 + 16 * h 82 7) ∨ (sK (cs h) (h 82 7) = 2 ∧ x1 ≤ sV (cs h) (h 82 7) ∧ h' 82 9 = 4 + 16 * h 82 7) → Al h' → Cu h' → Q h' (0, (-1))) (k1 : ∀ (h' : my_H) (y : Int), my_fr [(5, 5), (5, 6), (5, 7), (5, 8), (5, 9)] h h' → 0 ≤ y → y ≤ 199 → y ≤ (x1 - 1) → 1 ≤ x1 → h' 82 9 = 0 → h' 82 7 = sN (cs h) (h 82 7) → sK (cs h) (h 82 7) = 2 → y = sV (cs h) (h 82 7) → Al h' → Cu h' → Q h' (0, y)) : wp l rho (d + 2) 51 0 [(2, 82), (0, x1), (9, 0)] [] h Q := by
  have ck1 := Cu_s n_Cu
  have cv2 := Cu_v n_Cu
  refine w_aload_n gz_51_0 rfl ?_
  refine w_iload_n gz_51_1 rfl ?_
  refine w_inv (k := 0) (as := [(0, x1)]) (r := []) (x := 82) (ls0 := [(2, 82), (0, x1)]) gz_51_2 gm_44 rfl is_82 rd_5 rfl rfl rfl rfl rfl ?_
  refine w_aload_n gz_44_0 rfl ?_
  refine v_getI (j := 6) gz_44_1 rfl is_82 rd_5 rfl (fun v3 ev3 pv3 qv3 => ?_)
  refine w_iconst gz_44_4 (by decide) ?_
  refine w_iceq (t := 15) gz_44_5 rfl (fun u4 => ?_) (fun u4 => ?_)
  ·
    refine w_aload_n gz_44_15 rfl ?_
    refine v_getI (j := 8) gz_44_16 rfl is_82 rd_5 rfl (fun v5 ev5 pv5 qv5 => ?_)
    refine w_iload_n gz_44_19 rfl ?_
    refine w_iclt (t := 30) gz_44_20 rfl (fun u6 => ?_) (fun u6 => ?_)
    ·
      refine w_aload_n gz_44_30 rfl ?_
      refine v_getI (j := 9) gz_44_31 rfl is_82 rd_5 rfl (fun v7 ev7 pv7 qv7 => ?_)
      have zv7 := ev7.trans cf
      refine w_ifne (t := 44) gz_44_34 rfl (fun u8 => by exfalso; omega) (fun u8 => ?_)
      refine w_aload_n gz_44_37 rfl ?_
      refine v_getI (j := 8) gz_44_38 rfl is_82 rd_5 rfl (fun v9 ev9 pv9 qv9 => ?_)
      have zv9 := ev9.trans ev5.symm
      refine w_goto (t := 45) gz_44_41 rfl ?_
      refine w_iret gz_44_45 gm_44 ?_
      show wp l rho (d + 2) 51 5 [(2, 82), (0, x1), (9, 0)] [(0, v9)] h Q
      refine w_istore_n (ls' := [(2, 82), (0, x1), (0, v9)]) gz_51_5 gm_51 rfl rfl rfl ?_
      refine w_iload_n gz_51_6 rfl ?_
      refine w_iconst gz_51_7 (by decide) ?_
      refine w_iceq (t := 15) gz_51_8 rfl (fun u10 => by exfalso; omega) (fun u10 => ?_)
      refine w_aload_n gz_51_11 rfl ?_
      refine w_inv (k := 2) (as := []) (r := []) (x := 82) (ls0 := [(2, 82), (9, 0), (9, 0)]) gz_51_12 gm_37 rfl is_82 rd_5 rfl rfl rfl rfl rfl (c_Reader_nextToken9_f0 (d := d)  (ev7.symm.trans (by omega)) n_Al (fun h11 frh11 w12 w13 w14 xp15 xp16 Al_h11t17 Cu_h11t18 => ?_))
      have gh11 : my_fr [(5, 5), (5, 6), (5, 7), (5, 8), (5, 9)] h h11 := my_fr.tr my_fr.rf (frh11.mo rfl)
      show wp l rho (d + 2) 51 15 [(2, 82), (0, x1), (0, v9)] [] h11 Q
      have xc19 := xp15 n_Cu
      have ck20 := Cu_s Cu_h11t18
      rw [show cs h11 = cs h from cs_eq (fun j => my_fr.at gh11 is_92 rfl) (my_fr.at gh11 is_82 rfl)] at ck20
      rw [show h11 82 7 = (sN (cs h) (h 82 7)) from xc19] at ck20
      have cv21 := Cu_v Cu_h11t18
      rw [show cs h11 = cs h from cs_eq (fun j => my_fr.at gh11 is_92 rfl) (my_fr.at gh11 is_82 rfl)] at cv21
      rw [show h11 82 7 = (sN (cs h) (h 82 7)) from xc19] at cv21
      refine w_iload_n gz_51_15 rfl ?_
      have psR : h11 82 7 = (sN (cs h) (h 82 7)) := xc19
      have npsR : cs h11 = cs h := cs_eq (fun j => my_fr.at gh11 is_92 rfl) (my_fr.at gh11 is_82 rfl)
      have c22 := ((my_fr.at frh11 is_82 rfl).trans ev7.symm)
      exact w_iret gz_51_16 gm_51 (k1 h11 (v9) (gh11) (by omega) (by omega) (by omega) (by omega) (by omega) (by first | assumption | omega | (subst_vars; omega) | omega) (by first | assumption | omega | (subst_vars; omega) | omega) (by first | assumption | omega | (subst_vars; omega) | omega) Al_h11t17 Cu_h11t18)
    ·
      refine w_aload_n gz_44_23 rfl ?_
      refine w_iconst gz_44_24 (by decide) ?_
      refine w_inv (k := 0) (as := [(0, 4)]) (r := []) (x := 82) (ls0 := [(2, 82), (0, 4)]) gz_44_25 gm_42 rfl is_82 rd_5 rfl rfl rfl rfl rfl ?_
      refine w_aload_n gz_42_0 rfl ?_
      refine v_getI (j := 9) gz_42_1 rfl is_82 rd_5 rfl (fun v23 ev23 pv23 qv23 => ?_)
      have zv23 := ev23.trans cf
      refine w_ifne (t := 20) gz_42_4 rfl (fun u24 => by exfalso; omega) (fun u24 => ?_)
      refine w_aload_n gz_42_7 rfl ?_
      refine w_iload_n gz_42_8 rfl ?_
      refine w_bipush gz_42_9 (by decide) ?_
      refine w_aload_n gz_42_11 rfl ?_
      refine v_getI (j := 7) gz_42_12 rfl is_82 rd_5 rfl (fun v25 ev25 pv25 qv25 => ?_)
      refine w_imul gz_42_15 ⟨by omega, by omega⟩ ?_
      refine w_iadd gz_42_16 ⟨by omega, by omega⟩ ?_
      refine v_putI (j := 9) gz_42_17 rfl is_82 rd_5 rfl (by omega) (by omega) rfl (fun h26 fh26 => ?_)
      have gh26 : my_fr [(5, 5), (5, 6), (5, 7), (5, 8), (5, 9)] h h26 := my_fr.up my_fr.rf is_82 fh26 rfl
      have Al_h26 : Al h26 := Al_ag (my_ag.up fh26 is_82 rfl) n_Al
      have Cu_h26 : Cu h26 := Cu_ag (my_ag.up fh26 is_82 rfl) n_Cu
      refine w_vret gz_42_20 gm_42 ?_
      show wp l rho (d + 1) 44 28 [(2, 82), (0, x1)] [] h26 _
      refine w_iconst gz_44_28 (by decide) ?_
      refine w_iret gz_44_29 gm_44 ?_
      show wp l rho (d + 2) 51 5 [(2, 82), (0, x1), (9, 0)] [(0, (-1))] h26 Q
      refine w_istore_n (ls' := [(2, 82), (0, x1), (0, (-1))]) gz_51_5 gm_51 rfl rfl rfl ?_
      refine w_iload_n gz_51_6 rfl ?_
      refine w_iconst gz_51_7 (by decide) ?_
      refine w_iceq (t := 15) gz_51_8 rfl (fun u27 => ?_) (fun u27 => by exfalso; omega)
      refine w_iload_n gz_51_15 rfl ?_
      have psR : h26 82 7 = h 82 7 := ((my_up_fld fh26 (by decide)).trans (rfl : h 82 7 = h 82 7))
      have npsR : cs h26 = cs h := cs_eq (fun j => my_fr.at gh26 is_92 rfl) (my_fr.at gh26 is_82 rfl)
      have c28 := (my_up_self fh26)
      exact w_iret gz_51_16 gm_51 (k0 h26 (gh26) (by omega) (by omega) (by first | assumption | omega | (subst_vars; omega) | omega) Al_h26 Cu_h26)
  ·
    refine w_aload_n gz_44_8 rfl ?_
    refine w_iconst gz_44_9 (by decide) ?_
    refine w_inv (k := 0) (as := [(0, 1)]) (r := []) (x := 82) (ls0 := [(2, 82), (0, 1)]) gz_44_10 gm_42 rfl is_82 rd_5 rfl rfl rfl rfl rfl ?_
    refine w_aload_n gz_42_0 rfl ?_
    refine v_getI (j := 9) gz_42_1 rfl is_82 rd_5 rfl (fun v29 ev29 pv29 qv29 => ?_)
    have zv29 := ev29.trans cf
    refine w_ifne (t := 20) gz_42_4 rfl (fun u30 => by exfalso; omega) (fun u30 => ?_)
    refine w_aload_n gz_42_7 rfl ?_
    refine w_iload_n gz_42_8 rfl ?_
    refine w_bipush gz_42_9 (by decide) ?_
    refine w_aload_n gz_42_11 rfl ?_
    refine v_getI (j := 7) gz_42_12 rfl is_82 rd_5 rfl (fun v31 ev31 pv31 qv31 => ?_)
    refine w_imul gz_42_15 ⟨by omega, by omega⟩ ?_
    refine w_iadd gz_42_16 ⟨by omega, by omega⟩ ?_
    refine v_putI (j := 9) gz_42_17 rfl is_82 rd_5 rfl (by omega) (by omega) rfl (fun h32 fh32 => ?_)
    have gh32 : my_fr [(5, 5), (5, 6), (5, 7), (5, 8), (5, 9)] h h32 := my_fr.up my_fr.rf is_82 fh32 rfl
    have Al_h32 : Al h32 := Al_ag (my_ag.up fh32 is_82 rfl) n_Al
    have Cu_h32 : Cu h32 := Cu_ag (my_ag.up fh32 is_82 rfl) n_Cu
    refine w_vret gz_42_20 gm_42 ?_
    show wp l rho (d + 1) 44 13 [(2, 82), (0, x1)] [] h32 _
    refine w_iconst gz_44_13 (by decide) ?_
    refine w_iret gz_44_14 gm_44 ?_
    show wp l rho (d + 2) 51 5 [(2, 82), (0, x1), (9, 0)] [(0, (-1))] h32 Q
    refine w_istore_n (ls' := [(2, 82), (0, x1), (0, (-1))]) gz_51_5 gm_51 rfl rfl rfl ?_
    refine w_iload_n gz_51_6 rfl ?_
    refine w_iconst gz_51_7 (by decide) ?_
    refine w_iceq (t := 15) gz_51_8 rfl (fun u33 => ?_) (fun u33 => by exfalso; omega)
    refine w_iload_n gz_51_15 rfl ?_
    have psR : h32 82 7 = h 82 7 := ((my_up_fld fh32 (by decide)).trans (rfl : h 82 7 = h 82 7))
    have npsR : cs h32 = cs h := cs_eq (fun j => my_fr.at gh32 is_92 rfl) (my_fr.at gh32 is_82 rfl)
    have c34 := (my_up_self fh32)
    exact w_iret gz_51_16 gm_51 (k0 h32 (gh32) (by omega) (by omega) (by first | assumption | omega | (subst_vars; omega) | omega) Al_h32 Cu_h32)
theorem c_Lens_isPicked9 {l : Launch} {rho : Nat → Int32} {d : Nat} {h : my_H} {Q : my_H → my_V → Prop} {x0 x1 x2 : Int} (t0 : my_is 4 x0) (a1 : 0 ≤ x1) (b1 : x1 ≤ 7) (a2 : 0 ≤ x2) (b2 : x2 ≤ 8) (hs5 : h x0 9 ≤ 5) (k0 : (∀ n : Int, 0 ≤ n → n < x2 → h (x0 + 5) (h x0 9 * 8 + n) ≠ x1) → Q h (0, 0)) (k1 : 1 ≤ x2 → (∃ n : Int, 0 ≤ n ∧ n < x2 ∧ h (x0 + 5) (h x0 9 * 8 + n) = x1) → Q h (0, 1)) : wp l rho d 57 0 [(2, x0), (0, x1), (0, x2), (9, 0)] [] h Q := by
  refine v_know (x := x0) (j := 9) (b := 9) rfl t0 rd_4 rfl (fun ka0_9 eka0_9 pka0_9 qka0_9 => ?_)
  have J2_0 : ∀ (n : Nat) (p2_0 : Int), 0 ≤ p2_0 → p2_0 ≤ 8 → p2_0 ≤ x2 → h x0 9 = ka0_9 → (∀ n : Int, 0 ≤ n → n < p2_0 → h (x0 + 5) (h x0 9 * 8 + n) ≠ x1) → 9 - p2_0 ≤ (n : Int) → wp l rho d 57 2 [(2, x0), (0, x1), (0, x2), (0, p2_0)] [] h Q := by
    intro n
    induction n with
    | zero => intro p2_0 q0_2_0 q1_2_0 q2_2_0 ca0_9_2_0 np_2_0 hm_2_0; exfalso; omega
    | succ n ih_2_0 =>
      intro p2_0 q0_2_0 q1_2_0 q2_2_0 ca0_9_2_0 np_2_0 hm_2_0
      refine w_iload_n gz_57_2 rfl ?_
      refine w_iload_n gz_57_3 rfl ?_
      refine w_icge (t := 33) gz_57_4 rfl (fun u1 => ?_) (fun u1 => ?_)
      ·
        refine w_iconst gz_57_33 (by decide) ?_
        exact w_bret gz_57_34 gm_57 (by omega) (by omega) (k0 (by first | (intro n a b; exact np_2_0 n a (by omega)) | exact ⟨p2_0, by omega, by omega, by omega⟩ | omega))
      ·
        refine w_aload_n gz_57_7 rfl ?_
        refine w_getX (v := (x0 + 5)) gz_57_8 t0 rd_4 rfl (by decide) rfl ?_
        refine w_aload_n gz_57_11 rfl ?_
        refine v_getI (j := 9) gz_57_12 rfl t0 rd_4 rfl (fun v3 ev3 pv3 qv3 => ?_)
        have zv3 := ev3.trans ca0_9_2_0
        refine w_bipush gz_57_15 (by decide) ?_
        refine w_imul gz_57_17 ⟨by omega, by omega⟩ ?_
        refine w_iload_n gz_57_18 rfl ?_
        refine w_iadd gz_57_19 ⟨by omega, by omega⟩ ?_
        have hi4 : 0 ≤ ((v3 * 8) + p2_0) := by omega
        have hi5 : ((v3 * 8) + p2_0) ≤ 47 := by omega
        refine w_iald gz_57_20 (ix_4_5 t0) rd_36 (by omega) (by omega) (fun v6 ev6 pv6 qv6 => ?_)
        have e21 : v6 = h (x0 + 5) (h x0 9 * 8 + p2_0) := by
          rw [show h x0 9 * 8 + p2_0 = ((v3 * 8) + p2_0) by omega]
          omega
        refine w_iload_n gz_57_21 rfl ?_
        refine w_icne (t := 27) gz_57_22 rfl (fun u7 => ?_) (fun u7 => ?_)
        ·
          refine w_iinc (ls' := [(2, x0), (0, x1), (0, x2), (0, (p2_0 + 1))]) gz_57_27 rfl gm_57 rfl rfl rfl ⟨by omega, by omega⟩ ?_
          refine w_goto (t := 2) gz_57_30 rfl ?_
          exact ih_2_0 ((p2_0 + 1)) (by omega) (by omega) (by omega) (ev3.symm.trans (by omega)) (by first | (intro n a b; omega) | (intro n a b; rcases (by omega : n = p2_0 ∨ n < p2_0) with q | q <;> first | exact np_2_0 n a q | (subst_vars; omega)) | omega) (by omega)
        ·
          refine w_iconst gz_57_25 (by decide) ?_
          exact w_bret gz_57_26 gm_57 (by omega) (by omega) (k1 (by omega) (by first | (intro n a b; exact np_2_0 n a (by omega)) | exact ⟨p2_0, by omega, by omega, by omega⟩ | omega))
  refine w_iconst gz_57_0 (by decide) ?_
  refine w_istore_n (ls' := [(2, x0), (0, x1), (0, x2), (0, 0)]) gz_57_1 gm_57 rfl rfl rfl ?_
  exact J2_0 9 (0) (by omega) (by omega) (by omega) (eka0_9.symm.trans (by omega)) (by first | (intro n a b; omega) | (intro n a b; rcases (by omega : n = p2_0 ∨ n < p2_0) with q | q <;> first | exact np_2_0 n a q | (subst_vars; omega)) | omega) (by omega)
theorem c_Model_takeWord9_f1 {l : Launch} {rho : Nat → Int32} {d : Nat} {h : my_H} {Q : my_H → my_V → Prop} (xf : Int) (cf : h 151 8 = xf) (cf1 : 1 ≤ xf) (cf2 : xf ≤ 16005) (n_Tok : Tok h) (n_Wd9 : Wd9 h) (k0 : ∀ (h' : my_H), my_fr [(10, 7)] h h' → 1 ≤ h' 151 8 → h' 151 8 ≤ 16005 → h 151 7 ≤ h' 151 7 → h' 151 7 = h 151 7 → Tok h' → Wd9 h' → Q h' (9, 0)) : wp l rho (d + 2) 175 0 [(2, 151), (0, 9)] [] h Q := by
  refine v_know (x := 151) (j := 7) (b := 7) rfl is_151 rd_10 rfl (fun k151_7 ek151_7 pk151_7 qk151_7 => ?_)
  refine w_aload_n gz_175_0 rfl ?_
  refine w_iload_n gz_175_1 rfl ?_
  refine w_inv (k := 1) (as := [(0, 9)]) (r := []) (x := 151) (ls0 := [(2, 151), (0, 9), (9, 0)]) gz_175_2 gm_176 rfl is_151 rd_10 rfl rfl rfl rfl rfl ?_
  refine w_aload_n gz_176_0 rfl ?_
  refine w_iload_n gz_176_1 rfl ?_
  refine w_inv (k := 0) (as := [(0, 9)]) (r := []) (x := 151) (ls0 := [(2, 151), (0, 9)]) gz_176_2 gm_177 rfl is_151 rd_10 rfl rfl rfl rfl rfl (c_Model_isWord9_f1 (d := d) (x1 := 9) (by omega) (by omega) (xf) (cf) (by omega) (by omega) n_Wd9 (fun w1 w2 xp3 => ?_))
  show wp l rho (d + 1) 176 5 [(2, 151), (0, 9), (9, 0)] [(0, 0)] h _
  rw [show wm 9 = 99 from by decide] at xp3
  refine w_istore_n (ls' := [(2, 151), (0, 9), (0, 0)]) gz_176_5 gm_176 rfl rfl rfl ?_
  refine w_aload_n gz_176_6 rfl ?_
  refine w_dup gz_176_7 rfl ?_
  refine v_getI (j := 7) gz_176_8 rfl is_151 rd_10 rfl (fun v4 ev4 pv4 qv4 => ?_)
  have zv4 := ev4.trans ek151_7.symm
  refine w_iload_n gz_176_11 rfl ?_
  refine w_ifeq (t := 19) gz_176_12 rfl (fun u5 => ?_) (fun u5 => by exfalso; omega)
  refine w_iconst gz_176_19 (by decide) ?_
  refine w_iadd gz_176_20 ⟨by omega, by omega⟩ ?_
  have hi6 : 0 ≤ (v4 + 0) := by have q := Tok_at n_Tok; omega
  have hi7 : (v4 + 0) ≤ 1001 := by have q := Tok_at n_Tok; omega
  refine v_putI (j := 7) gz_176_21 rfl is_151 rd_10 rfl (by omega) (by omega) rfl (fun h8 fh8 => ?_)
  have gh8 : my_fr [(10, 7)] h h8 := my_fr.up my_fr.rf is_151 fh8 rfl
  have ps9 : h8 151 7 = h 151 7 := by
    rw [my_up_self fh8]
    omega
  have Wd9_h8 : Wd9 h8 := Wd9_ag (my_ag.up fh8 is_151 rfl) n_Wd9
  have Tok_h8t10 : Tok h8 := by first | exact Tok_inc n_Tok (by subst_vars; omega) (by omega) fh8 | exact Tok_set n_Tok (by omega) fh8 | omega
  refine w_iload_n gz_176_24 rfl ?_
  refine w_bret gz_176_25 gm_176 (by omega) (by omega) ?_
  show wp l rho (d + 2) 175 5 [(2, 151), (0, 9)] [(0, 0)] h8 Q
  refine w_ifne (t := 13) gz_175_5 rfl (fun u11 => by exfalso; omega) (fun u11 => ?_)
  refine w_aload_n gz_175_8 rfl ?_
  refine w_iconst gz_175_9 (by decide) ?_
  refine w_inv (k := 0) (as := [(0, 1)]) (r := []) (x := 151) (ls0 := [(2, 151), (0, 1)]) gz_175_10 gm_178 rfl is_151 rd_10 rfl rfl rfl rfl rfl ?_
  refine w_aload_n gz_178_0 rfl ?_
  refine v_getI (j := 8) gz_178_1 rfl is_151 rd_10 rfl (fun v12 ev12 pv12 qv12 => ?_)
  have zv12 := ev12.trans ((my_up_fld fh8 (by decide)).trans cf)
  refine w_ifne (t := 25) gz_178_4 rfl (fun u13 => ?_) (fun u13 => by exfalso; omega)
  refine w_vret gz_178_25 gm_178 ?_
  show wp l rho (d + 2) 175 13 [(2, 151), (0, 9)] [] h8 Q
  have psR : h8 151 7 = h 151 7 := ps9
  have npsR : sm h8 = sm h := sm_eq (fun j => my_fr.at gh8 is_153 rfl) (fun j => my_fr.at gh8 is_154 rfl) (fun j => my_fr.at gh8 is_155 rfl)
  have ce14 : h8 151 7 = (v4 + 0) := (my_up_self fh8)
  have c15 := ev12.symm
  exact w_vret gz_175_13 gm_175 (k0 h8 (gh8) (by omega) (by omega) (by first | assumption | omega | (subst_vars; omega) | omega) (by first | assumption | omega | (subst_vars; omega) | omega) Tok_h8t10 Wd9_h8)
theorem c_Model_takeWord9_f0 {l : Launch} {rho : Nat → Int32} {d : Nat} {h : my_H} {Q : my_H → my_V → Prop} {x1 : Int} (a1 : 0 ≤ x1) (b1 : x1 ≤ 9) (cf : h 151 8 = 0) (n_Tok : Tok h) (n_Wd9 : Wd9 h) (k0 : ∀ (h' : my_H), my_fr [(10, 7), (10, 8)] h h' → 1 ≤ h' 151 8 → h' 151 8 ≤ 16001 → h 151 7 ≤ h' 151 7 → sW (sm h) (h 151 7) ≠ wm x1 → h' 151 8 = 1 + 16 * sP (sm h) (h 151 7) → Tok h' → Wd9 h' → Q h' (9, 0)) (k1 : ∀ (h' : my_H), my_fr [(10, 7), (10, 8)] h h' → 1 ≤ h' 151 7 → h' 151 7 ≤ 1001 → h' 151 8 = 0 → h 151 7 ≤ h' 151 7 → h' 151 7 = sN (sm h) (h 151 7) → sW (sm h) (h 151 7) = wm x1 → Tok h' → Wd9 h' → Q h' (9, 0)) : wp l rho (d + 2) 175 0 [(2, 151), (0, x1)] [] h Q := by
  refine v_know (x := 151) (j := 7) (b := 7) rfl is_151 rd_10 rfl (fun k151_7 ek151_7 pk151_7 qk151_7 => ?_)
  refine w_aload_n gz_175_0 rfl ?_
  refine w_iload_n gz_175_1 rfl ?_
  refine w_inv (k := 1) (as := [(0, x1)]) (r := []) (x := 151) (ls0 := [(2, 151), (0, x1), (9, 0)]) gz_175_2 gm_176 rfl is_151 rd_10 rfl rfl rfl rfl rfl ?_
  refine w_aload_n gz_176_0 rfl ?_
  refine w_iload_n gz_176_1 rfl ?_
  refine w_inv (k := 0) (as := [(0, x1)]) (r := []) (x := 151) (ls0 := [(2, 151), (0, x1)]) gz_176_2 gm_177 rfl is_151 rd_10 rfl rfl rfl rfl rfl (c_Model_isWord9_f0 (d := d) (x1 := x1) (by omega) (by omega) (cf.trans (by omega)) n_Wd9 (fun w1 xp2 => ?_) (fun w3 xp4 xp5 xp6 xp7 => ?_))
  ·
    show wp l rho (d + 1) 176 5 [(2, 151), (0, x1), (9, 0)] [(0, 0)] h _
    refine w_istore_n (ls' := [(2, 151), (0, x1), (0, 0)]) gz_176_5 gm_176 rfl rfl rfl ?_
    refine w_aload_n gz_176_6 rfl ?_
    refine w_dup gz_176_7 rfl ?_
    refine v_getI (j := 7) gz_176_8 rfl is_151 rd_10 rfl (fun v8 ev8 pv8 qv8 => ?_)
    have zv8 := ev8.trans ek151_7.symm
    refine w_iload_n gz_176_11 rfl ?_
    refine w_ifeq (t := 19) gz_176_12 rfl (fun u9 => ?_) (fun u9 => by exfalso; omega)
    refine w_iconst gz_176_19 (by decide) ?_
    refine w_iadd gz_176_20 ⟨by omega, by omega⟩ ?_
    have hi10 : 0 ≤ (v8 + 0) := by have q := Tok_at n_Tok; omega
    have hi11 : (v8 + 0) ≤ 1001 := by have q := Tok_at n_Tok; omega
    refine v_putI (j := 7) gz_176_21 rfl is_151 rd_10 rfl (by omega) (by omega) rfl (fun h12 fh12 => ?_)
    have gh12 : my_fr [(10, 7), (10, 8)] h h12 := my_fr.up my_fr.rf is_151 fh12 rfl
    have ps13 : h12 151 7 = h 151 7 := by
      rw [my_up_self fh12]
      omega
    have Wd9_h12 : Wd9 h12 := Wd9_ag (my_ag.up fh12 is_151 rfl) n_Wd9
    have Tok_h12t14 : Tok h12 := by first | exact Tok_inc n_Tok (by subst_vars; omega) (by omega) fh12 | exact Tok_set n_Tok (by omega) fh12 | omega
    refine w_iload_n gz_176_24 rfl ?_
    refine w_bret gz_176_25 gm_176 (by omega) (by omega) ?_
    show wp l rho (d + 2) 175 5 [(2, 151), (0, x1)] [(0, 0)] h12 Q
    refine w_ifne (t := 13) gz_175_5 rfl (fun u15 => by exfalso; omega) (fun u15 => ?_)
    refine w_aload_n gz_175_8 rfl ?_
    refine w_iconst gz_175_9 (by decide) ?_
    refine w_inv (k := 0) (as := [(0, 1)]) (r := []) (x := 151) (ls0 := [(2, 151), (0, 1)]) gz_175_10 gm_178 rfl is_151 rd_10 rfl rfl rfl rfl rfl ?_
    refine w_aload_n gz_178_0 rfl ?_
    refine v_getI (j := 8) gz_178_1 rfl is_151 rd_10 rfl (fun v16 ev16 pv16 qv16 => ?_)
    have zv16 := ev16.trans ((my_up_fld fh12 (by decide)).trans cf)
    refine w_ifne (t := 25) gz_178_4 rfl (fun u17 => by exfalso; omega) (fun u17 => ?_)
    refine w_aload_n gz_178_7 rfl ?_
    refine w_iload_n gz_178_8 rfl ?_
    refine w_bipush gz_178_9 (by decide) ?_
    refine w_aload_n gz_178_11 rfl ?_
    refine w_getX (v := 154) gz_178_12 is_151 rd_10 rfl (by decide) rfl ?_
    refine w_aload_n gz_178_15 rfl ?_
    refine v_getI (j := 7) gz_178_16 rfl is_151 rd_10 rfl (fun v19 ev19 pv19 qv19 => ?_)
    have zv19 := ev19.trans (my_up_self fh12)
    refine w_iald gz_178_19 is_154 rd_53 (by omega) (by omega) (fun v20 ev20 pv20 qv20 => ?_)
    have nz21a : h12 151 7 = h 151 7 := ps13
    have nz21 : v20 = sP (sm h) (h 151 7) := by
      have q := ev20.trans (my_fr.at (j := v19) gh12 is_154 rfl)
      rw [show (v19 : Int) = h 151 7 from by omega] at q
      exact q
    refine w_imul gz_178_20 ⟨by omega, by omega⟩ ?_
    refine w_iadd gz_178_21 ⟨by omega, by omega⟩ ?_
    refine v_putI (j := 8) gz_178_22 rfl is_151 rd_10 rfl (by omega) (by omega) rfl (fun h22 fh22 => ?_)
    have gh22 : my_fr [(10, 7), (10, 8)] h h22 := my_fr.up gh12 is_151 fh22 rfl
    have Wd9_h22 : Wd9 h22 := Wd9_ag (my_ag.up fh22 is_151 rfl) Wd9_h12
    have Tok_h22 : Tok h22 := Tok_ag (my_ag.up fh22 is_151 rfl) Tok_h12t14
    refine w_vret gz_178_25 gm_178 ?_
    show wp l rho (d + 2) 175 13 [(2, 151), (0, x1)] [] h22 Q
    have psR : h22 151 7 = h 151 7 := ((my_up_fld fh22 (by decide)).trans ps13)
    have npsR : sm h22 = sm h := sm_eq (fun j => my_fr.at gh22 is_153 rfl) (fun j => my_fr.at gh22 is_154 rfl) (fun j => my_fr.at gh22 is_155 rfl)
    have ce23 : h22 151 7 = v19 := ((my_up_fld fh22 (by decide)).trans ev19.symm)
    have c24 := (my_up_self fh22)
    exact w_vret gz_175_13 gm_175 (k0 h22 (gh22) (by omega) (by omega) (by first | assumption | omega | (subst_vars; omega) | omega) (by first | assumption | omega | (subst_vars; omega) | omega) (by first | assumption | omega | (subst_vars; omega) | omega) Tok_h22 Wd9_h22)
  ·
    show wp l rho (d + 1) 176 5 [(2, 151), (0, x1), (9, 0)] [(0, 1)] h _
    refine w_istore_n (ls' := [(2, 151), (0, x1), (0, 1)]) gz_176_5 gm_176 rfl rfl rfl ?_
    refine w_aload_n gz_176_6 rfl ?_
    refine w_dup gz_176_7 rfl ?_
    refine v_getI (j := 7) gz_176_8 rfl is_151 rd_10 rfl (fun v25 ev25 pv25 qv25 => ?_)
    have zv25 := ev25.trans ek151_7.symm
    refine w_iload_n gz_176_11 rfl ?_
    refine w_ifeq (t := 19) gz_176_12 rfl (fun u26 => by exfalso; omega) (fun u26 => ?_)
    refine w_iconst gz_176_15 (by decide) ?_
    refine w_goto (t := 20) gz_176_16 rfl ?_
    refine w_iadd gz_176_20 ⟨by omega, by omega⟩ ?_
    have hi27 : 0 ≤ (v25 + 1) := by have q := Tok_at n_Tok; omega
    have hi28 : (v25 + 1) ≤ 1001 := by have q := Tok_at n_Tok; omega
    refine v_putI (j := 7) gz_176_21 rfl is_151 rd_10 rfl (by omega) (by omega) rfl (fun h29 fh29 => ?_)
    have gh29 : my_fr [(10, 7), (10, 8)] h h29 := my_fr.up my_fr.rf is_151 fh29 rfl
    have ps30 : h29 151 7 = (sN (sm h) (h 151 7)) := by
      rw [my_up_self fh29]
      show (v25 + 1) = h 151 7 + 1
      omega
    have Wd9_h29 : Wd9 h29 := Wd9_ag (my_ag.up fh29 is_151 rfl) n_Wd9
    have Tok_h29t31 : Tok h29 := by first | exact Tok_inc n_Tok (by subst_vars; omega) (by omega) fh29 | exact Tok_set n_Tok (by omega) fh29 | omega
    refine w_iload_n gz_176_24 rfl ?_
    refine w_bret gz_176_25 gm_176 (by omega) (by omega) ?_
    show wp l rho (d + 2) 175 5 [(2, 151), (0, x1)] [(0, 1)] h29 Q
    refine w_ifne (t := 13) gz_175_5 rfl (fun u32 => ?_) (fun u32 => by exfalso; omega)
    have psR : h29 151 7 = (sN (sm h) (h 151 7)) := ps30
    have npsR : sm h29 = sm h := sm_eq (fun j => my_fr.at gh29 is_153 rfl) (fun j => my_fr.at gh29 is_154 rfl) (fun j => my_fr.at gh29 is_155 rfl)
    have ce33 : h29 151 7 = (v25 + 1) := (my_up_self fh29)
    have c34 := (my_up_self fh29)
    have c35 := ((my_up_fld fh29 (by decide)).trans cf)
    exact w_vret gz_175_13 gm_175 (k1 h29 (gh29) (by omega) (by omega) (by omega) (by first | assumption | omega | (subst_vars; omega) | omega) (by first | assumption | omega | (subst_vars; omega) | omega) (by first | assumption | omega | (subst_vars; omega) | omega) Tok_h29t31 Wd9_h29)
theorem c_Model_readCut9_f0 {l : Launch} {rho : Nat → Int32} {d : Nat} {h : my_H} {Q : my_H → my_V → Prop} {x1 : Int} {wv : Int} (a1 : 36 ≤ x1) (b1 : x1 ≤ 41) (cf : h 151 8 = 0) (hwv : wv ≤ 5) (hwv0 : 0 ≤ wv) (n_Tok : Tok h) (n_Mq : Mq h wv) (n_Wd9 : Wd9 h) (hp : x1 = 36 + h 167 6) (k0 : ∀ (h' : my_H), my_fr [(10, 7), (10, 8), (67, -1), (68, -1), (69, -1)] h h' → 1 ≤ h' 151 8 → h' 151 8 ≤ 16005 → h 151 7 ≤ h' 151 7 → cutM (sm h) (h 151 7) (h 151 27) (h' 151 8) (h' 151 7) → Tok h' → Mq h' wv → Wd9 h' → Q h' (9, 0)) (k1 : ∀ (h' : my_H), my_fr [(10, 7), (10, 8), (67, -1), (68, -1), (69, -1)] h h' → 1 ≤ h' 151 7 → h' 151 7 ≤ 1001 → h' 151 8 = 0 → PaneOk h' x1 → Pk3 h' x1 (h' 151 27) → h 151 7 ≤ h' 151 7 → cutM (sm h) (h 151 7) (h 151 27) (h' 151 8) (h' 151 7) → h' 168 x1 ≤ 2 → Tok h' → Mq h' wv → Wd9 h' → Q h' (9, 0)) : wp l rho (d + 2) 186 0 [(2, 151), (0, x1), (9, 0), (9, 0)] [] h Q := by
  refine v_know (x := 151) (j := 7) (b := 7) rfl is_151 rd_10 rfl (fun k151_7 ek151_7 pk151_7 qk151_7 => ?_)
  refine v_know (x := 151) (j := 27) (b := 27) rfl is_151 rd_10 rfl (fun k151_27 ek151_27 pk151_27 qk151_27 => ?_)
  have J20_0 : ∀ (n : Nat) (p20_0 p20_1 p20_2 : Int) (h20_0 : my_H), my_fr [(10, 7), (10, 8), (67, -1), (68, -1), (69, -1)] h h20_0 → (-1) ≤ p20_0 → p20_0 ≤ 2 → 0 ≤ p20_1 → p20_1 ≤ 3 → 0 ≤ p20_2 → p20_2 ≤ 16004 → p20_0 ≤ (p20_1 - 1) → h20_0 151 27 = k151_27 → h20_0 151 8 = p20_2 → Tok h20_0 → Mq h20_0 wv → Wd9 h20_0 → h20_0 167 6 = h 167 6 → (0 ≤ p20_0 → h20_0 153 (h20_0 151 7) = 1 ∧ h20_0 151 8 = 0) → h 151 7 ≤ h20_0 151 7 → (h20_0 151 8 = 0 → h20_0 169 x1 < k151_27) → (h20_0 151 8 = 0 → h20_0 151 7 = (sN (sm h) (h 151 7)) ∧ sK (sm h) (h 151 7) = 2 ∧ sV (sm h) (h 151 7) < h 151 27) → (h20_0 151 8 ≠ 0 → (sK (sm h) (h 151 7) ≠ 2 ∧ h20_0 151 8 = 1 + 16 * sP (sm h) (h 151 7)) ∨ (sK (sm h) (h 151 7) = 2 ∧ h 151 27 ≤ sV (sm h) (h 151 7) ∧ h20_0 151 8 = 4 + 16 * sP (sm h) (h 151 7))) → (h20_0 151 8 = 0 → (p20_0 = -1 ∧ (0 < p20_1 → sW (sm h) (sN (sm h) (h 151 7)) ≠ 615403) ∧ (1 < p20_1 → sW (sm h) (sN (sm h) (h 151 7)) ≠ 352) ∧ (2 < p20_1 → sW (sm h) (sN (sm h) (h 151 7)) ≠ 679695)) ∨ (0 ≤ p20_0 ∧ (sW (sm h) (sN (sm h) (h 151 7)) = 615403 ∨ sW (sm h) (sN (sm h) (h 151 7)) = 352 ∨ sW (sm h) (sN (sm h) (h 151 7)) = 679695))) → 4 - p20_1 ≤ (n : Int) → wp l rho (d + 2) 186 20 [(2, 151), (0, x1), (0, p20_0), (0, p20_1)] [] h20_0 Q := by
    intro n
    induction n with
    | zero => intro p20_0 p20_1 p20_2 h20_0 gh_20_0 q0_20_0 q1_20_0 q2_20_0 q3_20_0 q4_20_0 q5_20_0 q6_20_0 c151_27_20_0 c151_8_20_0 n_Tok_20_0 n_Mq_20_0 n_Wd9_20_0 n_P6_20_0 kw_20_0 am_20_0 k9_20_0 px_20_0 pf_20_0 kd_20_0 hm_20_0; exfalso; omega
    | succ n ih_20_0 =>
      intro p20_0 p20_1 p20_2 h20_0 gh_20_0 q0_20_0 q1_20_0 q2_20_0 q3_20_0 q4_20_0 q5_20_0 q6_20_0 c151_27_20_0 c151_8_20_0 n_Tok_20_0 n_Mq_20_0 n_Wd9_20_0 n_P6_20_0 kw_20_0 am_20_0 k9_20_0 px_20_0 pf_20_0 kd_20_0 hm_20_0
      have cg : h20_0 151 8 = 0 → sK (sm h) (h20_0 151 7) = sK (sm h) (sN (sm h) (h 151 7)) ∧ sV (sm h) (h20_0 151 7) = sV (sm h) (sN (sm h) (h 151 7)) ∧ sP (sm h) (h20_0 151 7) = sP (sm h) (sN (sm h) (h 151 7)) ∧ sN (sm h) (h20_0 151 7) = sN (sm h) (sN (sm h) (h 151 7)) ∧ sK (sm h) (sN (sm h) (h20_0 151 7)) = sK (sm h) (sN (sm h) (sN (sm h) (h 151 7))) ∧ sV (sm h) (sN (sm h) (h20_0 151 7)) = sV (sm h) (sN (sm h) (sN (sm h) (h 151 7))) ∧ sP (sm h) (sN (sm h) (h20_0 151 7)) = sP (sm h) (sN (sm h) (sN (sm h) (h 151 7))) ∧ sN (sm h) (sN (sm h) (h20_0 151 7)) = sN (sm h) (sN (sm h) (sN (sm h) (h 151 7))) ∧ sK (sm h) (sN (sm h) (sN (sm h) (h20_0 151 7))) = sK (sm h) (sN (sm h) (sN (sm h) (sN (sm h) (h 151 7)))) ∧ sV (sm h) (sN (sm h) (sN (sm h) (h20_0 151 7))) = sV (sm h) (sN (sm h) (sN (sm h) (sN (sm h) (h 151 7)))) ∧ sP (sm h) (sN (sm h) (sN (sm h) (h20_0 151 7))) = sP (sm h) (sN (sm h) (sN (sm h) (sN (sm h) (h 151 7)))) ∧ sN (sm h) (sN (sm h) (sN (sm h) (h20_0 151 7))) = sN (sm h) (sN (sm h) (sN (sm h) (sN (sm h) (h 151 7)))) := fun q => by
        rw [(px_20_0 q).1]
        exact ⟨rfl, rfl, rfl, rfl, rfl, rfl, rfl, rfl, rfl, rfl, rfl, rfl⟩
      refine w_iload_n gz_186_20 rfl ?_
      refine w_iconst gz_186_21 (by decide) ?_
      refine w_icge (t := 47) gz_186_22 rfl (fun u1 => ?_) (fun u1 => ?_)
      ·
        refine w_iload_n gz_186_47 rfl ?_
        refine w_ifge (t := 57) gz_186_48 rfl (fun u2 => ?_) (fun u2 => ?_)
        ·
          refine w_aload_n gz_186_57 rfl ?_
          refine w_dup gz_186_58 rfl ?_
          refine v_getI (j := 7) gz_186_59 rfl is_151 rd_10 rfl (fun v3 ev3 pv3 qv3 => ?_)
          refine w_iconst gz_186_62 (by decide) ?_
          refine w_iadd gz_186_63 ⟨by omega, by omega⟩ ?_
          have hi4 : 0 ≤ (v3 + 1) := by have q := Tok_at n_Tok_20_0; omega
          have hi5 : (v3 + 1) ≤ 1001 := by have q := Tok_at n_Tok_20_0; omega
          refine v_putI (j := 7) gz_186_64 rfl is_151 rd_10 rfl (by omega) (by omega) rfl (fun h6 fh6 => ?_)
          have gh6 : my_fr [(10, 7), (10, 8), (67, -1), (68, -1), (69, -1)] h h6 := my_fr.up gh_20_0 is_151 fh6 rfl
          have ps7 : h6 151 7 = (sN (sm h) (h20_0 151 7)) := by
            rw [my_up_self fh6]
            show (v3 + 1) = h20_0 151 7 + 1
            omega
          have Mq_h6 : Mq h6 wv := Mq_ag (my_ag.up fh6 is_151 rfl) n_Mq_20_0
          have Wd9_h6 : Wd9 h6 := Wd9_ag (my_ag.up fh6 is_151 rfl) n_Wd9_20_0
          have P6_h6 : h6 167 6 = h 167 6 := P6_ag (my_ag.up fh6 is_151 rfl) n_P6_20_0
          have Tok_h6t8 : Tok h6 := by first | exact Tok_inc n_Tok_20_0 (by subst_vars; omega) (by omega) fh6 | exact Tok_set n_Tok_20_0 (by omega) fh6 | omega
          have k7 := my_up_self fh6
          refine w_aload_n gz_186_67 rfl ?_
          refine w_getX (v := 168) gz_186_68 is_151 rd_10 rfl (by decide) rfl ?_
          refine w_iload_n gz_186_71 rfl ?_
          refine w_iload_n gz_186_72 rfl ?_
          refine w_iast gz_186_73 is_168 rd_67 (by omega) (by omega) (by omega) (by omega) (fun h10 fh10 => ?_)
          have gh10 : my_fr [(10, 7), (10, 8), (67, -1), (68, -1), (69, -1)] h h10 := my_fr.up gh6 is_168 fh10 rfl
          have Mq_h10 : Mq h10 wv := Mq_u (a := 168) hwv (by decide) (by omega) fh10 Mq_h6
          have Wd9_h10 : Wd9 h10 := Wd9_ag (my_ag.up fh10 is_168 rfl) Wd9_h6
          have P6_h10 : h10 167 6 = h 167 6 := P6_ag (my_ag.up fh10 is_168 rfl) P6_h6
          have Tok_h10 : Tok h10 := Tok_ag (my_ag.up fh10 is_168 rfl) Tok_h6t8
          have k168 : h10 168 x1 = p20_0 := my_up_self fh10
          have ce11 : h10 151 7 = (v3 + 1) := ((my_up_role fh10 is_151 is_168 rfl).trans (my_up_self fh6))
          refine w_aload_n gz_186_74 rfl ?_
          refine w_getX (v := 170) gz_186_75 is_151 rd_10 rfl (by decide) rfl ?_
          refine w_iload_n gz_186_78 rfl ?_
          refine w_aload_n gz_186_79 rfl ?_
          refine w_sipush gz_186_80 (by decide) ?_
          refine w_inv (k := 0) (as := [(0, 199)]) (r := [(0, x1), (2, 170)]) (x := 151) (ls0 := [(2, 151), (0, 199)]) gz_186_83 gm_187 rfl is_151 rd_10 rfl rfl rfl rfl rfl (c_Model_takeNumber9_fq (d := d)  Tok_h10 (fun h13 frh13 w14 w15 xp16 xp17 Tok_h13t18 => ?_) (fun h19 v20 frh19 w21 w22 w23 w24 w25 xp26 xp27 xp28 xp29 xp30 xp31 xp32 xp33 Tok_h19t34 => ?_))
          ·
            have gh13 : my_fr [(10, 7), (10, 8), (67, -1), (68, -1), (69, -1)] h h13 := my_fr.tr gh10 (frh13.mo rfl)
            have Mq_h13 : Mq h13 wv := Mq_ag (my_ag.fr frh13 rfl) Mq_h10
            have Wd9_h13 : Wd9 h13 := Wd9_ag (my_ag.fr frh13 rfl) Wd9_h10
            have P6_h13 : h13 167 6 = h 167 6 := P6_ag (my_ag.fr frh13 rfl) P6_h10
            show wp l rho (d + 2) 186 86 [(2, 151), (0, x1), (0, p20_0), (0, p20_1)] [(0, 0), (0, x1), (2, 170)] h13 Q
            have ps35 : h10 151 7 = (sN (sm h) (h20_0 151 7)) := ((my_up_role fh10 is_151 is_168 rfl).trans ps7)
            rw [ps35] at xp16
            have tE36 : sm h10 = sm h := sm_eq (fun j => my_fr.at gh10 is_153 rfl) (fun j => my_fr.at gh10 is_154 rfl) (fun j => my_fr.at gh10 is_155 rfl)
            rw [tE36] at xp17
            rw [ps35] at xp17
            have hi37 : 0 ≤ 0 := by omega
            have hi38 : 0 ≤ 199 := by omega
            refine w_iast gz_186_86 is_170 rd_69 (by omega) (by omega) (by omega) (by omega) (fun h39 fh39 => ?_)
            have gh39 : my_fr [(10, 7), (10, 8), (67, -1), (68, -1), (69, -1)] h h39 := my_fr.up gh13 is_170 fh39 rfl
            have Mq_h39 : Mq h39 wv := Mq_u (a := 170) hwv (by decide) (by omega) fh39 Mq_h13
            have Wd9_h39 : Wd9 h39 := Wd9_ag (my_ag.up fh39 is_170 rfl) Wd9_h13
            have P6_h39 : h39 167 6 = h 167 6 := P6_ag (my_ag.up fh39 is_170 rfl) P6_h13
            have Tok_h39 : Tok h39 := Tok_ag (my_ag.up fh39 is_170 rfl) Tok_h13t18
            have psR : h39 151 7 = (((sN (sm h) (h20_0 151 7)))) := ((my_up_role fh39 is_151 is_170 rfl).trans xp16)
            have npsR : sm h39 = sm h := sm_eq (fun j => my_fr.at gh39 is_153 rfl) (fun j => my_fr.at gh39 is_154 rfl) (fun j => my_fr.at gh39 is_155 rfl)
            have ce40 : h39 151 7 = h13 151 7 := ((my_up_role fh39 is_151 is_170 rfl).trans (rfl : h13 151 7 = h13 151 7))
            have ce41 : h39 151 27 = k151_27 := ((my_up_role fh39 is_151 is_170 rfl).trans ((my_fr.at frh13 is_151 rfl).trans ((my_up_role fh10 is_151 is_168 rfl).trans ((my_up_fld fh6 (by decide)).trans c151_27_20_0))))
            have ce42 : h39 151 8 = (h13 151 8) := ((my_up_role fh39 is_151 is_170 rfl).trans (rfl : h13 151 8 = h13 151 8))
            have a168 : ∀ j : Int, h39 168 j = h10 168 j := fun j => ((my_up_role fh39 is_168 is_170 rfl).trans ((my_fr.at frh13 is_168 rfl).trans (rfl : h10 168 j = h10 168 j)))
            have a169 : ∀ j : Int, h39 169 j = h20_0 169 j := fun j => ((my_up_role fh39 is_169 is_170 rfl).trans ((my_fr.at frh13 is_169 rfl).trans ((my_up_role fh10 is_169 is_168 rfl).trans ((my_up_role fh6 is_169 is_151 rfl).trans (rfl : h20_0 169 j = h20_0 169 j)))))
            have c43 := ((my_up_role fh39 is_151 is_170 rfl).trans (rfl : h13 151 8 = h13 151 8))
            exact w_vret gz_186_87 gm_186 (k0 h39 (gh39) (by omega) (by omega) (by first | (rw [a168, k168]; omega) | (unfold cutM; first | exact Or.inr (Or.inr ⟨by omega, by omega, Or.inr ⟨by omega, Or.inr (Or.inr ⟨by omega, by omega, ⟨by omega, by omega⟩⟩)⟩⟩) | exact Or.inr (Or.inr ⟨by omega, by omega, Or.inr ⟨by omega, Or.inr (Or.inl ⟨by omega, by omega, by omega⟩)⟩⟩) | exact Or.inr (Or.inr ⟨by omega, by omega, Or.inr ⟨by omega, Or.inl ⟨by omega, by omega⟩⟩⟩) | exact Or.inr (Or.inr ⟨by omega, by omega, Or.inl ⟨by omega, by omega, by omega, by omega⟩⟩) | exact Or.inr (Or.inl ⟨by omega, by omega, by omega⟩) | exact Or.inl ⟨by omega, by omega⟩) | omega | (refine ⟨fun q => ?_, fun q => ?_⟩ <;> (rw [a168, k168] at q; omega)) | (refine ⟨fun q => ?_, fun q => ?_, fun q => ?_⟩ <;> first | (exfalso; rw [a168, k168] at q; omega) | (rw [a169]; have z := k9_20_0 (by omega); omega)) | omega) (by first | (rw [a168, k168]; omega) | (unfold cutM; first | exact Or.inr (Or.inr ⟨by omega, by omega, Or.inr ⟨by omega, Or.inr (Or.inr ⟨by omega, by omega, ⟨by omega, by omega⟩⟩)⟩⟩) | exact Or.inr (Or.inr ⟨by omega, by omega, Or.inr ⟨by omega, Or.inr (Or.inl ⟨by omega, by omega, by omega⟩)⟩⟩) | exact Or.inr (Or.inr ⟨by omega, by omega, Or.inr ⟨by omega, Or.inl ⟨by omega, by omega⟩⟩⟩) | exact Or.inr (Or.inr ⟨by omega, by omega, Or.inl ⟨by omega, by omega, by omega, by omega⟩⟩) | exact Or.inr (Or.inl ⟨by omega, by omega, by omega⟩) | exact Or.inl ⟨by omega, by omega⟩) | omega | (refine ⟨fun q => ?_, fun q => ?_⟩ <;> (rw [a168, k168] at q; omega)) | (refine ⟨fun q => ?_, fun q => ?_, fun q => ?_⟩ <;> first | (exfalso; rw [a168, k168] at q; omega) | (rw [a169]; have z := k9_20_0 (by omega); omega)) | omega) Tok_h39 Mq_h39 Wd9_h39)
          ·
            have gh19 : my_fr [(10, 7), (10, 8), (67, -1), (68, -1), (69, -1)] h h19 := my_fr.tr gh10 (frh19.mo rfl)
            have Mq_h19 : Mq h19 wv := Mq_ag (my_ag.fr frh19 rfl) Mq_h10
            have Wd9_h19 : Wd9 h19 := Wd9_ag (my_ag.fr frh19 rfl) Wd9_h10
            have P6_h19 : h19 167 6 = h 167 6 := P6_ag (my_ag.fr frh19 rfl) P6_h10
            show wp l rho (d + 2) 186 86 [(2, 151), (0, x1), (0, p20_0), (0, p20_1)] [(0, v20), (0, x1), (2, 170)] h19 Q
            have ps44 : h10 151 7 = (sN (sm h) (h20_0 151 7)) := ((my_up_role fh10 is_151 is_168 rfl).trans ps7)
            rw [ps44] at xp28
            rw [ps44] at xp29
            rw [ps44] at xp30
            have tE45 : sm h10 = sm h := sm_eq (fun j => my_fr.at gh10 is_153 rfl) (fun j => my_fr.at gh10 is_154 rfl) (fun j => my_fr.at gh10 is_155 rfl)
            rw [tE45] at xp31
            rw [ps44] at xp31
            rw [tE45] at xp32
            rw [ps44] at xp32
            rw [tE45] at xp33
            rw [ps44] at xp33
            have hi46 : 0 ≤ v20 := by omega
            have hi47 : v20 ≤ 199 := by omega
            refine w_iast gz_186_86 is_170 rd_69 (by omega) (by omega) (by omega) (by omega) (fun h48 fh48 => ?_)
            have gh48 : my_fr [(10, 7), (10, 8), (67, -1), (68, -1), (69, -1)] h h48 := my_fr.up gh19 is_170 fh48 rfl
            have Mq_h48 : Mq h48 wv := Mq_u (a := 170) hwv (by decide) (by omega) fh48 Mq_h19
            have Wd9_h48 : Wd9 h48 := Wd9_ag (my_ag.up fh48 is_170 rfl) Wd9_h19
            have P6_h48 : h48 167 6 = h 167 6 := P6_ag (my_ag.up fh48 is_170 rfl) P6_h19
            have Tok_h48 : Tok h48 := Tok_ag (my_ag.up fh48 is_170 rfl) Tok_h19t34
            have psR : h48 151 7 = (sN (sm h) (((sN (sm h) (h20_0 151 7))))) := ((my_up_role fh48 is_151 is_170 rfl).trans xp31)
            have npsR : sm h48 = sm h := sm_eq (fun j => my_fr.at gh48 is_153 rfl) (fun j => my_fr.at gh48 is_154 rfl) (fun j => my_fr.at gh48 is_155 rfl)
            have ce49 : h48 151 7 = (h19 151 7) := ((my_up_role fh48 is_151 is_170 rfl).trans (rfl : h19 151 7 = h19 151 7))
            have ce50 : h48 151 27 = k151_27 := ((my_up_role fh48 is_151 is_170 rfl).trans ((my_fr.at frh19 is_151 rfl).trans ((my_up_role fh10 is_151 is_168 rfl).trans ((my_up_fld fh6 (by decide)).trans c151_27_20_0))))
            have ce51 : h48 151 8 = 0 := ((my_up_role fh48 is_151 is_170 rfl).trans w25)
            have a168 : ∀ j : Int, h48 168 j = h10 168 j := fun j => ((my_up_role fh48 is_168 is_170 rfl).trans ((my_fr.at frh19 is_168 rfl).trans (rfl : h10 168 j = h10 168 j)))
            have a169 : ∀ j : Int, h48 169 j = h20_0 169 j := fun j => ((my_up_role fh48 is_169 is_170 rfl).trans ((my_fr.at frh19 is_169 rfl).trans ((my_up_role fh10 is_169 is_168 rfl).trans ((my_up_role fh6 is_169 is_151 rfl).trans (rfl : h20_0 169 j = h20_0 169 j)))))
            have c52 := ((my_up_role fh48 is_151 is_170 rfl).trans (rfl : h19 151 7 = h19 151 7))
            have c53 := ((my_up_role fh48 is_151 is_170 rfl).trans w25)
            exact w_vret gz_186_87 gm_186 (k1 h48 (gh48) (by omega) (by omega) (by omega) (by first | (rw [a168, k168]; omega) | (unfold cutM; first | exact Or.inr (Or.inr ⟨by omega, by omega, Or.inr ⟨by omega, Or.inr (Or.inr ⟨by omega, by omega, ⟨by omega, by omega⟩⟩)⟩⟩) | exact Or.inr (Or.inr ⟨by omega, by omega, Or.inr ⟨by omega, Or.inr (Or.inl ⟨by omega, by omega, by omega⟩)⟩⟩) | exact Or.inr (Or.inr ⟨by omega, by omega, Or.inr ⟨by omega, Or.inl ⟨by omega, by omega⟩⟩⟩) | exact Or.inr (Or.inr ⟨by omega, by omega, Or.inl ⟨by omega, by omega, by omega, by omega⟩⟩) | exact Or.inr (Or.inl ⟨by omega, by omega, by omega⟩) | exact Or.inl ⟨by omega, by omega⟩) | omega | (refine ⟨fun q => ?_, fun q => ?_⟩ <;> (rw [a168, k168] at q; omega)) | (refine ⟨fun q => ?_, fun q => ?_, fun q => ?_⟩ <;> first | (exfalso; rw [a168, k168] at q; omega) | (rw [a169]; have z := k9_20_0 (by omega); omega)) | omega) (by first | (rw [a168, k168]; omega) | (unfold cutM; first | exact Or.inr (Or.inr ⟨by omega, by omega, Or.inr ⟨by omega, Or.inr (Or.inr ⟨by omega, by omega, ⟨by omega, by omega⟩⟩)⟩⟩) | exact Or.inr (Or.inr ⟨by omega, by omega, Or.inr ⟨by omega, Or.inr (Or.inl ⟨by omega, by omega, by omega⟩)⟩⟩) | exact Or.inr (Or.inr ⟨by omega, by omega, Or.inr ⟨by omega, Or.inl ⟨by omega, by omega⟩⟩⟩) | exact Or.inr (Or.inr ⟨by omega, by omega, Or.inl ⟨by omega, by omega, by omega, by omega⟩⟩) | exact Or.inr (Or.inl ⟨by omega, by omega, by omega⟩) | exact Or.inl ⟨by omega, by omega⟩) | omega | (refine ⟨fun q => ?_, fun q => ?_⟩ <;> (rw [a168, k168] at q; omega)) | (refine ⟨fun q => ?_, fun q => ?_, fun q => ?_⟩ <;> first | (exfalso; rw [a168, k168] at q; omega) | (rw [a169]; have z := k9_20_0 (by omega); omega)) | omega) (by first | (rw [a168, k168]; omega) | (unfold cutM; first | exact Or.inr (Or.inr ⟨by omega, by omega, Or.inr ⟨by omega, Or.inr (Or.inr ⟨by omega, by omega, ⟨by omega, by omega⟩⟩)⟩⟩) | exact Or.inr (Or.inr ⟨by omega, by omega, Or.inr ⟨by omega, Or.inr (Or.inl ⟨by omega, by omega, by omega⟩)⟩⟩) | exact Or.inr (Or.inr ⟨by omega, by omega, Or.inr ⟨by omega, Or.inl ⟨by omega, by omega⟩⟩⟩) | exact Or.inr (Or.inr ⟨by omega, by omega, Or.inl ⟨by omega, by omega, by omega, by omega⟩⟩) | exact Or.inr (Or.inl ⟨by omega, by omega, by omega⟩) | exact Or.inl ⟨by omega, by omega⟩) | omega | (refine ⟨fun q => ?_, fun q => ?_⟩ <;> (rw [a168, k168] at q; omega)) | (refine ⟨fun q => ?_, fun q => ?_, fun q => ?_⟩ <;> first | (exfalso; rw [a168, k168] at q; omega) | (rw [a169]; have z := k9_20_0 (by omega); omega)) | omega) (by first | (rw [a168, k168]; omega) | (unfold cutM; first | exact Or.inr (Or.inr ⟨by omega, by omega, Or.inr ⟨by omega, Or.inr (Or.inr ⟨by omega, by omega, ⟨by omega, by omega⟩⟩)⟩⟩) | exact Or.inr (Or.inr ⟨by omega, by omega, Or.inr ⟨by omega, Or.inr (Or.inl ⟨by omega, by omega, by omega⟩)⟩⟩) | exact Or.inr (Or.inr ⟨by omega, by omega, Or.inr ⟨by omega, Or.inl ⟨by omega, by omega⟩⟩⟩) | exact Or.inr (Or.inr ⟨by omega, by omega, Or.inl ⟨by omega, by omega, by omega, by omega⟩⟩) | exact Or.inr (Or.inl ⟨by omega, by omega, by omega⟩) | exact Or.inl ⟨by omega, by omega⟩) | omega | (refine ⟨fun q => ?_, fun q => ?_⟩ <;> (rw [a168, k168] at q; omega)) | (refine ⟨fun q => ?_, fun q => ?_, fun q => ?_⟩ <;> first | (exfalso; rw [a168, k168] at q; omega) | (rw [a169]; have z := k9_20_0 (by omega); omega)) | omega) (by first | (rw [a168, k168]; omega) | (unfold cutM; first | exact Or.inr (Or.inr ⟨by omega, by omega, Or.inr ⟨by omega, Or.inr (Or.inr ⟨by omega, by omega, ⟨by omega, by omega⟩⟩)⟩⟩) | exact Or.inr (Or.inr ⟨by omega, by omega, Or.inr ⟨by omega, Or.inr (Or.inl ⟨by omega, by omega, by omega⟩)⟩⟩) | exact Or.inr (Or.inr ⟨by omega, by omega, Or.inr ⟨by omega, Or.inl ⟨by omega, by omega⟩⟩⟩) | exact Or.inr (Or.inr ⟨by omega, by omega, Or.inl ⟨by omega, by omega, by omega, by omega⟩⟩) | exact Or.inr (Or.inl ⟨by omega, by omega, by omega⟩) | exact Or.inl ⟨by omega, by omega⟩) | omega | (refine ⟨fun q => ?_, fun q => ?_⟩ <;> (rw [a168, k168] at q; omega)) | (refine ⟨fun q => ?_, fun q => ?_, fun q => ?_⟩ <;> first | (exfalso; rw [a168, k168] at q; omega) | (rw [a169]; have z := k9_20_0 (by omega); omega)) | omega) Tok_h48 Mq_h48 Wd9_h48)
        ·
          refine w_aload_n gz_186_51 rfl ?_
          refine w_iconst gz_186_52 (by decide) ?_
          refine w_inv (k := 0) (as := [(0, 1)]) (r := []) (x := 151) (ls0 := [(2, 151), (0, 1)]) gz_186_53 gm_178 rfl is_151 rd_10 rfl rfl rfl rfl rfl ?_
          refine w_aload_n gz_178_0 rfl ?_
          refine v_getI (j := 8) gz_178_1 rfl is_151 rd_10 rfl (fun v54 ev54 pv54 qv54 => ?_)
          have zv54 := ev54.trans c151_8_20_0
          refine w_ifne (t := 25) gz_178_4 rfl (fun u55 => ?_) (fun u55 => ?_)
          ·
            refine w_vret gz_178_25 gm_178 ?_
            show wp l rho (d + 2) 186 56 [(2, 151), (0, x1), (0, p20_0), (0, p20_1)] [] h20_0 Q
            have psR : h20_0 151 7 = h20_0 151 7 := (rfl : h20_0 151 7 = h20_0 151 7)
            have npsR : sm h20_0 = sm h := sm_eq (fun j => my_fr.at gh_20_0 is_153 rfl) (fun j => my_fr.at gh_20_0 is_154 rfl) (fun j => my_fr.at gh_20_0 is_155 rfl)
            have ce56 : h20_0 151 27 = k151_27 := c151_27_20_0
            have ce57 : h20_0 151 8 = v54 := ev54.symm
            have a168 : ∀ j : Int, h20_0 168 j = h20_0 168 j := fun j => rfl
            have a169 : ∀ j : Int, h20_0 169 j = h20_0 169 j := fun _ => rfl
            have c58 := ev54.symm
            exact w_vret gz_186_56 gm_186 (k0 h20_0 (gh_20_0) (by omega) (by omega) (by first | (rw [a168, k168]; omega) | (unfold cutM; first | exact Or.inr (Or.inr ⟨by omega, by omega, Or.inr ⟨by omega, Or.inr (Or.inr ⟨by omega, by omega, ⟨by omega, by omega⟩⟩)⟩⟩) | exact Or.inr (Or.inr ⟨by omega, by omega, Or.inr ⟨by omega, Or.inr (Or.inl ⟨by omega, by omega, by omega⟩)⟩⟩) | exact Or.inr (Or.inr ⟨by omega, by omega, Or.inr ⟨by omega, Or.inl ⟨by omega, by omega⟩⟩⟩) | exact Or.inr (Or.inr ⟨by omega, by omega, Or.inl ⟨by omega, by omega, by omega, by omega⟩⟩) | exact Or.inr (Or.inl ⟨by omega, by omega, by omega⟩) | exact Or.inl ⟨by omega, by omega⟩) | omega | (refine ⟨fun q => ?_, fun q => ?_⟩ <;> (rw [a168, k168] at q; omega)) | (refine ⟨fun q => ?_, fun q => ?_, fun q => ?_⟩ <;> first | (exfalso; rw [a168, k168] at q; omega) | (rw [a169]; have z := k9_20_0 (by omega); omega)) | omega) (by first | (rw [a168, k168]; omega) | (unfold cutM; first | exact Or.inr (Or.inr ⟨by omega, by omega, Or.inr ⟨by omega, Or.inr (Or.inr ⟨by omega, by omega, ⟨by omega, by omega⟩⟩)⟩⟩) | exact Or.inr (Or.inr ⟨by omega, by omega, Or.inr ⟨by omega, Or.inr (Or.inl ⟨by omega, by omega, by omega⟩)⟩⟩) | exact Or.inr (Or.inr ⟨by omega, by omega, Or.inr ⟨by omega, Or.inl ⟨by omega, by omega⟩⟩⟩) | exact Or.inr (Or.inr ⟨by omega, by omega, Or.inl ⟨by omega, by omega, by omega, by omega⟩⟩) | exact Or.inr (Or.inl ⟨by omega, by omega, by omega⟩) | exact Or.inl ⟨by omega, by omega⟩) | omega | (refine ⟨fun q => ?_, fun q => ?_⟩ <;> (rw [a168, k168] at q; omega)) | (refine ⟨fun q => ?_, fun q => ?_, fun q => ?_⟩ <;> first | (exfalso; rw [a168, k168] at q; omega) | (rw [a169]; have z := k9_20_0 (by omega); omega)) | omega) n_Tok_20_0 n_Mq_20_0 n_Wd9_20_0)
          ·
            refine w_aload_n gz_178_7 rfl ?_
            refine w_iload_n gz_178_8 rfl ?_
            refine w_bipush gz_178_9 (by decide) ?_
            refine w_aload_n gz_178_11 rfl ?_
            refine w_getX (v := 154) gz_178_12 is_151 rd_10 rfl (by decide) rfl ?_
            refine w_aload_n gz_178_15 rfl ?_
            refine v_getI (j := 7) gz_178_16 rfl is_151 rd_10 rfl (fun v60 ev60 pv60 qv60 => ?_)
            refine w_iald gz_178_19 is_154 rd_53 (by omega) (by omega) (fun v61 ev61 pv61 qv61 => ?_)
            have nz62 : v61 = sP (sm h) (h20_0 151 7) := by
              have q := ev61.trans (my_fr.at (j := v60) gh_20_0 is_154 rfl)
              rw [show (v60 : Int) = h20_0 151 7 from by omega] at q
              exact q
            refine w_imul gz_178_20 ⟨by omega, by omega⟩ ?_
            refine w_iadd gz_178_21 ⟨by omega, by omega⟩ ?_
            refine v_putI (j := 8) gz_178_22 rfl is_151 rd_10 rfl (by omega) (by omega) rfl (fun h63 fh63 => ?_)
            have gh63 : my_fr [(10, 7), (10, 8), (67, -1), (68, -1), (69, -1)] h h63 := my_fr.up gh_20_0 is_151 fh63 rfl
            have Tok_h63 : Tok h63 := Tok_ag (my_ag.up fh63 is_151 rfl) n_Tok_20_0
            have Mq_h63 : Mq h63 wv := Mq_ag (my_ag.up fh63 is_151 rfl) n_Mq_20_0
            have Wd9_h63 : Wd9 h63 := Wd9_ag (my_ag.up fh63 is_151 rfl) n_Wd9_20_0
            have P6_h63 : h63 167 6 = h 167 6 := P6_ag (my_ag.up fh63 is_151 rfl) n_P6_20_0
            refine w_vret gz_178_25 gm_178 ?_
            show wp l rho (d + 2) 186 56 [(2, 151), (0, x1), (0, p20_0), (0, p20_1)] [] h63 Q
            have psR : h63 151 7 = h20_0 151 7 := ((my_up_fld fh63 (by decide)).trans (rfl : h20_0 151 7 = h20_0 151 7))
            have npsR : sm h63 = sm h := sm_eq (fun j => my_fr.at gh63 is_153 rfl) (fun j => my_fr.at gh63 is_154 rfl) (fun j => my_fr.at gh63 is_155 rfl)
            have ce64 : h63 151 7 = v60 := ((my_up_fld fh63 (by decide)).trans ev60.symm)
            have ce65 : h63 151 27 = k151_27 := ((my_up_fld fh63 (by decide)).trans c151_27_20_0)
            have ce66 : h63 151 8 = (1 + (16 * v61)) := (my_up_self fh63)
            have a168 : ∀ j : Int, h63 168 j = h63 168 j := fun j => rfl
            have a169 : ∀ j : Int, h63 169 j = h20_0 169 j := fun j => ((my_up_role fh63 is_169 is_151 rfl).trans (rfl : h20_0 169 j = h20_0 169 j))
            have c67 := (my_up_self fh63)
            exact w_vret gz_186_56 gm_186 (k0 h63 (gh63) (by omega) (by omega) (by first | (rw [a168, k168]; omega) | (unfold cutM; first | exact Or.inr (Or.inr ⟨by omega, by omega, Or.inr ⟨by omega, Or.inr (Or.inr ⟨by omega, by omega, ⟨by omega, by omega⟩⟩)⟩⟩) | exact Or.inr (Or.inr ⟨by omega, by omega, Or.inr ⟨by omega, Or.inr (Or.inl ⟨by omega, by omega, by omega⟩)⟩⟩) | exact Or.inr (Or.inr ⟨by omega, by omega, Or.inr ⟨by omega, Or.inl ⟨by omega, by omega⟩⟩⟩) | exact Or.inr (Or.inr ⟨by omega, by omega, Or.inl ⟨by omega, by omega, by omega, by omega⟩⟩) | exact Or.inr (Or.inl ⟨by omega, by omega, by omega⟩) | exact Or.inl ⟨by omega, by omega⟩) | omega | (refine ⟨fun q => ?_, fun q => ?_⟩ <;> (rw [a168, k168] at q; omega)) | (refine ⟨fun q => ?_, fun q => ?_, fun q => ?_⟩ <;> first | (exfalso; rw [a168, k168] at q; omega) | (rw [a169]; have z := k9_20_0 (by omega); omega)) | omega) (by first | (rw [a168, k168]; omega) | (unfold cutM; first | exact Or.inr (Or.inr ⟨by omega, by omega, Or.inr ⟨by omega, Or.inr (Or.inr ⟨by omega, by omega, ⟨by omega, by omega⟩⟩)⟩⟩) | exact Or.inr (Or.inr ⟨by omega, by omega, Or.inr ⟨by omega, Or.inr (Or.inl ⟨by omega, by omega, by omega⟩)⟩⟩) | exact Or.inr (Or.inr ⟨by omega, by omega, Or.inr ⟨by omega, Or.inl ⟨by omega, by omega⟩⟩⟩) | exact Or.inr (Or.inr ⟨by omega, by omega, Or.inl ⟨by omega, by omega, by omega, by omega⟩⟩) | exact Or.inr (Or.inl ⟨by omega, by omega, by omega⟩) | exact Or.inl ⟨by omega, by omega⟩) | omega | (refine ⟨fun q => ?_, fun q => ?_⟩ <;> (rw [a168, k168] at q; omega)) | (refine ⟨fun q => ?_, fun q => ?_, fun q => ?_⟩ <;> first | (exfalso; rw [a168, k168] at q; omega) | (rw [a169]; have z := k9_20_0 (by omega); omega)) | omega) Tok_h63 Mq_h63 Wd9_h63)
      ·
        refine w_aload_n gz_186_25 rfl ?_
        refine w_iconst gz_186_26 (by decide) ?_
        refine w_iload_n gz_186_27 rfl ?_
        refine w_iadd gz_186_28 ⟨by omega, by omega⟩ ?_
        refine w_inv (k := 0) (as := [(0, (4 + p20_1))]) (r := []) (x := 151) (ls0 := [(2, 151), (0, (4 + p20_1))]) gz_186_29 gm_177 rfl is_151 rd_10 rfl rfl rfl rfl rfl (c_Model_isWord9_fq (d := (d + 1)) (x1 := (4 + p20_1)) (by omega) (by omega) n_Wd9_20_0 (fun w68 w69 xp70 => ?_) (fun w71 xp72 => ?_) (fun w73 xp74 xp75 xp76 xp77 => ?_))
        ·
          show wp l rho (d + 2) 186 32 [(2, 151), (0, x1), (0, p20_0), (0, p20_1)] [(0, 0)] h20_0 Q
          have tE78 : sm h20_0 = sm h := sm_eq (fun j => my_fr.at gh_20_0 is_153 rfl) (fun j => my_fr.at gh_20_0 is_154 rfl) (fun j => my_fr.at gh_20_0 is_155 rfl)
          rw [tE78] at xp70
          have wx : h20_0 151 8 = 0 → sW (sm h) (sN (sm h) (h 151 7)) ≠ wm (4 + p20_1) := fun q => by
            have z := xp70 q
            rw [(px_20_0 q).1] at z
            exact z
          have wl := wm_cut (p := p20_1) (by omega) (by omega)
          refine w_ifeq (t := 39) gz_186_32 rfl (fun u79 => ?_) (fun u79 => by exfalso; omega)
          refine w_iload_n gz_186_39 rfl ?_
          refine w_istore_n (ls' := [(2, 151), (0, x1), (0, p20_0), (0, p20_1)]) gz_186_40 gm_186 rfl rfl rfl ?_
          refine w_iinc (ls' := [(2, 151), (0, x1), (0, p20_0), (0, (p20_1 + 1))]) gz_186_41 rfl gm_186 rfl rfl rfl ⟨by omega, by omega⟩ ?_
          refine w_goto (t := 20) gz_186_44 rfl ?_
          have psJ : h20_0 151 7 = h20_0 151 7 := (rfl : h20_0 151 7 = h20_0 151 7)
          have npsJ : sm h20_0 = sm h := sm_eq (fun j => my_fr.at gh_20_0 is_153 rfl) (fun j => my_fr.at gh_20_0 is_154 rfl) (fun j => my_fr.at gh_20_0 is_155 rfl)
          have ce80 : h20_0 151 8 = p20_2 := c151_8_20_0
          have a153 : ∀ j : Int, h20_0 153 j = h20_0 153 j := fun _ => rfl
          have a169 : ∀ j : Int, h20_0 169 j = h20_0 169 j := fun _ => rfl
          exact ih_20_0 (p20_0) ((p20_1 + 1)) (p20_2) h20_0 (gh_20_0) (by omega) (by omega) (by omega) (by omega) (by omega) (by omega) (by omega) (c151_27_20_0.trans (by omega)) (c151_8_20_0.trans (by omega)) n_Tok_20_0 n_Mq_20_0 n_Wd9_20_0 n_P6_20_0 (by first | omega | (intro q; rw [a153]; subst_vars; omega) | (subst_vars; omega) | (intro _; assumption) | omega) (by omega) (by first | (intro q; exfalso; omega) | (intro q; rw [a169, k169]; omega) | (intro q; rw [a169]; exact k9_20_0 (by omega)) | omega) (by first | (intro q; exfalso; omega) | (intro q; omega) | (intro q; have z := px_20_0 (by omega); omega) | omega) (by first | (intro q; exfalso; omega) | (intro q; omega) | (intro q; have z := pf_20_0 (by omega); omega) | omega) (by first | (intro q; exfalso; omega) | (intro q; omega) | (intro q; have z := kd_20_0 (by omega); omega) | (intro q; have z := kd_20_0 (by omega); have z2 := wx (by omega); omega) | omega) (by omega)
        ·
          show wp l rho (d + 2) 186 32 [(2, 151), (0, x1), (0, p20_0), (0, p20_1)] [(0, 0)] h20_0 Q
          have tE81 : sm h20_0 = sm h := sm_eq (fun j => my_fr.at gh_20_0 is_153 rfl) (fun j => my_fr.at gh_20_0 is_154 rfl) (fun j => my_fr.at gh_20_0 is_155 rfl)
          rw [tE81] at xp72
          have wx : h20_0 151 8 = 0 → sW (sm h) (sN (sm h) (h 151 7)) ≠ wm (4 + p20_1) := fun q => by
            have z := xp72 q
            rw [(px_20_0 q).1] at z
            exact z
          have wl := wm_cut (p := p20_1) (by omega) (by omega)
          refine w_ifeq (t := 39) gz_186_32 rfl (fun u82 => ?_) (fun u82 => by exfalso; omega)
          refine w_iload_n gz_186_39 rfl ?_
          refine w_istore_n (ls' := [(2, 151), (0, x1), (0, p20_0), (0, p20_1)]) gz_186_40 gm_186 rfl rfl rfl ?_
          refine w_iinc (ls' := [(2, 151), (0, x1), (0, p20_0), (0, (p20_1 + 1))]) gz_186_41 rfl gm_186 rfl rfl rfl ⟨by omega, by omega⟩ ?_
          refine w_goto (t := 20) gz_186_44 rfl ?_
          have psJ : h20_0 151 7 = h20_0 151 7 := (rfl : h20_0 151 7 = h20_0 151 7)
          have npsJ : sm h20_0 = sm h := sm_eq (fun j => my_fr.at gh_20_0 is_153 rfl) (fun j => my_fr.at gh_20_0 is_154 rfl) (fun j => my_fr.at gh_20_0 is_155 rfl)
          have ce83 : h20_0 151 8 = p20_2 := c151_8_20_0
          have a153 : ∀ j : Int, h20_0 153 j = h20_0 153 j := fun _ => rfl
          have a169 : ∀ j : Int, h20_0 169 j = h20_0 169 j := fun _ => rfl
          exact ih_20_0 (p20_0) ((p20_1 + 1)) (p20_2) h20_0 (gh_20_0) (by omega) (by omega) (by omega) (by omega) (by omega) (by omega) (by omega) (c151_27_20_0.trans (by omega)) (c151_8_20_0.trans (by omega)) n_Tok_20_0 n_Mq_20_0 n_Wd9_20_0 n_P6_20_0 (by first | omega | (intro q; rw [a153]; subst_vars; omega) | (subst_vars; omega) | (intro _; assumption) | omega) (by omega) (by first | (intro q; exfalso; omega) | (intro q; rw [a169, k169]; omega) | (intro q; rw [a169]; exact k9_20_0 (by omega)) | omega) (by first | (intro q; exfalso; omega) | (intro q; omega) | (intro q; have z := px_20_0 (by omega); omega) | omega) (by first | (intro q; exfalso; omega) | (intro q; omega) | (intro q; have z := pf_20_0 (by omega); omega) | omega) (by first | (intro q; exfalso; omega) | (intro q; omega) | (intro q; have z := kd_20_0 (by omega); omega) | (intro q; have z := kd_20_0 (by omega); have z2 := wx (by omega); omega) | omega) (by omega)
        ·
          show wp l rho (d + 2) 186 32 [(2, 151), (0, x1), (0, p20_0), (0, p20_1)] [(0, 1)] h20_0 Q
          have tE84 : sm h20_0 = sm h := sm_eq (fun j => my_fr.at gh_20_0 is_153 rfl) (fun j => my_fr.at gh_20_0 is_154 rfl) (fun j => my_fr.at gh_20_0 is_155 rfl)
          rw [tE84] at xp77
          have wx := xp77
          rw [(px_20_0 (by omega)).1] at wx
          have wl := wm_cut (p := p20_1) (by omega) (by omega)
          refine w_ifeq (t := 39) gz_186_32 rfl (fun u85 => by exfalso; omega) (fun u85 => ?_)
          refine w_iload_n gz_186_35 rfl ?_
          refine w_goto (t := 40) gz_186_36 rfl ?_
          refine w_istore_n (ls' := [(2, 151), (0, x1), (0, p20_1), (0, p20_1)]) gz_186_40 gm_186 rfl rfl rfl ?_
          refine w_iinc (ls' := [(2, 151), (0, x1), (0, p20_1), (0, (p20_1 + 1))]) gz_186_41 rfl gm_186 rfl rfl rfl ⟨by omega, by omega⟩ ?_
          refine w_goto (t := 20) gz_186_44 rfl ?_
          have psJ : h20_0 151 7 = h20_0 151 7 := (rfl : h20_0 151 7 = h20_0 151 7)
          have npsJ : sm h20_0 = sm h := sm_eq (fun j => my_fr.at gh_20_0 is_153 rfl) (fun j => my_fr.at gh_20_0 is_154 rfl) (fun j => my_fr.at gh_20_0 is_155 rfl)
          have ce86 : h20_0 151 8 = p20_2 := c151_8_20_0
          have a153 : ∀ j : Int, h20_0 153 j = h20_0 153 j := fun _ => rfl
          have a169 : ∀ j : Int, h20_0 169 j = h20_0 169 j := fun _ => rfl
          exact ih_20_0 (p20_1) ((p20_1 + 1)) (p20_2) h20_0 (gh_20_0) (by omega) (by omega) (by omega) (by omega) (by omega) (by omega) (by omega) (c151_27_20_0.trans (by omega)) (c151_8_20_0.trans (by omega)) n_Tok_20_0 n_Mq_20_0 n_Wd9_20_0 n_P6_20_0 (by first | omega | (intro q; rw [a153]; subst_vars; omega) | (subst_vars; omega) | (intro _; assumption) | omega) (by omega) (by first | (intro q; exfalso; omega) | (intro q; rw [a169, k169]; omega) | (intro q; rw [a169]; exact k9_20_0 (by omega)) | omega) (by first | (intro q; exfalso; omega) | (intro q; omega) | (intro q; have z := px_20_0 (by omega); omega) | omega) (by first | (intro q; exfalso; omega) | (intro q; omega) | (intro q; have z := pf_20_0 (by omega); omega) | omega) (by first | (intro q; exfalso; omega) | (intro q; omega) | (intro q; have z := kd_20_0 (by omega); omega) | (intro q; have z := kd_20_0 (by omega); have z2 := wx (by omega); omega) | omega) (by omega)
  refine w_aload_n gz_186_0 rfl ?_
  refine w_getX (v := 169) gz_186_1 is_151 rd_10 rfl (by decide) rfl ?_
  refine w_iload_n gz_186_4 rfl ?_
  refine w_aload_n gz_186_5 rfl ?_
  refine w_aload_n gz_186_6 rfl ?_
  refine v_getI (j := 27) gz_186_7 rfl is_151 rd_10 rfl (fun v88 ev88 pv88 qv88 => ?_)
  have zv88 := ev88.trans ek151_27.symm
  refine w_iconst gz_186_10 (by decide) ?_
  refine w_isub gz_186_11 ⟨by omega, by omega⟩ ?_
  refine w_inv (k := 0) (as := [(0, (v88 - 1))]) (r := [(0, x1), (2, 169)]) (x := 151) (ls0 := [(2, 151), (0, (v88 - 1))]) gz_186_12 gm_187 rfl is_151 rd_10 rfl rfl rfl rfl rfl (c_Model_takeNumber9_f0 (d := d) (x1 := (v88 - 1)) (by omega) (by omega) (cf.trans (by omega)) n_Tok (fun h89 frh89 w90 w91 xp92 xp93 Tok_h89t94 => ?_) (fun h95 v96 frh95 w97 w98 w99 w100 w101 xp102 xp103 xp104 xp105 xp106 xp107 xp108 xp109 Tok_h95t110 => ?_))
  ·
    have gh89 : my_fr [(10, 7), (10, 8), (67, -1), (68, -1), (69, -1)] h h89 := my_fr.tr my_fr.rf (frh89.mo rfl)
    have Mq_h89 : Mq h89 wv := Mq_ag (my_ag.fr frh89 rfl) n_Mq
    have Wd9_h89 : Wd9 h89 := Wd9_ag (my_ag.fr frh89 rfl) n_Wd9
    have P6_h89 : h89 167 6 = h 167 6 := P6_ag (my_ag.fr frh89 rfl) (rfl)
    show wp l rho (d + 2) 186 15 [(2, 151), (0, x1), (9, 0), (9, 0)] [(0, 0), (0, x1), (2, 169)] h89 Q
    have hi111 : 0 ≤ 0 := by omega
    have hi112 : 0 ≤ 7 := by omega
    refine w_iast gz_186_15 is_169 rd_68 (by omega) (by omega) (by omega) (by omega) (fun h113 fh113 => ?_)
    have gh113 : my_fr [(10, 7), (10, 8), (67, -1), (68, -1), (69, -1)] h h113 := my_fr.up gh89 is_169 fh113 rfl
    have Mq_h113 : Mq h113 wv := Mq_u (a := 169) hwv (by decide) (by omega) fh113 Mq_h89
    have Wd9_h113 : Wd9 h113 := Wd9_ag (my_ag.up fh113 is_169 rfl) Wd9_h89
    have P6_h113 : h113 167 6 = h 167 6 := P6_ag (my_ag.up fh113 is_169 rfl) P6_h89
    have Tok_h113 : Tok h113 := Tok_ag (my_ag.up fh113 is_169 rfl) Tok_h89t94
    have k169 := my_up_self fh113
    refine w_iconst gz_186_16 (by decide) ?_
    refine w_istore_n (ls' := [(2, 151), (0, x1), (0, (-1)), (9, 0)]) gz_186_17 gm_186 rfl rfl rfl ?_
    refine w_iconst gz_186_18 (by decide) ?_
    refine w_istore_n (ls' := [(2, 151), (0, x1), (0, (-1)), (0, 0)]) gz_186_19 gm_186 rfl rfl rfl ?_
    have psJ : h113 151 7 = (h 151 7) := ((my_up_role fh113 is_151 is_169 rfl).trans xp92)
    have npsJ : sm h113 = sm h := sm_eq (fun j => my_fr.at gh113 is_153 rfl) (fun j => my_fr.at gh113 is_154 rfl) (fun j => my_fr.at gh113 is_155 rfl)
    have ce114 : h113 151 7 = h89 151 7 := ((my_up_role fh113 is_151 is_169 rfl).trans (rfl : h89 151 7 = h89 151 7))
    have ce115 : h113 151 8 = (h89 151 8) := ((my_up_role fh113 is_151 is_169 rfl).trans (rfl : h89 151 8 = h89 151 8))
    have a153 : ∀ j : Int, h113 153 j = h 153 j := fun j => ((my_up_role fh113 is_153 is_169 rfl).trans ((my_fr.at frh89 is_153 rfl).trans (rfl : h 153 j = h 153 j)))
    have a169 : ∀ j : Int, h113 169 j = h113 169 j := fun j => rfl
    exact J20_0 4 ((-1)) (0) ((h89 151 8)) h113 (gh113) (by omega) (by omega) (by omega) (by omega) (by omega) (by omega) (by omega) (((my_up_role fh113 is_151 is_169 rfl).trans ((my_fr.at frh89 is_151 rfl).trans ev88.symm)).trans (by omega)) (((my_up_role fh113 is_151 is_169 rfl).trans (rfl : h89 151 8 = h89 151 8)).trans (by omega)) Tok_h113 Mq_h113 Wd9_h113 P6_h113 (by first | omega | (intro q; rw [a153]; subst_vars; omega) | (subst_vars; omega) | (intro _; assumption) | omega) (by omega) (by first | (intro q; exfalso; omega) | (intro q; rw [a169, k169]; omega) | (intro q; rw [a169]; exact k9_20_0 (by omega)) | omega) (by first | (intro q; exfalso; omega) | (intro q; omega) | (intro q; have z := px_20_0 (by omega); omega) | omega) (by first | (intro q; exfalso; omega) | (intro q; omega) | (intro q; have z := pf_20_0 (by omega); omega) | omega) (by first | (intro q; exfalso; omega) | (intro q; omega) | (intro q; have z := kd_20_0 (by omega); omega) | (intro q; have z := kd_20_0 (by omega); have z2 := wx (by omega); omega) | omega) (by omega)
  ·
    have gh95 : my_fr [(10, 7), (10, 8), (67, -1), (68, -1), (69, -1)] h h95 := my_fr.tr my_fr.rf (frh95.mo rfl)
    have Mq_h95 : Mq h95 wv := Mq_ag (my_ag.fr frh95 rfl) n_Mq
    have Wd9_h95 : Wd9 h95 := Wd9_ag (my_ag.fr frh95 rfl) n_Wd9
    have P6_h95 : h95 167 6 = h 167 6 := P6_ag (my_ag.fr frh95 rfl) (rfl)
    show wp l rho (d + 2) 186 15 [(2, 151), (0, x1), (9, 0), (9, 0)] [(0, v96), (0, x1), (2, 169)] h95 Q
    have hi116 : 0 ≤ v96 := by omega
    have hi117 : v96 ≤ 7 := by omega
    refine w_iast gz_186_15 is_169 rd_68 (by omega) (by omega) (by omega) (by omega) (fun h118 fh118 => ?_)
    have gh118 : my_fr [(10, 7), (10, 8), (67, -1), (68, -1), (69, -1)] h h118 := my_fr.up gh95 is_169 fh118 rfl
    have Mq_h118 : Mq h118 wv := Mq_u (a := 169) hwv (by decide) (by omega) fh118 Mq_h95
    have Wd9_h118 : Wd9 h118 := Wd9_ag (my_ag.up fh118 is_169 rfl) Wd9_h95
    have P6_h118 : h118 167 6 = h 167 6 := P6_ag (my_ag.up fh118 is_169 rfl) P6_h95
    have Tok_h118 : Tok h118 := Tok_ag (my_ag.up fh118 is_169 rfl) Tok_h95t110
    have k169 := my_up_self fh118
    refine w_iconst gz_186_16 (by decide) ?_
    refine w_istore_n (ls' := [(2, 151), (0, x1), (0, (-1)), (9, 0)]) gz_186_17 gm_186 rfl rfl rfl ?_
    refine w_iconst gz_186_18 (by decide) ?_
    refine w_istore_n (ls' := [(2, 151), (0, x1), (0, (-1)), (0, 0)]) gz_186_19 gm_186 rfl rfl rfl ?_
    have psJ : h118 151 7 = (sN (sm h) (h 151 7)) := ((my_up_role fh118 is_151 is_169 rfl).trans xp107)
    have npsJ : sm h118 = sm h := sm_eq (fun j => my_fr.at gh118 is_153 rfl) (fun j => my_fr.at gh118 is_154 rfl) (fun j => my_fr.at gh118 is_155 rfl)
    have ce119 : h118 151 7 = (h95 151 7) := ((my_up_role fh118 is_151 is_169 rfl).trans (rfl : h95 151 7 = h95 151 7))
    have ce120 : h118 151 8 = 0 := ((my_up_role fh118 is_151 is_169 rfl).trans w101)
    have a153 : ∀ j : Int, h118 153 j = h 153 j := fun j => ((my_up_role fh118 is_153 is_169 rfl).trans ((my_fr.at frh95 is_153 rfl).trans (rfl : h 153 j = h 153 j)))
    have a169 : ∀ j : Int, h118 169 j = h118 169 j := fun j => rfl
    exact J20_0 4 ((-1)) (0) (0) h118 (gh118) (by omega) (by omega) (by omega) (by omega) (by omega) (by omega) (by omega) (((my_up_role fh118 is_151 is_169 rfl).trans ((my_fr.at frh95 is_151 rfl).trans ev88.symm)).trans (by omega)) (((my_up_role fh118 is_151 is_169 rfl).trans w101).trans (by omega)) Tok_h118 Mq_h118 Wd9_h118 P6_h118 (by first | omega | (intro q; rw [a153]; subst_vars; omega) | (subst_vars; omega) | (intro _; assumption) | omega) (by omega) (by first | (intro q; exfalso; omega) | (intro q; rw [a169, k169]; omega) | (intro q; rw [a169]; exact k9_20_0 (by omega)) | omega) (by first | (intro q; exfalso; omega) | (intro q; omega) | (intro q; have z := px_20_0 (by omega); omega) | omega) (by first | (intro q; exfalso; omega) | (intro q; omega) | (intro q; have z := pf_20_0 (by omega); omega) | omega) (by first | (intro q; exfalso; omega) | (intro q; omega) | (intro q; have z := kd_20_0 (by omega); omega) | (intro q; have z := kd_20_0 (by omega); have z2 := wx (by omega); omega) | omega) (by omega)
end MYNReader_nextToken9_f0
