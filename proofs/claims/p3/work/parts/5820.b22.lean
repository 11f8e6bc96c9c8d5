/-! contracts, printed by wip/gen/gy.py -/
section MYG22
theorem c_Reader_nextToken9_f0 {l : Launch} {rho : Nat → Int32} {d : Nat} {h : my_H} {Q : my_H → my_V → Prop} (cf : h 82 9 = 0) (n_Al : Al h) (k0 : ∀ (h' : my_H), my_fr [(5, 5), (5, 6), (5, 7), (5, 8)] h h' → 0 ≤ h' 82 6 → h' 82 6 ≤ 4 → h' 82 9 = 0 → (Cu h → h' 82 7 = sN (cs h) (h 82 7)) → h' 82 7 = tS (tp_of h) (h 82 5) → Al h' → Cu h' → Q h' (9, 0)) : wp l rho (d + 1) 37 0 [(2, 82), (9, 0), (9, 0)] [] h Q := by
  refine v_know (x := 82) (j := 4) (b := 4) rfl is_82 rd_5 rfl (fun k82_4 ek82_4 pk82_4 qk82_4 => ?_)
  refine v_know (x := 82) (j := 5) (b := 5) rfl is_82 rd_5 rfl (fun k82_5 ek82_5 pk82_5 qk82_5 => ?_)
  have al0 : h 82 5 ≤ h 82 4 := n_Al
  have J181_0 : ∀ (n : Nat) (p181_0 p181_1 p181_2 p181_3 p181_4 p181_5 : Int) (h181_0 : my_H), my_fr [(5, 5), (5, 6), (5, 7), (5, 8)] h h181_0 → 1 ≤ p181_0 → p181_0 ≤ 8 → 1 ≤ p181_1 → p181_1 ≤ 1000 → 1 ≤ k82_4 → 0 ≤ p181_4 → p181_4 ≤ 999 → 1 ≤ p181_3 → p181_3 ≤ 4 → 0 ≤ p181_5 → p181_5 ≤ 999 → 0 ≤ p181_2 → p181_2 ≤ 1000 → k82_5 ≤ 999 → p181_4 ≤ (p181_1 - 1) → p181_4 ≤ p181_2 → p181_2 ≤ p181_1 → k82_5 ≤ (p181_1 - 1) → k82_5 ≤ p181_4 → k82_5 ≤ p181_2 → h181_0 82 4 = k82_4 → h181_0 82 5 = p181_2 → h181_0 82 6 = p181_3 → h181_0 82 7 = p181_4 → h181_0 82 8 = p181_5 → h181_0 82 9 = 0 → (h181_0 82 6 = 2 → p181_0 = 3) → (h181_0 82 6 = 2 → ∀ k : Int, h181_0 82 7 ≤ k → k < p181_1 → 48 ≤ h181_0 92 k ∧ h181_0 92 k ≤ 57) → h181_0 82 7 ≤ h181_0 82 5 → ((h181_0 82 5 = h181_0 82 7 → h181_0 82 8 = 0) ∧ (h181_0 82 5 = h181_0 82 7 + 1 → h181_0 82 8 ≤ 9) ∧ (h181_0 82 5 = h181_0 82 7 + 2 → h181_0 82 8 ≤ 99) ∧ 0 ≤ h181_0 82 8) → tk_A (h 92) (h 82 5) (h181_0 82 7) p181_1 (h181_0 82 6) → tk_N (h 92) k82_4 (h181_0 82 7) p181_1 (h181_0 82 6) → ((h181_0 82 6 = 1 → p181_0 = 8) ∧ (h181_0 82 6 = 2 → p181_0 = 3) ∧ (3 ≤ h181_0 82 6 → p181_0 = 1)) → tk_D (h 92) (h181_0 82 7) (h181_0 82 5) (h181_0 82 6) (h181_0 82 8) → p181_1 ≤ k82_4 → 1001 - h181_0 82 5 ≤ (n : Int) → wp l rho (d + 1) 37 181 [(2, 82), (0, p181_0), (0, p181_1)] [] h181_0 Q := by
    intro n
    induction n with
    | zero => intro p181_0 p181_1 p181_2 p181_3 p181_4 p181_5 h181_0 gh_181_0 q0_181_0 q1_181_0 q2_181_0 q3_181_0 q4_181_0 q5_181_0 q6_181_0 q7_181_0 q8_181_0 q9_181_0 q10_181_0 q11_181_0 q12_181_0 q13_181_0 q14_181_0 q15_181_0 q16_181_0 q17_181_0 q18_181_0 q19_181_0 c82_4_181_0 c82_5_181_0 c82_6_181_0 c82_7_181_0 c82_8_181_0 c82_9_181_0 tk_181_0 dg_181_0 se_181_0 nb_181_0 A_181_0 E_181_0 mo_181_0 D_181_0 lq_181_0 hm_181_0; exfalso; omega
    | succ n ih_181_0 =>
      intro p181_0 p181_1 p181_2 p181_3 p181_4 p181_5 h181_0 gh_181_0 q0_181_0 q1_181_0 q2_181_0 q3_181_0 q4_181_0 q5_181_0 q6_181_0 q7_181_0 q8_181_0 q9_181_0 q10_181_0 q11_181_0 q12_181_0 q13_181_0 q14_181_0 q15_181_0 q16_181_0 q17_181_0 q18_181_0 q19_181_0 c82_4_181_0 c82_5_181_0 c82_6_181_0 c82_7_181_0 c82_8_181_0 c82_9_181_0 tk_181_0 dg_181_0 se_181_0 nb_181_0 A_181_0 E_181_0 mo_181_0 D_181_0 lq_181_0 hm_181_0
      refine w_aload_n gz_37_181 rfl ?_
      refine v_getI (j := 5) gz_37_182 rfl is_82 rd_5 rfl (fun v1 ev1 pv1 qv1 => ?_)
      have zv1 := ev1.trans c82_5_181_0
      refine w_iload_n gz_37_185 rfl ?_
      refine w_icge (t := 247) gz_37_186 rfl (fun u2 => ?_) (fun u2 => ?_)
      ·
        have e2r := E_181_0.2
        refine w_iload_n gz_37_247 rfl ?_
        refine w_aload_n gz_37_248 rfl ?_
        refine v_getI (j := 7) gz_37_249 rfl is_82 rd_5 rfl (fun v3 ev3 pv3 qv3 => ?_)
        have zv3 := ev3.trans c82_7_181_0
        refine w_isub gz_37_252 ⟨by omega, by omega⟩ ?_
        refine w_iload_n gz_37_253 rfl ?_
        refine w_icle (t := 262) gz_37_254 rfl (fun u4 => ?_) (fun u4 => ?_)
        ·
          have ce5 : h181_0 82 4 = k82_4 := c82_4_181_0
          have ce6 : h181_0 82 5 = v1 := ev1.symm
          have ce7 : h181_0 82 6 = p181_3 := c82_6_181_0
          have ce8 : h181_0 82 7 = v3 := ev3.symm
          have ce9 : h181_0 82 8 = p181_5 := c82_8_181_0
          have TT : tk_T (h 92) (h 82 4) (h 82 5) (h181_0 82 7) (h181_0 82 5) (h181_0 82 6) (h181_0 82 8) := by first | exact tk_end b52 (by omega) (by omega) (by omega) (by omega) (by omega) | exact tk_fin A_181_0 E_181_0 D_181_0 (by omega) (by omega) (by omega) (by omega) (by omega) (by omega) (by omega) (by omega) (by omega)
          have Al_h181_0t10 : Al h181_0 := by unfold Al; omega
          have Cu_h181_0t11 : Cu h181_0 := Cu_T TT (fun j => my_fr.at gh_181_0 is_92 rfl) (my_fr.at gh_181_0 is_82 rfl)
          have c12 := c82_6_181_0
          have c13 := c82_9_181_0
          exact w_vret gz_37_262 gm_37 (k0 h181_0 (gh_181_0) (by omega) (by omega) (by omega) (by first | exact T_s TT | exact T_ns (T_s TT) | omega) (by first | exact T_s TT | exact T_ns (T_s TT) | omega) Al_h181_0t10 Cu_h181_0t11)
        ·
          refine w_aload_n gz_37_257 rfl ?_
          refine w_iconst gz_37_258 (by decide) ?_
          refine v_putI (j := 6) gz_37_259 rfl is_82 rd_5 rfl (by omega) (by omega) rfl (fun h14 fh14 => ?_)
          have gh14 : my_fr [(5, 5), (5, 6), (5, 7), (5, 8)] h h14 := my_fr.up gh_181_0 is_82 fh14 rfl
          have ce15 : h14 82 4 = k82_4 := ((my_up_fld fh14 (by decide)).trans c82_4_181_0)
          have ce16 : h14 82 5 = v1 := ((my_up_fld fh14 (by decide)).trans ev1.symm)
          have ce17 : h14 82 6 = 4 := (my_up_self fh14)
          have ce18 : h14 82 7 = v3 := ((my_up_fld fh14 (by decide)).trans ev3.symm)
          have ce19 : h14 82 8 = p181_5 := ((my_up_fld fh14 (by decide)).trans c82_8_181_0)
          have TT : tk_T (h 92) (h 82 4) (h 82 5) (h14 82 7) (h14 82 5) (h14 82 6) (h14 82 8) := by first | exact tk_end b52 (by omega) (by omega) (by omega) (by omega) (by omega) | exact tk_fin A_181_0 E_181_0 D_181_0 (by omega) (by omega) (by omega) (by omega) (by omega) (by omega) (by omega) (by omega) (by omega)
          have Al_h14t20 : Al h14 := by unfold Al; omega
          have Cu_h14t21 : Cu h14 := Cu_T TT (fun j => my_fr.at gh14 is_92 rfl) (my_fr.at gh14 is_82 rfl)
          have c22 := (my_up_self fh14)
          have c23 := ((my_up_fld fh14 (by decide)).trans c82_9_181_0)
          exact w_vret gz_37_262 gm_37 (k0 h14 (gh14) (by omega) (by omega) (by omega) (by first | exact T_s TT | exact T_ns (T_s TT) | omega) (by first | exact T_s TT | exact T_ns (T_s TT) | omega) Al_h14t20 Cu_h14t21)
      ·
        refine w_aload_n gz_37_189 rfl ?_
        refine v_getI (j := 6) gz_37_190 rfl is_82 rd_5 rfl (fun v24 ev24 pv24 qv24 => ?_)
        have zv24 := ev24.trans c82_6_181_0
        refine w_iconst gz_37_193 (by decide) ?_
        refine w_icne (t := 234) gz_37_194 rfl (fun u25 => ?_) (fun u25 => ?_)
        ·
          refine w_aload_n gz_37_234 rfl ?_
          refine w_dup gz_37_235 rfl ?_
          refine v_getI (j := 5) gz_37_236 rfl is_82 rd_5 rfl (fun v26 ev26 pv26 qv26 => ?_)
          have zv26 := ev26.trans ev1.symm
          refine w_iconst gz_37_239 (by decide) ?_
          refine w_iadd gz_37_240 ⟨by omega, by omega⟩ ?_
          refine v_putI (j := 5) gz_37_241 rfl is_82 rd_5 rfl (by omega) (by omega) rfl (fun h27 fh27 => ?_)
          have gh27 : my_fr [(5, 5), (5, 6), (5, 7), (5, 8)] h h27 := my_fr.up gh_181_0 is_82 fh27 rfl
          refine w_goto (t := 181) gz_37_244 rfl ?_
          have ce28 : h27 82 5 = (v26 + 1) := (my_up_self fh27)
          have ce29 : h27 82 6 = v24 := ((my_up_fld fh27 (by decide)).trans ev24.symm)
          have ce30 : h27 82 7 = p181_4 := ((my_up_fld fh27 (by decide)).trans c82_7_181_0)
          have ce31 : h27 82 8 = p181_5 := ((my_up_fld fh27 (by decide)).trans c82_8_181_0)
          have sg : ∀ j : Int, h27 92 j = h181_0 92 j := fun j => ((my_up_role fh27 is_92 is_82 rfl).trans (rfl : h181_0 92 j = h181_0 92 j))
          exact ih_181_0 (p181_0) (p181_1) ((v26 + 1)) (v24) (p181_4) (p181_5) h27 (gh27) (by omega) (by omega) (by omega) (by omega) (by omega) (by omega) (by omega) (by omega) (by omega) (by omega) (by omega) (by omega) (by omega) (by omega) (by omega) (by omega) (by omega) (by omega) (by omega) (by omega) (((my_up_fld fh27 (by decide)).trans c82_4_181_0).trans (by omega)) ((my_up_self fh27).trans (by omega)) (((my_up_fld fh27 (by decide)).trans ev24.symm).trans (by omega)) (((my_up_fld fh27 (by decide)).trans c82_7_181_0).trans (by omega)) (((my_up_fld fh27 (by decide)).trans c82_8_181_0).trans (by omega)) (((my_up_fld fh27 (by decide)).trans c82_9_181_0).trans (by omega)) (by omega) (by first | (intro t k a b; rw [sg]; exact dg_181_0 (by omega) k (by omega) (by omega)) | (intro t k a b; rw [sg]; exact dg_138_0 (by omega) k (by omega) (by omega)) | (intro t k a b; rw [sg, ← sg0, sgi k (by omega)]; omega) | (intro t; omega) | (intro t k a b; rw [sg]; rcases (by omega : k = p181_1 ∨ k < p181_1) with q | q <;> first | exact dg_138_0 (by omega) k (by omega) (by omega) | (subst q; omega)) | omega) (by first | assumption | omega | (subst_vars; omega) | omega) (by first | assumption | omega | (subst_vars; omega) | omega) (by first | exact tk_A_e A_181_0 (by omega) (by omega) (by omega) | exact tk_A_s A_138_0 (by omega) (by omega) (by omega) (by omega) | exact tk_A_e A_138_0 (by omega) (by omega) (by omega) | exact tk_A_0 b52 (n52 (by omega)).1 (n52 (by omega)).2 k88 (by omega) (by omega) (by omega) | omega) (by first | exact tk_N_e E_181_0 (by omega) (by omega) (by omega) | exact tk_N_e e173 (by omega) (by omega) (by omega) | omega) (by omega) (by first | exact tk_D_0 (by omega) (by omega) | exact tk_D_n (by omega) | exact tk_D_3 D_181_0 (by omega) (by omega) (by omega) (by omega) (by omega) | exact tk_D_s D_181_0 (by omega) (by omega) c227 (by omega) (by omega) (by omega) (by omega) (by omega) | omega) (by omega) (by omega)
        ·
          refine w_aload_n gz_37_197 rfl ?_
          refine v_getI (j := 5) gz_37_198 rfl is_82 rd_5 rfl (fun v32 ev32 pv32 qv32 => ?_)
          have zv32 := ev32.trans ev1.symm
          refine w_aload_n gz_37_201 rfl ?_
          refine v_getI (j := 7) gz_37_202 rfl is_82 rd_5 rfl (fun v33 ev33 pv33 qv33 => ?_)
          have zv33 := ev33.trans c82_7_181_0
          refine w_isub gz_37_205 ⟨by omega, by omega⟩ ?_
          refine w_iload_n gz_37_206 rfl ?_
          refine w_icge (t := 234) gz_37_207 rfl (fun u34 => ?_) (fun u34 => ?_)
          ·
            refine w_aload_n gz_37_234 rfl ?_
            refine w_dup gz_37_235 rfl ?_
            refine v_getI (j := 5) gz_37_236 rfl is_82 rd_5 rfl (fun v35 ev35 pv35 qv35 => ?_)
            have zv35 := ev35.trans ev32.symm
            refine w_iconst gz_37_239 (by decide) ?_
            refine w_iadd gz_37_240 ⟨by omega, by omega⟩ ?_
            refine v_putI (j := 5) gz_37_241 rfl is_82 rd_5 rfl (by omega) (by omega) rfl (fun h36 fh36 => ?_)
            have gh36 : my_fr [(5, 5), (5, 6), (5, 7), (5, 8)] h h36 := my_fr.up gh_181_0 is_82 fh36 rfl
            refine w_goto (t := 181) gz_37_244 rfl ?_
            have ce37 : h36 82 5 = (v35 + 1) := (my_up_self fh36)
            have ce38 : h36 82 6 = v24 := ((my_up_fld fh36 (by decide)).trans ev24.symm)
            have ce39 : h36 82 7 = v33 := ((my_up_fld fh36 (by decide)).trans ev33.symm)
            have ce40 : h36 82 8 = p181_5 := ((my_up_fld fh36 (by decide)).trans c82_8_181_0)
            have sg : ∀ j : Int, h36 92 j = h181_0 92 j := fun j => ((my_up_role fh36 is_92 is_82 rfl).trans (rfl : h181_0 92 j = h181_0 92 j))
            exact ih_181_0 (p181_0) (p181_1) ((v35 + 1)) (v24) (v33) (p181_5) h36 (gh36) (by omega) (by omega) (by omega) (by omega) (by omega) (by omega) (by omega) (by omega) (by omega) (by omega) (by omega) (by omega) (by omega) (by omega) (by omega) (by omega) (by omega) (by omega) (by omega) (by omega) (((my_up_fld fh36 (by decide)).trans c82_4_181_0).trans (by omega)) ((my_up_self fh36).trans (by omega)) (((my_up_fld fh36 (by decide)).trans ev24.symm).trans (by omega)) (((my_up_fld fh36 (by decide)).trans ev33.symm).trans (by omega)) (((my_up_fld fh36 (by decide)).trans c82_8_181_0).trans (by omega)) (((my_up_fld fh36 (by decide)).trans c82_9_181_0).trans (by omega)) (by omega) (by first | (intro t k a b; rw [sg]; exact dg_181_0 (by omega) k (by omega) (by omega)) | (intro t k a b; rw [sg]; exact dg_138_0 (by omega) k (by omega) (by omega)) | (intro t k a b; rw [sg, ← sg0, sgi k (by omega)]; omega) | (intro t; omega) | (intro t k a b; rw [sg]; rcases (by omega : k = p181_1 ∨ k < p181_1) with q | q <;> first | exact dg_138_0 (by omega) k (by omega) (by omega) | (subst q; omega)) | omega) (by first | assumption | omega | (subst_vars; omega) | omega) (by first | assumption | omega | (subst_vars; omega) | omega) (by first | exact tk_A_e A_181_0 (by omega) (by omega) (by omega) | exact tk_A_s A_138_0 (by omega) (by omega) (by omega) (by omega) | exact tk_A_e A_138_0 (by omega) (by omega) (by omega) | exact tk_A_0 b52 (n52 (by omega)).1 (n52 (by omega)).2 k88 (by omega) (by omega) (by omega) | omega) (by first | exact tk_N_e E_181_0 (by omega) (by omega) (by omega) | exact tk_N_e e173 (by omega) (by omega) (by omega) | omega) (by omega) (by first | exact tk_D_0 (by omega) (by omega) | exact tk_D_n (by omega) | exact tk_D_3 D_181_0 (by omega) (by omega) (by omega) (by omega) (by omega) | exact tk_D_s D_181_0 (by omega) (by omega) c227 (by omega) (by omega) (by omega) (by omega) (by omega) | omega) (by omega) (by omega)
          ·
            refine w_aload_n gz_37_210 rfl ?_
            refine w_bipush gz_37_211 (by decide) ?_
            refine w_aload_n gz_37_213 rfl ?_
            refine v_getI (j := 8) gz_37_214 rfl is_82 rd_5 rfl (fun v41 ev41 pv41 qv41 => ?_)
            have zv41 := ev41.trans c82_8_181_0
            refine w_imul gz_37_217 ⟨by omega, by omega⟩ ?_
            refine w_aload_n gz_37_218 rfl ?_
            refine w_getX (v := 92) gz_37_219 is_82 rd_5 rfl (by decide) rfl ?_
            refine w_aload_n gz_37_222 rfl ?_
            refine v_getI (j := 5) gz_37_223 rfl is_82 rd_5 rfl (fun v43 ev43 pv43 qv43 => ?_)
            have zv43 := ev43.trans ev32.symm
            have dd := dg_181_0 (by omega) v43 (by omega) (by omega)
            refine w_yald gz_37_226 is_92 rd_40 (by omega) (by omega) (fun v44 ev44 pv44 qv44 => ?_)
            have c227 : v44 = h 92 v43 := by
              have z : h181_0 92 v43 = h 92 v43 := by first | rfl | exact my_fr.at gh_181_0 is_92 rfl
              omega
            refine w_iadd gz_37_227 ⟨by omega, by omega⟩ ?_
            refine w_bipush gz_37_228 (by decide) ?_
            refine w_isub gz_37_230 ⟨by omega, by omega⟩ ?_
            have hi45 : 0 ≤ (((10 * v41) + v44) - 48) := by omega
            have hi46 : (((10 * v41) + v44) - 48) ≤ 999 := by omega
            refine v_putI (j := 8) gz_37_231 rfl is_82 rd_5 rfl (by omega) (by omega) rfl (fun h47 fh47 => ?_)
            have gh47 : my_fr [(5, 5), (5, 6), (5, 7), (5, 8)] h h47 := my_fr.up gh_181_0 is_82 fh47 rfl
            refine w_aload_n gz_37_234 rfl ?_
            refine w_dup gz_37_235 rfl ?_
            refine v_getI (j := 5) gz_37_236 rfl is_82 rd_5 rfl (fun v48 ev48 pv48 qv48 => ?_)
            have zv48 := ev48.trans ((my_up_fld fh47 (by decide)).trans ev43.symm)
            refine w_iconst gz_37_239 (by decide) ?_
            refine w_iadd gz_37_240 ⟨by omega, by omega⟩ ?_
            refine v_putI (j := 5) gz_37_241 rfl is_82 rd_5 rfl (by omega) (by omega) rfl (fun h49 fh49 => ?_)
            have gh49 : my_fr [(5, 5), (5, 6), (5, 7), (5, 8)] h h49 := my_fr.up gh47 is_82 fh49 rfl
            refine w_goto (t := 181) gz_37_244 rfl ?_
            have ce50 : h49 82 5 = (v48 + 1) := (my_up_self fh49)
            have ce51 : h49 82 6 = v24 := ((my_up_fld fh49 (by decide)).trans ((my_up_fld fh47 (by decide)).trans ev24.symm))
            have ce52 : h49 82 7 = v33 := ((my_up_fld fh49 (by decide)).trans ((my_up_fld fh47 (by decide)).trans ev33.symm))
            have ce53 : h49 82 8 = (((10 * v41) + v44) - 48) := ((my_up_fld fh49 (by decide)).trans (my_up_self fh47))
            have sg : ∀ j : Int, h49 92 j = h181_0 92 j := fun j => ((my_up_role fh49 is_92 is_82 rfl).trans ((my_up_role fh47 is_92 is_82 rfl).trans (rfl : h181_0 92 j = h181_0 92 j)))
            exact ih_181_0 (p181_0) (p181_1) ((v48 + 1)) (v24) (v33) ((((10 * v41) + v44) - 48)) h49 (gh49) (by omega) (by omega) (by omega) (by omega) (by omega) (by omega) (by omega) (by omega) (by omega) (by omega) (by omega) (by omega) (by omega) (by omega) (by omega) (by omega) (by omega) (by omega) (by omega) (by omega) (((my_up_fld fh49 (by decide)).trans ((my_up_fld fh47 (by decide)).trans c82_4_181_0)).trans (by omega)) ((my_up_self fh49).trans (by omega)) (((my_up_fld fh49 (by decide)).trans ((my_up_fld fh47 (by decide)).trans ev24.symm)).trans (by omega)) (((my_up_fld fh49 (by decide)).trans ((my_up_fld fh47 (by decide)).trans ev33.symm)).trans (by omega)) (((my_up_fld fh49 (by decide)).trans (my_up_self fh47)).trans (by omega)) (((my_up_fld fh49 (by decide)).trans ((my_up_fld fh47 (by decide)).trans c82_9_181_0)).trans (by omega)) (by omega) (by first | (intro t k a b; rw [sg]; exact dg_181_0 (by omega) k (by omega) (by omega)) | (intro t k a b; rw [sg]; exact dg_138_0 (by omega) k (by omega) (by omega)) | (intro t k a b; rw [sg, ← sg0, sgi k (by omega)]; omega) | (intro t; omega) | (intro t k a b; rw [sg]; rcases (by omega : k = p181_1 ∨ k < p181_1) with q | q <;> first | exact dg_138_0 (by omega) k (by omega) (by omega) | (subst q; omega)) | omega) (by first | assumption | omega | (subst_vars; omega) | omega) (by first | assumption | omega | (subst_vars; omega) | omega) (by first | exact tk_A_e A_181_0 (by omega) (by omega) (by omega) | exact tk_A_s A_138_0 (by omega) (by omega) (by omega) (by omega) | exact tk_A_e A_138_0 (by omega) (by omega) (by omega) | exact tk_A_0 b52 (n52 (by omega)).1 (n52 (by omega)).2 k88 (by omega) (by omega) (by omega) | omega) (by first | exact tk_N_e E_181_0 (by omega) (by omega) (by omega) | exact tk_N_e e173 (by omega) (by omega) (by omega) | omega) (by omega) (by first | exact tk_D_0 (by omega) (by omega) | exact tk_D_n (by omega) | exact tk_D_3 D_181_0 (by omega) (by omega) (by omega) (by omega) (by omega) | exact tk_D_s D_181_0 (by omega) (by omega) c227 (by omega) (by omega) (by omega) (by omega) (by omega) | omega) (by omega) (by omega)
  have J138_0 : ∀ (n : Nat) (p138_0 p138_1 p138_2 p138_3 : Int) (h138_0 : my_H), my_fr [(5, 5), (5, 6), (5, 7), (5, 8)] h h138_0 → 1 ≤ p138_0 → p138_0 ≤ 8 → 1 ≤ p138_1 → p138_1 ≤ 1000 → 1 ≤ k82_4 → 0 ≤ p138_2 → p138_2 ≤ 999 → 1 ≤ p138_3 → p138_3 ≤ 4 → k82_5 ≤ 999 → p138_1 ≤ k82_4 → p138_2 ≤ (p138_1 - 1) → p138_2 ≤ (k82_4 - 1) → k82_5 ≤ (p138_1 - 1) → k82_5 ≤ p138_2 → k82_5 ≤ (k82_4 - 1) → h138_0 82 4 = k82_4 → h138_0 82 5 = p138_2 → h138_0 82 6 = p138_3 → h138_0 82 7 = p138_2 → h138_0 82 8 = 0 → h138_0 82 9 = 0 → (h138_0 82 6 = 2 → p138_0 = 3) → (h138_0 82 6 = 2 → ∀ k : Int, h138_0 82 7 ≤ k → k < p138_1 → 48 ≤ h138_0 92 k ∧ h138_0 92 k ≤ 57) → h138_0 82 7 + 1 ≤ p138_1 → h138_0 82 8 = 0 → p138_1 ≤ 1000 → tk_A (h 92) (h 82 5) (h138_0 82 7) p138_1 (h138_0 82 6) → ((h138_0 82 6 = 1 → p138_0 = 8) ∧ (h138_0 82 6 = 2 → p138_0 = 3) ∧ (3 ≤ h138_0 82 6 → p138_0 = 1)) → (p138_0 = 1 → p138_1 = h138_0 82 7 + 1) → 1001 - p138_1 ≤ (n : Int) → wp l rho (d + 1) 37 138 [(2, 82), (0, p138_0), (0, p138_1)] [] h138_0 Q := by
    intro n
    induction n with
    | zero => intro p138_0 p138_1 p138_2 p138_3 h138_0 gh_138_0 q0_138_0 q1_138_0 q2_138_0 q3_138_0 q4_138_0 q5_138_0 q6_138_0 q7_138_0 q8_138_0 q9_138_0 q10_138_0 q11_138_0 q12_138_0 q13_138_0 q14_138_0 q15_138_0 c82_4_138_0 c82_5_138_0 c82_6_138_0 c82_7_138_0 c82_8_138_0 c82_9_138_0 tk_138_0 dg_138_0 sn_138_0 n0_138_0 lm_138_0 A_138_0 mo_138_0 m1_138_0 hm_138_0; exfalso; omega
    | succ n ih_138_0 =>
      intro p138_0 p138_1 p138_2 p138_3 h138_0 gh_138_0 q0_138_0 q1_138_0 q2_138_0 q3_138_0 q4_138_0 q5_138_0 q6_138_0 q7_138_0 q8_138_0 q9_138_0 q10_138_0 q11_138_0 q12_138_0 q13_138_0 q14_138_0 q15_138_0 c82_4_138_0 c82_5_138_0 c82_6_138_0 c82_7_138_0 c82_8_138_0 c82_9_138_0 tk_138_0 dg_138_0 sn_138_0 n0_138_0 lm_138_0 A_138_0 mo_138_0 m1_138_0 hm_138_0
      refine w_iload_n gz_37_138 rfl ?_
      refine w_aload_n gz_37_139 rfl ?_
      refine v_getI (j := 4) gz_37_140 rfl is_82 rd_5 rfl (fun v54 ev54 pv54 qv54 => ?_)
      have zv54 := ev54.trans c82_4_138_0
      refine w_icge (t := 173) gz_37_143 rfl (fun u55 => ?_) (fun u55 => ?_)
      ·
        have e173 : tk_N (h 92) k82_4 (h138_0 82 7) p138_1 (h138_0 82 6) := ⟨fun a b => by omega, fun a => by omega⟩
        refine w_aload_n gz_37_173 rfl ?_
        refine w_aload_n gz_37_174 rfl ?_
        refine v_getI (j := 7) gz_37_175 rfl is_82 rd_5 rfl (fun v56 ev56 pv56 qv56 => ?_)
        have zv56 := ev56.trans c82_7_138_0
        refine v_putI (j := 5) gz_37_178 rfl is_82 rd_5 rfl (by omega) (by omega) rfl (fun h57 fh57 => ?_)
        have gh57 : my_fr [(5, 5), (5, 6), (5, 7), (5, 8)] h h57 := my_fr.up gh_138_0 is_82 fh57 rfl
        have ce58 : h57 82 5 = v56 := (my_up_self fh57)
        have ce59 : h57 82 6 = p138_3 := ((my_up_fld fh57 (by decide)).trans c82_6_138_0)
        have ce60 : h57 82 7 = v56 := ((my_up_fld fh57 (by decide)).trans ev56.symm)
        have ce61 : h57 82 8 = 0 := ((my_up_fld fh57 (by decide)).trans c82_8_138_0)
        have sg : ∀ j : Int, h57 92 j = h138_0 92 j := fun j => ((my_up_role fh57 is_92 is_82 rfl).trans (rfl : h138_0 92 j = h138_0 92 j))
        exact J181_0 (1001) (p138_0) (p138_1) (v56) (p138_3) (v56) (0) h57 (gh57) (by omega) (by omega) (by omega) (by omega) (by omega) (by omega) (by omega) (by omega) (by omega) (by omega) (by omega) (by omega) (by omega) (by omega) (by omega) (by omega) (by omega) (by omega) (by omega) (by omega) (((my_up_fld fh57 (by decide)).trans ev54.symm).trans (by omega)) ((my_up_self fh57).trans (by omega)) (((my_up_fld fh57 (by decide)).trans c82_6_138_0).trans (by omega)) (((my_up_fld fh57 (by decide)).trans ev56.symm).trans (by omega)) (((my_up_fld fh57 (by decide)).trans c82_8_138_0).trans (by omega)) (((my_up_fld fh57 (by decide)).trans c82_9_138_0).trans (by omega)) (by omega) (by first | (intro t k a b; rw [sg]; exact dg_181_0 (by omega) k (by omega) (by omega)) | (intro t k a b; rw [sg]; exact dg_138_0 (by omega) k (by omega) (by omega)) | (intro t k a b; rw [sg, ← sg0, sgi k (by omega)]; omega) | (intro t; omega) | (intro t k a b; rw [sg]; rcases (by omega : k = p181_1 ∨ k < p181_1) with q | q <;> first | exact dg_138_0 (by omega) k (by omega) (by omega) | (subst q; omega)) | omega) (by first | assumption | omega | (subst_vars; omega) | omega) (by first | assumption | omega | (subst_vars; omega) | omega) (by first | exact tk_A_e A_181_0 (by omega) (by omega) (by omega) | exact tk_A_s A_138_0 (by omega) (by omega) (by omega) (by omega) | exact tk_A_e A_138_0 (by omega) (by omega) (by omega) | exact tk_A_0 b52 (n52 (by omega)).1 (n52 (by omega)).2 k88 (by omega) (by omega) (by omega) | omega) (by first | exact tk_N_e E_181_0 (by omega) (by omega) (by omega) | exact tk_N_e e173 (by omega) (by omega) (by omega) | omega) (by omega) (by first | exact tk_D_0 (by omega) (by omega) | exact tk_D_n (by omega) | exact tk_D_3 D_181_0 (by omega) (by omega) (by omega) (by omega) (by omega) | exact tk_D_s D_181_0 (by omega) (by omega) c227 (by omega) (by omega) (by omega) (by omega) (by omega) | omega) (by omega) (by omega)
      ·
        refine w_iload_n gz_37_146 rfl ?_
        refine w_iconst gz_37_147 (by decide) ?_
        refine w_icle (t := 173) gz_37_148 rfl (fun u62 => ?_) (fun u62 => ?_)
        ·
          have e173 : tk_N (h 92) k82_4 (h138_0 82 7) p138_1 (h138_0 82 6) := ⟨fun a b => by omega, fun a => by omega⟩
          refine w_aload_n gz_37_173 rfl ?_
          refine w_aload_n gz_37_174 rfl ?_
          refine v_getI (j := 7) gz_37_175 rfl is_82 rd_5 rfl (fun v63 ev63 pv63 qv63 => ?_)
          have zv63 := ev63.trans c82_7_138_0
          refine v_putI (j := 5) gz_37_178 rfl is_82 rd_5 rfl (by omega) (by omega) rfl (fun h64 fh64 => ?_)
          have gh64 : my_fr [(5, 5), (5, 6), (5, 7), (5, 8)] h h64 := my_fr.up gh_138_0 is_82 fh64 rfl
          have ce65 : h64 82 5 = v63 := (my_up_self fh64)
          have ce66 : h64 82 6 = p138_3 := ((my_up_fld fh64 (by decide)).trans c82_6_138_0)
          have ce67 : h64 82 7 = v63 := ((my_up_fld fh64 (by decide)).trans ev63.symm)
          have ce68 : h64 82 8 = 0 := ((my_up_fld fh64 (by decide)).trans c82_8_138_0)
          have sg : ∀ j : Int, h64 92 j = h138_0 92 j := fun j => ((my_up_role fh64 is_92 is_82 rfl).trans (rfl : h138_0 92 j = h138_0 92 j))
          exact J181_0 (1001) (p138_0) (p138_1) (v63) (p138_3) (v63) (0) h64 (gh64) (by omega) (by omega) (by omega) (by omega) (by omega) (by omega) (by omega) (by omega) (by omega) (by omega) (by omega) (by omega) (by omega) (by omega) (by omega) (by omega) (by omega) (by omega) (by omega) (by omega) (((my_up_fld fh64 (by decide)).trans ev54.symm).trans (by omega)) ((my_up_self fh64).trans (by omega)) (((my_up_fld fh64 (by decide)).trans c82_6_138_0).trans (by omega)) (((my_up_fld fh64 (by decide)).trans ev63.symm).trans (by omega)) (((my_up_fld fh64 (by decide)).trans c82_8_138_0).trans (by omega)) (((my_up_fld fh64 (by decide)).trans c82_9_138_0).trans (by omega)) (by omega) (by first | (intro t k a b; rw [sg]; exact dg_181_0 (by omega) k (by omega) (by omega)) | (intro t k a b; rw [sg]; exact dg_138_0 (by omega) k (by omega) (by omega)) | (intro t k a b; rw [sg, ← sg0, sgi k (by omega)]; omega) | (intro t; omega) | (intro t k a b; rw [sg]; rcases (by omega : k = p181_1 ∨ k < p181_1) with q | q <;> first | exact dg_138_0 (by omega) k (by omega) (by omega) | (subst q; omega)) | omega) (by first | assumption | omega | (subst_vars; omega) | omega) (by first | assumption | omega | (subst_vars; omega) | omega) (by first | exact tk_A_e A_181_0 (by omega) (by omega) (by omega) | exact tk_A_s A_138_0 (by omega) (by omega) (by omega) (by omega) | exact tk_A_e A_138_0 (by omega) (by omega) (by omega) | exact tk_A_0 b52 (n52 (by omega)).1 (n52 (by omega)).2 k88 (by omega) (by omega) (by omega) | omega) (by first | exact tk_N_e E_181_0 (by omega) (by omega) (by omega) | exact tk_N_e e173 (by omega) (by omega) (by omega) | omega) (by omega) (by first | exact tk_D_0 (by omega) (by omega) | exact tk_D_n (by omega) | exact tk_D_3 D_181_0 (by omega) (by omega) (by omega) (by omega) (by omega) | exact tk_D_s D_181_0 (by omega) (by omega) c227 (by omega) (by omega) (by omega) (by omega) (by omega) | omega) (by omega) (by omega)
        ·
          refine w_aload_n gz_37_151 rfl ?_
          refine w_getX (v := 92) gz_37_152 is_82 rd_5 rfl (by decide) rfl ?_
          refine w_iload_n gz_37_155 rfl ?_
          refine w_yald gz_37_156 is_92 rd_40 (by omega) (by omega) (fun v70 ev70 pv70 qv70 => ?_)
          have c157 : v70 = h 92 p138_1 := by
            have z : h138_0 92 p138_1 = h 92 p138_1 := by first | rfl | exact my_fr.at gh_138_0 is_92 rfl
            rw [show p138_1 = p138_1 by omega]
            omega
          refine w_inS (k := 0) (as := [(0, v70)]) (r := []) (ls0 := [(0, v70)]) gz_37_157 gm_38 rfl rfl rfl rfl rfl rfl ?_
          refine w_iload_n gz_38_0 rfl ?_
          refine w_bipush gz_38_1 (by decide) ?_
          refine w_iclt (t := 14) gz_38_3 rfl (fun u71 => ?_) (fun u71 => ?_)
          ·
            refine w_iload_n gz_38_14 rfl ?_
            refine w_bipush gz_38_15 (by decide) ?_
            refine w_iclt (t := 28) gz_38_17 rfl (fun u72 => ?_) (fun u72 => ?_)
            ·
              refine w_iload_n gz_38_28 rfl ?_
              refine w_bipush gz_38_29 (by decide) ?_
              refine w_icne (t := 38) gz_38_31 rfl (fun u73 => ?_) (fun u73 => by exfalso; omega)
              refine w_iconst gz_38_38 (by decide) ?_
              refine w_iret gz_38_39 gm_38 ?_
              show wp l rho (d + 1) 37 160 [(2, 82), (0, p138_0), (0, p138_1)] [(0, 4)] h138_0 Q
              have k160 : tk_k (h 92 p138_1) = 4 := by rw [← c157]; unfold tk_k; (repeat (first | rw [if_pos (by omega)] | rw [if_neg (by omega)]))
              refine w_aload_n gz_37_160 rfl ?_
              refine v_getI (j := 6) gz_37_161 rfl is_82 rd_5 rfl (fun v74 ev74 pv74 qv74 => ?_)
              have zv74 := ev74.trans c82_6_138_0
              refine w_icne (t := 173) gz_37_164 rfl (fun u75 => ?_) (fun u75 => ?_)
              ·
                have e173 : tk_N (h 92) k82_4 (h138_0 82 7) p138_1 (h138_0 82 6) := ⟨fun a b => by omega, fun a => by omega⟩
                refine w_aload_n gz_37_173 rfl ?_
                refine w_aload_n gz_37_174 rfl ?_
                refine v_getI (j := 7) gz_37_175 rfl is_82 rd_5 rfl (fun v76 ev76 pv76 qv76 => ?_)
                have zv76 := ev76.trans c82_7_138_0
                refine v_putI (j := 5) gz_37_178 rfl is_82 rd_5 rfl (by omega) (by omega) rfl (fun h77 fh77 => ?_)
                have gh77 : my_fr [(5, 5), (5, 6), (5, 7), (5, 8)] h h77 := my_fr.up gh_138_0 is_82 fh77 rfl
                have ce78 : h77 82 5 = v76 := (my_up_self fh77)
                have ce79 : h77 82 6 = v74 := ((my_up_fld fh77 (by decide)).trans ev74.symm)
                have ce80 : h77 82 7 = v76 := ((my_up_fld fh77 (by decide)).trans ev76.symm)
                have ce81 : h77 82 8 = 0 := ((my_up_fld fh77 (by decide)).trans c82_8_138_0)
                have sg : ∀ j : Int, h77 92 j = h138_0 92 j := fun j => ((my_up_role fh77 is_92 is_82 rfl).trans (rfl : h138_0 92 j = h138_0 92 j))
                exact J181_0 (1001) (p138_0) (p138_1) (v76) (v74) (v76) (0) h77 (gh77) (by omega) (by omega) (by omega) (by omega) (by omega) (by omega) (by omega) (by omega) (by omega) (by omega) (by omega) (by omega) (by omega) (by omega) (by omega) (by omega) (by omega) (by omega) (by omega) (by omega) (((my_up_fld fh77 (by decide)).trans ev54.symm).trans (by omega)) ((my_up_self fh77).trans (by omega)) (((my_up_fld fh77 (by decide)).trans ev74.symm).trans (by omega)) (((my_up_fld fh77 (by decide)).trans ev76.symm).trans (by omega)) (((my_up_fld fh77 (by decide)).trans c82_8_138_0).trans (by omega)) (((my_up_fld fh77 (by decide)).trans c82_9_138_0).trans (by omega)) (by omega) (by first | (intro t k a b; rw [sg]; exact dg_181_0 (by omega) k (by omega) (by omega)) | (intro t k a b; rw [sg]; exact dg_138_0 (by omega) k (by omega) (by omega)) | (intro t k a b; rw [sg, ← sg0, sgi k (by omega)]; omega) | (intro t; omega) | (intro t k a b; rw [sg]; rcases (by omega : k = p181_1 ∨ k < p181_1) with q | q <;> first | exact dg_138_0 (by omega) k (by omega) (by omega) | (subst q; omega)) | omega) (by first | assumption | omega | (subst_vars; omega) | omega) (by first | assumption | omega | (subst_vars; omega) | omega) (by first | exact tk_A_e A_181_0 (by omega) (by omega) (by omega) | exact tk_A_s A_138_0 (by omega) (by omega) (by omega) (by omega) | exact tk_A_e A_138_0 (by omega) (by omega) (by omega) | exact tk_A_0 b52 (n52 (by omega)).1 (n52 (by omega)).2 k88 (by omega) (by omega) (by omega) | omega) (by first | exact tk_N_e E_181_0 (by omega) (by omega) (by omega) | exact tk_N_e e173 (by omega) (by omega) (by omega) | omega) (by omega) (by first | exact tk_D_0 (by omega) (by omega) | exact tk_D_n (by omega) | exact tk_D_3 D_181_0 (by omega) (by omega) (by omega) (by omega) (by omega) | exact tk_D_s D_181_0 (by omega) (by omega) c227 (by omega) (by omega) (by omega) (by omega) (by omega) | omega) (by omega) (by omega)
              ·
                refine w_iinc (ls' := [(2, 82), (0, p138_0), (0, (p138_1 + 1))]) gz_37_167 rfl gm_37 rfl rfl rfl ⟨by omega, by omega⟩ ?_
                refine w_goto (t := 138) gz_37_170 rfl ?_
                have ce82 : h138_0 82 5 = p138_2 := c82_5_138_0
                have ce83 : h138_0 82 6 = v74 := ev74.symm
                have ce84 : h138_0 82 7 = p138_2 := c82_7_138_0
                have ce85 : h138_0 82 8 = 0 := c82_8_138_0
                have sg : ∀ j : Int, h138_0 92 j = h138_0 92 j := fun _ => rfl
                exact ih_138_0 (p138_0) ((p138_1 + 1)) (p138_2) (v74) h138_0 (gh_138_0) (by omega) (by omega) (by omega) (by omega) (by omega) (by omega) (by omega) (by omega) (by omega) (by omega) (by omega) (by omega) (by omega) (by omega) (by omega) (by omega) (ev54.symm.trans (by omega)) (c82_5_138_0.trans (by omega)) (ev74.symm.trans (by omega)) (c82_7_138_0.trans (by omega)) (c82_8_138_0.trans (by omega)) (c82_9_138_0.trans (by omega)) (by omega) (by first | (intro t k a b; rw [sg]; exact dg_181_0 (by omega) k (by omega) (by omega)) | (intro t k a b; rw [sg]; exact dg_138_0 (by omega) k (by omega) (by omega)) | (intro t k a b; rw [sg, ← sg0, sgi k (by omega)]; omega) | (intro t; omega) | (intro t k a b; rw [sg]; rcases (by omega : k = p138_1 ∨ k < p138_1) with q | q <;> first | exact dg_138_0 (by omega) k (by omega) (by omega) | (subst q; omega)) | omega) (by first | assumption | omega | (subst_vars; omega) | omega) (by first | assumption | omega | (subst_vars; omega) | omega) (by first | assumption | omega | (subst_vars; omega) | omega) (by first | exact tk_A_e A_181_0 (by omega) (by omega) (by omega) | exact tk_A_s A_138_0 (by omega) (by omega) (by omega) (by omega) | exact tk_A_e A_138_0 (by omega) (by omega) (by omega) | exact tk_A_0 b52 (n52 (by omega)).1 (n52 (by omega)).2 k88 (by omega) (by omega) (by omega) | omega) (by omega) (by omega) (by omega)
            ·
              refine w_iload_n gz_38_20 rfl ?_
              refine w_bipush gz_38_21 (by decide) ?_
              refine w_icgt (t := 28) gz_38_23 rfl (fun u86 => ?_) (fun u86 => ?_)
              ·
                refine w_iload_n gz_38_28 rfl ?_
                refine w_bipush gz_38_29 (by decide) ?_
                refine w_icne (t := 38) gz_38_31 rfl (fun u87 => ?_) (fun u87 => ?_)
                ·
                  refine w_iconst gz_38_38 (by decide) ?_
                  refine w_iret gz_38_39 gm_38 ?_
                  show wp l rho (d + 1) 37 160 [(2, 82), (0, p138_0), (0, p138_1)] [(0, 4)] h138_0 Q
                  have k160 : tk_k (h 92 p138_1) = 4 := by rw [← c157]; unfold tk_k; (repeat (first | rw [if_pos (by omega)] | rw [if_neg (by omega)]))
                  refine w_aload_n gz_37_160 rfl ?_
                  refine v_getI (j := 6) gz_37_161 rfl is_82 rd_5 rfl (fun v88 ev88 pv88 qv88 => ?_)
                  have zv88 := ev88.trans c82_6_138_0
                  refine w_icne (t := 173) gz_37_164 rfl (fun u89 => ?_) (fun u89 => ?_)
                  ·
                    have e173 : tk_N (h 92) k82_4 (h138_0 82 7) p138_1 (h138_0 82 6) := ⟨fun a b => by omega, fun a => by omega⟩
                    refine w_aload_n gz_37_173 rfl ?_
                    refine w_aload_n gz_37_174 rfl ?_
                    refine v_getI (j := 7) gz_37_175 rfl is_82 rd_5 rfl (fun v90 ev90 pv90 qv90 => ?_)
                    have zv90 := ev90.trans c82_7_138_0
                    refine v_putI (j := 5) gz_37_178 rfl is_82 rd_5 rfl (by omega) (by omega) rfl (fun h91 fh91 => ?_)
                    have gh91 : my_fr [(5, 5), (5, 6), (5, 7), (5, 8)] h h91 := my_fr.up gh_138_0 is_82 fh91 rfl
                    have ce92 : h91 82 5 = v90 := (my_up_self fh91)
                    have ce93 : h91 82 6 = v88 := ((my_up_fld fh91 (by decide)).trans ev88.symm)
                    have ce94 : h91 82 7 = v90 := ((my_up_fld fh91 (by decide)).trans ev90.symm)
                    have ce95 : h91 82 8 = 0 := ((my_up_fld fh91 (by decide)).trans c82_8_138_0)
                    have sg : ∀ j : Int, h91 92 j = h138_0 92 j := fun j => ((my_up_role fh91 is_92 is_82 rfl).trans (rfl : h138_0 92 j = h138_0 92 j))
                    exact J181_0 (1001) (p138_0) (p138_1) (v90) (v88) (v90) (0) h91 (gh91) (by omega) (by omega) (by omega) (by omega) (by omega) (by omega) (by omega) (by omega) (by omega) (by omega) (by omega) (by omega) (by omega) (by omega) (by omega) (by omega) (by omega) (by omega) (by omega) (by omega) (((my_up_fld fh91 (by decide)).trans ev54.symm).trans (by omega)) ((my_up_self fh91).trans (by omega)) (((my_up_fld fh91 (by decide)).trans ev88.symm).trans (by omega)) (((my_up_fld fh91 (by decide)).trans ev90.symm).trans (by omega)) (((my_up_fld fh91 (by decide)).trans c82_8_138_0).trans (by omega)) (((my_up_fld fh91 (by decide)).trans c82_9_138_0).trans (by omega)) (by omega) (by first | (intro t k a b; rw [sg]; exact dg_181_0 (by omega) k (by omega) (by omega)) | (intro t k a b; rw [sg]; exact dg_138_0 (by omega) k (by omega) (by omega)) | (intro t k a b; rw [sg, ← sg0, sgi k (by omega)]; omega) | (intro t; omega) | (intro t k a b; rw [sg]; rcases (by omega : k = p181_1 ∨ k < p181_1) with q | q <;> first | exact dg_138_0 (by omega) k (by omega) (by omega) | (subst q; omega)) | omega) (by first | assumption | omega | (subst_vars; omega) | omega) (by first | assumption | omega | (subst_vars; omega) | omega) (by first | exact tk_A_e A_181_0 (by omega) (by omega) (by omega) | exact tk_A_s A_138_0 (by omega) (by omega) (by omega) (by omega) | exact tk_A_e A_138_0 (by omega) (by omega) (by omega) | exact tk_A_0 b52 (n52 (by omega)).1 (n52 (by omega)).2 k88 (by omega) (by omega) (by omega) | omega) (by first | exact tk_N_e E_181_0 (by omega) (by omega) (by omega) | exact tk_N_e e173 (by omega) (by omega) (by omega) | omega) (by omega) (by first | exact tk_D_0 (by omega) (by omega) | exact tk_D_n (by omega) | exact tk_D_3 D_181_0 (by omega) (by omega) (by omega) (by omega) (by omega) | exact tk_D_s D_181_0 (by omega) (by omega) c227 (by omega) (by omega) (by omega) (by omega) (by omega) | omega) (by omega) (by omega)
                  ·
                    refine w_iinc (ls' := [(2, 82), (0, p138_0), (0, (p138_1 + 1))]) gz_37_167 rfl gm_37 rfl rfl rfl ⟨by omega, by omega⟩ ?_
                    refine w_goto (t := 138) gz_37_170 rfl ?_
                    have ce96 : h138_0 82 5 = p138_2 := c82_5_138_0
                    have ce97 : h138_0 82 6 = v88 := ev88.symm
                    have ce98 : h138_0 82 7 = p138_2 := c82_7_138_0
                    have ce99 : h138_0 82 8 = 0 := c82_8_138_0
                    have sg : ∀ j : Int, h138_0 92 j = h138_0 92 j := fun _ => rfl
                    exact ih_138_0 (p138_0) ((p138_1 + 1)) (p138_2) (v88) h138_0 (gh_138_0) (by omega) (by omega) (by omega) (by omega) (by omega) (by omega) (by omega) (by omega) (by omega) (by omega) (by omega) (by omega) (by omega) (by omega) (by omega) (by omega) (ev54.symm.trans (by omega)) (c82_5_138_0.trans (by omega)) (ev88.symm.trans (by omega)) (c82_7_138_0.trans (by omega)) (c82_8_138_0.trans (by omega)) (c82_9_138_0.trans (by omega)) (by omega) (by first | (intro t k a b; rw [sg]; exact dg_181_0 (by omega) k (by omega) (by omega)) | (intro t k a b; rw [sg]; exact dg_138_0 (by omega) k (by omega) (by omega)) | (intro t k a b; rw [sg, ← sg0, sgi k (by omega)]; omega) | (intro t; omega) | (intro t k a b; rw [sg]; rcases (by omega : k = p138_1 ∨ k < p138_1) with q | q <;> first | exact dg_138_0 (by omega) k (by omega) (by omega) | (subst q; omega)) | omega) (by first | assumption | omega | (subst_vars; omega) | omega) (by first | assumption | omega | (subst_vars; omega) | omega) (by first | assumption | omega | (subst_vars; omega) | omega) (by first | exact tk_A_e A_181_0 (by omega) (by omega) (by omega) | exact tk_A_s A_138_0 (by omega) (by omega) (by omega) (by omega) | exact tk_A_e A_138_0 (by omega) (by omega) (by omega) | exact tk_A_0 b52 (n52 (by omega)).1 (n52 (by omega)).2 k88 (by omega) (by omega) (by omega) | omega) (by omega) (by omega) (by omega)
                ·
                  refine w_iconst gz_38_34 (by decide) ?_
                  refine w_goto (t := 39) gz_38_35 rfl ?_
                  refine w_iret gz_38_39 gm_38 ?_
                  show wp l rho (d + 1) 37 160 [(2, 82), (0, p138_0), (0, p138_1)] [(0, 3)] h138_0 Q
                  have k160 : tk_k (h 92 p138_1) = 3 := by rw [← c157]; unfold tk_k; (repeat (first | rw [if_pos (by omega)] | rw [if_neg (by omega)]))
                  refine w_aload_n gz_37_160 rfl ?_
                  refine v_getI (j := 6) gz_37_161 rfl is_82 rd_5 rfl (fun v100 ev100 pv100 qv100 => ?_)
                  have zv100 := ev100.trans c82_6_138_0
                  refine w_icne (t := 173) gz_37_164 rfl (fun u101 => ?_) (fun u101 => ?_)
                  ·
                    have e173 : tk_N (h 92) k82_4 (h138_0 82 7) p138_1 (h138_0 82 6) := ⟨fun a b => by omega, fun a => by omega⟩
                    refine w_aload_n gz_37_173 rfl ?_
                    refine w_aload_n gz_37_174 rfl ?_
                    refine v_getI (j := 7) gz_37_175 rfl is_82 rd_5 rfl (fun v102 ev102 pv102 qv102 => ?_)
                    have zv102 := ev102.trans c82_7_138_0
                    refine v_putI (j := 5) gz_37_178 rfl is_82 rd_5 rfl (by omega) (by omega) rfl (fun h103 fh103 => ?_)
                    have gh103 : my_fr [(5, 5), (5, 6), (5, 7), (5, 8)] h h103 := my_fr.up gh_138_0 is_82 fh103 rfl
                    have ce104 : h103 82 5 = v102 := (my_up_self fh103)
                    have ce105 : h103 82 6 = v100 := ((my_up_fld fh103 (by decide)).trans ev100.symm)
                    have ce106 : h103 82 7 = v102 := ((my_up_fld fh103 (by decide)).trans ev102.symm)
                    have ce107 : h103 82 8 = 0 := ((my_up_fld fh103 (by decide)).trans c82_8_138_0)
                    have sg : ∀ j : Int, h103 92 j = h138_0 92 j := fun j => ((my_up_role fh103 is_92 is_82 rfl).trans (rfl : h138_0 92 j = h138_0 92 j))
                    exact J181_0 (1001) (p138_0) (p138_1) (v102) (v100) (v102) (0) h103 (gh103) (by omega) (by omega) (by omega) (by omega) (by omega) (by omega) (by omega) (by omega) (by omega) (by omega) (by omega) (by omega) (by omega) (by omega) (by omega) (by omega) (by omega) (by omega) (by omega) (by omega) (((my_up_fld fh103 (by decide)).trans ev54.symm).trans (by omega)) ((my_up_self fh103).trans (by omega)) (((my_up_fld fh103 (by decide)).trans ev100.symm).trans (by omega)) (((my_up_fld fh103 (by decide)).trans ev102.symm).trans (by omega)) (((my_up_fld fh103 (by decide)).trans c82_8_138_0).trans (by omega)) (((my_up_fld fh103 (by decide)).trans c82_9_138_0).trans (by omega)) (by omega) (by first | (intro t k a b; rw [sg]; exact dg_181_0 (by omega) k (by omega) (by omega)) | (intro t k a b; rw [sg]; exact dg_138_0 (by omega) k (by omega) (by omega)) | (intro t k a b; rw [sg, ← sg0, sgi k (by omega)]; omega) | (intro t; omega) | (intro t k a b; rw [sg]; rcases (by omega : k = p181_1 ∨ k < p181_1) with q | q <;> first | exact dg_138_0 (by omega) k (by omega) (by omega) | (subst q; omega)) | omega) (by first | assumption | omega | (subst_vars; omega) | omega) (by first | assumption | omega | (subst_vars; omega) | omega) (by first | exact tk_A_e A_181_0 (by omega) (by omega) (by omega) | exact tk_A_s A_138_0 (by omega) (by omega) (by omega) (by omega) | exact tk_A_e A_138_0 (by omega) (by omega) (by omega) | exact tk_A_0 b52 (n52 (by omega)).1 (n52 (by omega)).2 k88 (by omega) (by omega) (by omega) | omega) (by first | exact tk_N_e E_181_0 (by omega) (by omega) (by omega) | exact tk_N_e e173 (by omega) (by omega) (by omega) | omega) (by omega) (by first | exact tk_D_0 (by omega) (by omega) | exact tk_D_n (by omega) | exact tk_D_3 D_181_0 (by omega) (by omega) (by omega) (by omega) (by omega) | exact tk_D_s D_181_0 (by omega) (by omega) c227 (by omega) (by omega) (by omega) (by omega) (by omega) | omega) (by omega) (by omega)
                  ·
                    refine w_iinc (ls' := [(2, 82), (0, p138_0), (0, (p138_1 + 1))]) gz_37_167 rfl gm_37 rfl rfl rfl ⟨by omega, by omega⟩ ?_
                    refine w_goto (t := 138) gz_37_170 rfl ?_
                    have ce108 : h138_0 82 5 = p138_2 := c82_5_138_0
                    have ce109 : h138_0 82 6 = v100 := ev100.symm
                    have ce110 : h138_0 82 7 = p138_2 := c82_7_138_0
                    have ce111 : h138_0 82 8 = 0 := c82_8_138_0
                    have sg : ∀ j : Int, h138_0 92 j = h138_0 92 j := fun _ => rfl
                    exact ih_138_0 (p138_0) ((p138_1 + 1)) (p138_2) (v100) h138_0 (gh_138_0) (by omega) (by omega) (by omega) (by omega) (by omega) (by omega) (by omega) (by omega) (by omega) (by omega) (by omega) (by omega) (by omega) (by omega) (by omega) (by omega) (ev54.symm.trans (by omega)) (c82_5_138_0.trans (by omega)) (ev100.symm.trans (by omega)) (c82_7_138_0.trans (by omega)) (c82_8_138_0.trans (by omega)) (c82_9_138_0.trans (by omega)) (by omega) (by first | (intro t k a b; rw [sg]; exact dg_181_0 (by omega) k (by omega) (by omega)) | (intro t k a b; rw [sg]; exact dg_138_0 (by omega) k (by omega) (by omega)) | (intro t k a b; rw [sg, ← sg0, sgi k (by omega)]; omega) | (intro t; omega) | (intro t k a b; rw [sg]; rcases (by omega : k = p138_1 ∨ k < p138_1) with q | q <;> first | exact dg_138_0 (by omega) k (by omega) (by omega) | (subst q; omega)) | omega) (by first | assumption | omega | (subst_vars; omega) | omega) (by first | assumption | omega | (subst_vars; omega) | omega) (by first | assumption | omega | (subst_vars; omega) | omega) (by first | exact tk_A_e A_181_0 (by omega) (by omega) (by omega) | exact tk_A_s A_138_0 (by omega) (by omega) (by omega) (by omega) | exact tk_A_e A_138_0 (by omega) (by omega) (by omega) | exact tk_A_0 b52 (n52 (by omega)).1 (n52 (by omega)).2 k88 (by omega) (by omega) (by omega) | omega) (by omega) (by omega) (by omega)
              ·
                refine w_iconst gz_38_26 (by decide) ?_
                refine w_iret gz_38_27 gm_38 ?_
                show wp l rho (d + 1) 37 160 [(2, 82), (0, p138_0), (0, p138_1)] [(0, 2)] h138_0 Q
                have k160 : tk_k (h 92 p138_1) = 2 := by rw [← c157]; unfold tk_k; (repeat (first | rw [if_pos (by omega)] | rw [if_neg (by omega)]))
                refine w_aload_n gz_37_160 rfl ?_
                refine v_getI (j := 6) gz_37_161 rfl is_82 rd_5 rfl (fun v112 ev112 pv112 qv112 => ?_)
                have zv112 := ev112.trans c82_6_138_0
                refine w_icne (t := 173) gz_37_164 rfl (fun u113 => ?_) (fun u113 => ?_)
                ·
                  have e173 : tk_N (h 92) k82_4 (h138_0 82 7) p138_1 (h138_0 82 6) := ⟨fun a b => by omega, fun a => by omega⟩
                  refine w_aload_n gz_37_173 rfl ?_
                  refine w_aload_n gz_37_174 rfl ?_
                  refine v_getI (j := 7) gz_37_175 rfl is_82 rd_5 rfl (fun v114 ev114 pv114 qv114 => ?_)
                  have zv114 := ev114.trans c82_7_138_0
                  refine v_putI (j := 5) gz_37_178 rfl is_82 rd_5 rfl (by omega) (by omega) rfl (fun h115 fh115 => ?_)
                  have gh115 : my_fr [(5, 5), (5, 6), (5, 7), (5, 8)] h h115 := my_fr.up gh_138_0 is_82 fh115 rfl
                  have ce116 : h115 82 5 = v114 := (my_up_self fh115)
                  have ce117 : h115 82 6 = v112 := ((my_up_fld fh115 (by decide)).trans ev112.symm)
                  have ce118 : h115 82 7 = v114 := ((my_up_fld fh115 (by decide)).trans ev114.symm)
                  have ce119 : h115 82 8 = 0 := ((my_up_fld fh115 (by decide)).trans c82_8_138_0)
                  have sg : ∀ j : Int, h115 92 j = h138_0 92 j := fun j => ((my_up_role fh115 is_92 is_82 rfl).trans (rfl : h138_0 92 j = h138_0 92 j))
                  exact J181_0 (1001) (p138_0) (p138_1) (v114) (v112) (v114) (0) h115 (gh115) (by omega) (by omega) (by omega) (by omega) (by omega) (by omega) (by omega) (by omega) (by omega) (by omega) (by omega) (by omega) (by omega) (by omega) (by omega) (by omega) (by omega) (by omega) (by omega) (by omega) (((my_up_fld fh115 (by decide)).trans ev54.symm).trans (by omega)) ((my_up_self fh115).trans (by omega)) (((my_up_fld fh115 (by decide)).trans ev112.symm).trans (by omega)) (((my_up_fld fh115 (by decide)).trans ev114.symm).trans (by omega)) (((my_up_fld fh115 (by decide)).trans c82_8_138_0).trans (by omega)) (((my_up_fld fh115 (by decide)).trans c82_9_138_0).trans (by omega)) (by omega) (by first | (intro t k a b; rw [sg]; exact dg_181_0 (by omega) k (by omega) (by omega)) | (intro t k a b; rw [sg]; exact dg_138_0 (by omega) k (by omega) (by omega)) | (intro t k a b; rw [sg, ← sg0, sgi k (by omega)]; omega) | (intro t; omega) | (intro t k a b; rw [sg]; rcases (by omega : k = p181_1 ∨ k < p181_1) with q | q <;> first | exact dg_138_0 (by omega) k (by omega) (by omega) | (subst q; omega)) | omega) (by first | assumption | omega | (subst_vars; omega) | omega) (by first | assumption | omega | (subst_vars; omega) | omega) (by first | exact tk_A_e A_181_0 (by omega) (by omega) (by omega) | exact tk_A_s A_138_0 (by omega) (by omega) (by omega) (by omega) | exact tk_A_e A_138_0 (by omega) (by omega) (by omega) | exact tk_A_0 b52 (n52 (by omega)).1 (n52 (by omega)).2 k88 (by omega) (by omega) (by omega) | omega) (by first | exact tk_N_e E_181_0 (by omega) (by omega) (by omega) | exact tk_N_e e173 (by omega) (by omega) (by omega) | omega) (by omega) (by first | exact tk_D_0 (by omega) (by omega) | exact tk_D_n (by omega) | exact tk_D_3 D_181_0 (by omega) (by omega) (by omega) (by omega) (by omega) | exact tk_D_s D_181_0 (by omega) (by omega) c227 (by omega) (by omega) (by omega) (by omega) (by omega) | omega) (by omega) (by omega)
                ·
                  refine w_iinc (ls' := [(2, 82), (0, p138_0), (0, (p138_1 + 1))]) gz_37_167 rfl gm_37 rfl rfl rfl ⟨by omega, by omega⟩ ?_
                  refine w_goto (t := 138) gz_37_170 rfl ?_
                  have ce120 : h138_0 82 5 = p138_2 := c82_5_138_0
                  have ce121 : h138_0 82 6 = v112 := ev112.symm
                  have ce122 : h138_0 82 7 = p138_2 := c82_7_138_0
                  have ce123 : h138_0 82 8 = 0 := c82_8_138_0
                  have sg : ∀ j : Int, h138_0 92 j = h138_0 92 j := fun _ => rfl
                  exact ih_138_0 (p138_0) ((p138_1 + 1)) (p138_2) (v112) h138_0 (gh_138_0) (by omega) (by omega) (by omega) (by omega) (by omega) (by omega) (by omega) (by omega) (by omega) (by omega) (by omega) (by omega) (by omega) (by omega) (by omega) (by omega) (ev54.symm.trans (by omega)) (c82_5_138_0.trans (by omega)) (ev112.symm.trans (by omega)) (c82_7_138_0.trans (by omega)) (c82_8_138_0.trans (by omega)) (c82_9_138_0.trans (by omega)) (by omega) (by first | (intro t k a b; rw [sg]; exact dg_181_0 (by omega) k (by omega) (by omega)) | (intro t k a b; rw [sg]; exact dg_138_0 (by omega) k (by omega) (by omega)) | (intro t k a b; rw [sg, ← sg0, sgi k (by omega)]; omega) | (intro t; omega) | (intro t k a b; rw [sg]; rcases (by omega : k = p138_1 ∨ k < p138_1) with q | q <;> first | exact dg_138_0 (by omega) k (by omega) (by omega) | (subst q; omega)) | omega) (by first | assumption | omega | (subst_vars; omega) | omega) (by first | assumption | omega | (subst_vars; omega) | omega) (by first | assumption | omega | (subst_vars; omega) | omega) (by first | exact tk_A_e A_181_0 (by omega) (by omega) (by omega) | exact tk_A_s A_138_0 (by omega) (by omega) (by omega) (by omega) | exact tk_A_e A_138_0 (by omega) (by omega) (by omega) | exact tk_A_0 b52 (n52 (by omega)).1 (n52 (by omega)).2 k88 (by omega) (by omega) (by omega) | omega) (by omega) (by omega) (by omega)
          ·
            refine w_iload_n gz_38_6 rfl ?_
            refine w_bipush gz_38_7 (by decide) ?_
            refine w_icgt (t := 14) gz_38_9 rfl (fun u124 => ?_) (fun u124 => ?_)
            ·
              refine w_iload_n gz_38_14 rfl ?_
              refine w_bipush gz_38_15 (by decide) ?_
              refine w_iclt (t := 28) gz_38_17 rfl (fun u125 => by exfalso; omega) (fun u125 => ?_)
              refine w_iload_n gz_38_20 rfl ?_
              refine w_bipush gz_38_21 (by decide) ?_
              refine w_icgt (t := 28) gz_38_23 rfl (fun u126 => ?_) (fun u126 => by exfalso; omega)
              refine w_iload_n gz_38_28 rfl ?_
              refine w_bipush gz_38_29 (by decide) ?_
              refine w_icne (t := 38) gz_38_31 rfl (fun u127 => ?_) (fun u127 => by exfalso; omega)
              refine w_iconst gz_38_38 (by decide) ?_
              refine w_iret gz_38_39 gm_38 ?_
              show wp l rho (d + 1) 37 160 [(2, 82), (0, p138_0), (0, p138_1)] [(0, 4)] h138_0 Q
              have k160 : tk_k (h 92 p138_1) = 4 := by rw [← c157]; unfold tk_k; (repeat (first | rw [if_pos (by omega)] | rw [if_neg (by omega)]))
              refine w_aload_n gz_37_160 rfl ?_
              refine v_getI (j := 6) gz_37_161 rfl is_82 rd_5 rfl (fun v128 ev128 pv128 qv128 => ?_)
              have zv128 := ev128.trans c82_6_138_0
              refine w_icne (t := 173) gz_37_164 rfl (fun u129 => ?_) (fun u129 => ?_)
              ·
                have e173 : tk_N (h 92) k82_4 (h138_0 82 7) p138_1 (h138_0 82 6) := ⟨fun a b => by omega, fun a => by omega⟩
                refine w_aload_n gz_37_173 rfl ?_
                refine w_aload_n gz_37_174 rfl ?_
                refine v_getI (j := 7) gz_37_175 rfl is_82 rd_5 rfl (fun v130 ev130 pv130 qv130 => ?_)
                have zv130 := ev130.trans c82_7_138_0
                refine v_putI (j := 5) gz_37_178 rfl is_82 rd_5 rfl (by omega) (by omega) rfl (fun h131 fh131 => ?_)
                have gh131 : my_fr [(5, 5), (5, 6), (5, 7), (5, 8)] h h131 := my_fr.up gh_138_0 is_82 fh131 rfl
                have ce132 : h131 82 5 = v130 := (my_up_self fh131)
                have ce133 : h131 82 6 = v128 := ((my_up_fld fh131 (by decide)).trans ev128.symm)
                have ce134 : h131 82 7 = v130 := ((my_up_fld fh131 (by decide)).trans ev130.symm)
                have ce135 : h131 82 8 = 0 := ((my_up_fld fh131 (by decide)).trans c82_8_138_0)
                have sg : ∀ j : Int, h131 92 j = h138_0 92 j := fun j => ((my_up_role fh131 is_92 is_82 rfl).trans (rfl : h138_0 92 j = h138_0 92 j))
                exact J181_0 (1001) (p138_0) (p138_1) (v130) (v128) (v130) (0) h131 (gh131) (by omega) (by omega) (by omega) (by omega) (by omega) (by omega) (by omega) (by omega) (by omega) (by omega) (by omega) (by omega) (by omega) (by omega) (by omega) (by omega) (by omega) (by omega) (by omega) (by omega) (((my_up_fld fh131 (by decide)).trans ev54.symm).trans (by omega)) ((my_up_self fh131).trans (by omega)) (((my_up_fld fh131 (by decide)).trans ev128.symm).trans (by omega)) (((my_up_fld fh131 (by decide)).trans ev130.symm).trans (by omega)) (((my_up_fld fh131 (by decide)).trans c82_8_138_0).trans (by omega)) (((my_up_fld fh131 (by decide)).trans c82_9_138_0).trans (by omega)) (by omega) (by first | (intro t k a b; rw [sg]; exact dg_181_0 (by omega) k (by omega) (by omega)) | (intro t k a b; rw [sg]; exact dg_138_0 (by omega) k (by omega) (by omega)) | (intro t k a b; rw [sg, ← sg0, sgi k (by omega)]; omega) | (intro t; omega) | (intro t k a b; rw [sg]; rcases (by omega : k = p181_1 ∨ k < p181_1) with q | q <;> first | exact dg_138_0 (by omega) k (by omega) (by omega) | (subst q; omega)) | omega) (by first | assumption | omega | (subst_vars; omega) | omega) (by first | assumption | omega | (subst_vars; omega) | omega) (by first | exact tk_A_e A_181_0 (by omega) (by omega) (by omega) | exact tk_A_s A_138_0 (by omega) (by omega) (by omega) (by omega) | exact tk_A_e A_138_0 (by omega) (by omega) (by omega) | exact tk_A_0 b52 (n52 (by omega)).1 (n52 (by omega)).2 k88 (by omega) (by omega) (by omega) | omega) (by first | exact tk_N_e E_181_0 (by omega) (by omega) (by omega) | exact tk_N_e e173 (by omega) (by omega) (by omega) | omega) (by omega) (by first | exact tk_D_0 (by omega) (by omega) | exact tk_D_n (by omega) | exact tk_D_3 D_181_0 (by omega) (by omega) (by omega) (by omega) (by omega) | exact tk_D_s D_181_0 (by omega) (by omega) c227 (by omega) (by omega) (by omega) (by omega) (by omega) | omega) (by omega) (by omega)
              ·
                refine w_iinc (ls' := [(2, 82), (0, p138_0), (0, (p138_1 + 1))]) gz_37_167 rfl gm_37 rfl rfl rfl ⟨by omega, by omega⟩ ?_
                refine w_goto (t := 138) gz_37_170 rfl ?_
                have ce136 : h138_0 82 5 = p138_2 := c82_5_138_0
                have ce137 : h138_0 82 6 = v128 := ev128.symm
                have ce138 : h138_0 82 7 = p138_2 := c82_7_138_0
                have ce139 : h138_0 82 8 = 0 := c82_8_138_0
                have sg : ∀ j : Int, h138_0 92 j = h138_0 92 j := fun _ => rfl
                exact ih_138_0 (p138_0) ((p138_1 + 1)) (p138_2) (v128) h138_0 (gh_138_0) (by omega) (by omega) (by omega) (by omega) (by omega) (by omega) (by omega) (by omega) (by omega) (by omega) (by omega) (by omega) (by omega) (by omega) (by omega) (by omega) (ev54.symm.trans (by omega)) (c82_5_138_0.trans (by omega)) (ev128.symm.trans (by omega)) (c82_7_138_0.trans (by omega)) (c82_8_138_0.trans (by omega)) (c82_9_138_0.trans (by omega)) (by omega) (by first | (intro t k a b; rw [sg]; exact dg_181_0 (by omega) k (by omega) (by omega)) | (intro t k a b; rw [sg]; exact dg_138_0 (by omega) k (by omega) (by omega)) | (intro t k a b; rw [sg, ← sg0, sgi k (by omega)]; omega) | (intro t; omega) | (intro t k a b; rw [sg]; rcases (by omega : k = p138_1 ∨ k < p138_1) with q | q <;> first | exact dg_138_0 (by omega) k (by omega) (by omega) | (subst q; omega)) | omega) (by first | assumption | omega | (subst_vars; omega) | omega) (by first | assumption | omega | (subst_vars; omega) | omega) (by first | assumption | omega | (subst_vars; omega) | omega) (by first | exact tk_A_e A_181_0 (by omega) (by omega) (by omega) | exact tk_A_s A_138_0 (by omega) (by omega) (by omega) (by omega) | exact tk_A_e A_138_0 (by omega) (by omega) (by omega) | exact tk_A_0 b52 (n52 (by omega)).1 (n52 (by omega)).2 k88 (by omega) (by omega) (by omega) | omega) (by omega) (by omega) (by omega)
            ·
              refine w_iconst gz_38_12 (by decide) ?_
              refine w_iret gz_38_13 gm_38 ?_
              show wp l rho (d + 1) 37 160 [(2, 82), (0, p138_0), (0, p138_1)] [(0, 1)] h138_0 Q
              have k160 : tk_k (h 92 p138_1) = 1 := by rw [← c157]; unfold tk_k; (repeat (first | rw [if_pos (by omega)] | rw [if_neg (by omega)]))
              refine w_aload_n gz_37_160 rfl ?_
              refine v_getI (j := 6) gz_37_161 rfl is_82 rd_5 rfl (fun v140 ev140 pv140 qv140 => ?_)
              have zv140 := ev140.trans c82_6_138_0
              refine w_icne (t := 173) gz_37_164 rfl (fun u141 => ?_) (fun u141 => ?_)
              ·
                have e173 : tk_N (h 92) k82_4 (h138_0 82 7) p138_1 (h138_0 82 6) := ⟨fun a b => by omega, fun a => by omega⟩
                refine w_aload_n gz_37_173 rfl ?_
                refine w_aload_n gz_37_174 rfl ?_
                refine v_getI (j := 7) gz_37_175 rfl is_82 rd_5 rfl (fun v142 ev142 pv142 qv142 => ?_)
                have zv142 := ev142.trans c82_7_138_0
                refine v_putI (j := 5) gz_37_178 rfl is_82 rd_5 rfl (by omega) (by omega) rfl (fun h143 fh143 => ?_)
                have gh143 : my_fr [(5, 5), (5, 6), (5, 7), (5, 8)] h h143 := my_fr.up gh_138_0 is_82 fh143 rfl
                have ce144 : h143 82 5 = v142 := (my_up_self fh143)
                have ce145 : h143 82 6 = v140 := ((my_up_fld fh143 (by decide)).trans ev140.symm)
                have ce146 : h143 82 7 = v142 := ((my_up_fld fh143 (by decide)).trans ev142.symm)
                have ce147 : h143 82 8 = 0 := ((my_up_fld fh143 (by decide)).trans c82_8_138_0)
                have sg : ∀ j : Int, h143 92 j = h138_0 92 j := fun j => ((my_up_role fh143 is_92 is_82 rfl).trans (rfl : h138_0 92 j = h138_0 92 j))
                exact J181_0 (1001) (p138_0) (p138_1) (v142) (v140) (v142) (0) h143 (gh143) (by omega) (by omega) (by omega) (by omega) (by omega) (by omega) (by omega) (by omega) (by omega) (by omega) (by omega) (by omega) (by omega) (by omega) (by omega) (by omega) (by omega) (by omega) (by omega) (by omega) (((my_up_fld fh143 (by decide)).trans ev54.symm).trans (by omega)) ((my_up_self fh143).trans (by omega)) (((my_up_fld fh143 (by decide)).trans ev140.symm).trans (by omega)) (((my_up_fld fh143 (by decide)).trans ev142.symm).trans (by omega)) (((my_up_fld fh143 (by decide)).trans c82_8_138_0).trans (by omega)) (((my_up_fld fh143 (by decide)).trans c82_9_138_0).trans (by omega)) (by omega) (by first | (intro t k a b; rw [sg]; exact dg_181_0 (by omega) k (by omega) (by omega)) | (intro t k a b; rw [sg]; exact dg_138_0 (by omega) k (by omega) (by omega)) | (intro t k a b; rw [sg, ← sg0, sgi k (by omega)]; omega) | (intro t; omega) | (intro t k a b; rw [sg]; rcases (by omega : k = p181_1 ∨ k < p181_1) with q | q <;> first | exact dg_138_0 (by omega) k (by omega) (by omega) | (subst q; omega)) | omega) (by first | assumption | omega | (subst_vars; omega) | omega) (by first | assumption | omega | (subst_vars; omega) | omega) (by first | exact tk_A_e A_181_0 (by omega) (by omega) (by omega) | exact tk_A_s A_138_0 (by omega) (by omega) (by omega) (by omega) | exact tk_A_e A_138_0 (by omega) (by omega) (by omega) | exact tk_A_0 b52 (n52 (by omega)).1 (n52 (by omega)).2 k88 (by omega) (by omega) (by omega) | omega) (by first | exact tk_N_e E_181_0 (by omega) (by omega) (by omega) | exact tk_N_e e173 (by omega) (by omega) (by omega) | omega) (by omega) (by first | exact tk_D_0 (by omega) (by omega) | exact tk_D_n (by omega) | exact tk_D_3 D_181_0 (by omega) (by omega) (by omega) (by omega) (by omega) | exact tk_D_s D_181_0 (by omega) (by omega) c227 (by omega) (by omega) (by omega) (by omega) (by omega) | omega) (by omega) (by omega)
              ·
                refine w_iinc (ls' := [(2, 82), (0, p138_0), (0, (p138_1 + 1))]) gz_37_167 rfl gm_37 rfl rfl rfl ⟨by omega, by omega⟩ ?_
                refine w_goto (t := 138) gz_37_170 rfl ?_
                have ce148 : h138_0 82 5 = p138_2 := c82_5_138_0
                have ce149 : h138_0 82 6 = v140 := ev140.symm
                have ce150 : h138_0 82 7 = p138_2 := c82_7_138_0
                have ce151 : h138_0 82 8 = 0 := c82_8_138_0
                have sg : ∀ j : Int, h138_0 92 j = h138_0 92 j := fun _ => rfl
                exact ih_138_0 (p138_0) ((p138_1 + 1)) (p138_2) (v140) h138_0 (gh_138_0) (by omega) (by omega) (by omega) (by omega) (by omega) (by omega) (by omega) (by omega) (by omega) (by omega) (by omega) (by omega) (by omega) (by omega) (by omega) (by omega) (ev54.symm.trans (by omega)) (c82_5_138_0.trans (by omega)) (ev140.symm.trans (by omega)) (c82_7_138_0.trans (by omega)) (c82_8_138_0.trans (by omega)) (c82_9_138_0.trans (by omega)) (by omega) (by first | (intro t k a b; rw [sg]; exact dg_181_0 (by omega) k (by omega) (by omega)) | (intro t k a b; rw [sg]; exact dg_138_0 (by omega) k (by omega) (by omega)) | (intro t k a b; rw [sg, ← sg0, sgi k (by omega)]; omega) | (intro t; omega) | (intro t k a b; rw [sg]; rcases (by omega : k = p138_1 ∨ k < p138_1) with q | q <;> first | exact dg_138_0 (by omega) k (by omega) (by omega) | (subst q; omega)) | omega) (by first | assumption | omega | (subst_vars; omega) | omega) (by first | assumption | omega | (subst_vars; omega) | omega) (by first | assumption | omega | (subst_vars; omega) | omega) (by first | exact tk_A_e A_181_0 (by omega) (by omega) (by omega) | exact tk_A_s A_138_0 (by omega) (by omega) (by omega) (by omega) | exact tk_A_e A_138_0 (by omega) (by omega) (by omega) | exact tk_A_0 b52 (n52 (by omega)).1 (n52 (by omega)).2 k88 (by omega) (by omega) (by omega) | omega) (by omega) (by omega) (by omega)
  have J0_0 : ∀ (n : Nat) (p0_0 : Int) (h0_0 : my_H), my_fr [(5, 5), (5, 6), (5, 7), (5, 8)] h h0_0 → 1 ≤ k82_4 → 1 ≤ p0_0 → p0_0 ≤ 1000 → k82_5 ≤ 999 → p0_0 ≤ k82_4 → k82_5 ≤ (p0_0 - 1) → k82_5 ≤ (k82_4 - 1) → h0_0 82 4 = k82_4 → h0_0 82 5 = p0_0 → h0_0 82 9 = 0 → (∀ i : Int, h 82 5 ≤ i → i < h0_0 82 5 → h 92 i = 10 ∨ h 92 i = 32) → 1001 - h0_0 82 5 ≤ (n : Int) → wp l rho (d + 1) 37 0 [(2, 82), (9, 0), (9, 0)] [] h0_0 Q := by
    intro n
    induction n with
    | zero => intro p0_0 h0_0 gh_0_0 q0_0_0 q1_0_0 q2_0_0 q3_0_0 q4_0_0 q5_0_0 q6_0_0 c82_4_0_0 c82_5_0_0 c82_9_0_0 bl_0_0 hm_0_0; exfalso; omega
    | succ n ih_0_0 =>
      intro p0_0 h0_0 gh_0_0 q0_0_0 q1_0_0 q2_0_0 q3_0_0 q4_0_0 q5_0_0 q6_0_0 c82_4_0_0 c82_5_0_0 c82_9_0_0 bl_0_0 hm_0_0
      refine w_aload_n gz_37_0 rfl ?_
      refine v_getI (j := 5) gz_37_1 rfl is_82 rd_5 rfl (fun v152 ev152 pv152 qv152 => ?_)
      have zv152 := ev152.trans c82_5_0_0
      refine w_aload_n gz_37_4 rfl ?_
      refine v_getI (j := 4) gz_37_5 rfl is_82 rd_5 rfl (fun v153 ev153 pv153 qv153 => ?_)
      have zv153 := ev153.trans c82_4_0_0
      refine w_icge (t := 52) gz_37_8 rfl (fun u154 => ?_) (fun u154 => ?_)
      ·
        obtain ⟨st, est⟩ : ∃ z : Int, z = h0_0 82 5 := ⟨_, rfl⟩
        have b52 : ∀ i : Int, h 82 5 ≤ i → i < st → h 92 i = 10 ∨ h 92 i = 32 := by first | (intro i a b; exact bl_0_0 i a (by omega)) | (intro i a b; omega)
        have n52 : st < h0_0 82 4 → h 92 st ≠ 10 ∧ h 92 st ≠ 32 := by rw [est]; intro q; omega
        refine w_aload_n gz_37_52 rfl ?_
        refine w_aload_n gz_37_53 rfl ?_
        refine v_getI (j := 5) gz_37_54 rfl is_82 rd_5 rfl (fun v155 ev155 pv155 qv155 => ?_)
        have zv155 := ev155.trans ev152.symm
        refine v_putI (j := 7) gz_37_57 rfl is_82 rd_5 rfl (by omega) (by omega) rfl (fun h156 fh156 => ?_)
        have gh156 : my_fr [(5, 5), (5, 6), (5, 7), (5, 8)] h h156 := my_fr.up gh_0_0 is_82 fh156 rfl
        refine w_aload_n gz_37_60 rfl ?_
        refine w_aload_n gz_37_61 rfl ?_
        refine v_getI (j := 5) gz_37_62 rfl is_82 rd_5 rfl (fun v157 ev157 pv157 qv157 => ?_)
        have zv157 := ev157.trans ((my_up_fld fh156 (by decide)).trans ev155.symm)
        refine w_aload_n gz_37_65 rfl ?_
        refine v_getI (j := 4) gz_37_66 rfl is_82 rd_5 rfl (fun v158 ev158 pv158 qv158 => ?_)
        have zv158 := ev158.trans ((my_up_fld fh156 (by decide)).trans ev153.symm)
        refine w_icge (t := 87) gz_37_69 rfl (fun u159 => ?_) (fun u159 => by exfalso; omega)
        refine w_iconst gz_37_87 (by decide) ?_
        refine v_putI (j := 6) gz_37_88 rfl is_82 rd_5 rfl (by omega) (by omega) rfl (fun h160 fh160 => ?_)
        have gh160 : my_fr [(5, 5), (5, 6), (5, 7), (5, 8)] h h160 := my_fr.up gh156 is_82 fh160 rfl
        refine w_aload_n gz_37_91 rfl ?_
        refine v_getI (j := 6) gz_37_92 rfl is_82 rd_5 rfl (fun v161 ev161 pv161 qv161 => ?_)
        have zv161 := ev161.trans (my_up_self fh160)
        refine w_ifne (t := 99) gz_37_95 rfl (fun u162 => by exfalso; omega) (fun u162 => ?_)
        have ce163 : h160 82 4 = v158 := ((my_up_fld fh160 (by decide)).trans ev158.symm)
        have ce164 : h160 82 5 = v157 := ((my_up_fld fh160 (by decide)).trans ev157.symm)
        have ce165 : h160 82 6 = v161 := ev161.symm
        have ce166 : h160 82 7 = v155 := ((my_up_fld fh160 (by decide)).trans (my_up_self fh156))
        have ce167 : h160 82 8 = h0_0 82 8 := ((my_up_fld fh160 (by decide)).trans ((my_up_fld fh156 (by decide)).trans (rfl : h0_0 82 8 = h0_0 82 8)))
        have TT : tk_T (h 92) (h 82 4) (h 82 5) (h160 82 7) (h160 82 5) (h160 82 6) (h160 82 8) := by first | exact tk_end b52 (by omega) (by omega) (by omega) (by omega) (by omega) | exact tk_fin A_181_0 E_181_0 D_181_0 (by omega) (by omega) (by omega) (by omega) (by omega) (by omega) (by omega) (by omega) (by omega)
        have Al_h160t168 : Al h160 := by unfold Al; omega
        have Cu_h160t169 : Cu h160 := Cu_T TT (fun j => my_fr.at gh160 is_92 rfl) (my_fr.at gh160 is_82 rfl)
        have c170 := ev161.symm
        have c171 := ((my_up_fld fh160 (by decide)).trans ((my_up_fld fh156 (by decide)).trans c82_9_0_0))
        exact w_vret gz_37_98 gm_37 (k0 h160 (gh160) (by omega) (by omega) (by omega) (by first | exact T_s TT | exact T_ns (T_s TT) | omega) (by first | exact T_s TT | exact T_ns (T_s TT) | omega) Al_h160t168 Cu_h160t169)
      ·
        refine w_aload_n gz_37_11 rfl ?_
        refine w_getX (v := 92) gz_37_12 is_82 rd_5 rfl (by decide) rfl ?_
        refine w_aload_n gz_37_15 rfl ?_
        refine v_getI (j := 5) gz_37_16 rfl is_82 rd_5 rfl (fun v173 ev173 pv173 qv173 => ?_)
        have zv173 := ev173.trans ev152.symm
        refine w_yald gz_37_19 is_92 rd_40 (by omega) (by omega) (fun v174 ev174 pv174 qv174 => ?_)
        have c20 : v174 = h 92 (h0_0 82 5) := by
          have z : h0_0 92 v173 = h 92 v173 := by first | rfl | exact my_fr.at gh_0_0 is_92 rfl
          rw [show (h0_0 82 5) = v173 by omega]
          omega
        refine w_bipush gz_37_20 (by decide) ?_
        refine w_iceq (t := 39) gz_37_22 rfl (fun u175 => ?_) (fun u175 => ?_)
        ·
          refine w_aload_n gz_37_39 rfl ?_
          refine w_dup gz_37_40 rfl ?_
          refine v_getI (j := 5) gz_37_41 rfl is_82 rd_5 rfl (fun v176 ev176 pv176 qv176 => ?_)
          have zv176 := ev176.trans ev173.symm
          refine w_iconst gz_37_44 (by decide) ?_
          refine w_iadd gz_37_45 ⟨by omega, by omega⟩ ?_
          refine v_putI (j := 5) gz_37_46 rfl is_82 rd_5 rfl (by omega) (by omega) rfl (fun h177 fh177 => ?_)
          have gh177 : my_fr [(5, 5), (5, 6), (5, 7), (5, 8)] h h177 := my_fr.up gh_0_0 is_82 fh177 rfl
          have b46 : ∀ i : Int, h 82 5 ≤ i → i < h177 82 5 → h 92 i = 10 ∨ h 92 i = 32 := by
            have z := my_up_self fh177
            intro i a b
            rcases (by omega : i = h0_0 82 5 ∨ i < h0_0 82 5) with q | q
            · rw [q]; omega
            · first | exact bl_0_0 i a q | omega
          refine w_goto (t := 0) gz_37_49 rfl ?_
          have ce178 : h177 82 5 = (v176 + 1) := (my_up_self fh177)
          exact ih_0_0 ((v176 + 1)) h177 (gh177) (by omega) (by omega) (by omega) (by omega) (by omega) (by omega) (by omega) (((my_up_fld fh177 (by decide)).trans ev153.symm).trans (by omega)) ((my_up_self fh177).trans (by omega)) (((my_up_fld fh177 (by decide)).trans c82_9_0_0).trans (by omega)) (b46) (by omega)
        ·
          refine w_aload_n gz_37_25 rfl ?_
          refine w_getX (v := 92) gz_37_26 is_82 rd_5 rfl (by decide) rfl ?_
          refine w_aload_n gz_37_29 rfl ?_
          refine v_getI (j := 5) gz_37_30 rfl is_82 rd_5 rfl (fun v180 ev180 pv180 qv180 => ?_)
          have zv180 := ev180.trans ev173.symm
          refine w_yald gz_37_33 is_92 rd_40 (by omega) (by omega) (fun v181 ev181 pv181 qv181 => ?_)
          have wv181 : v180 = v173 := by omega
          rw [wv181] at ev181
          have zv181 := ev181.trans ev174.symm
          have c34 : v181 = h 92 (h0_0 82 5) := by
            have z : h0_0 92 v173 = h 92 v173 := by first | rfl | exact my_fr.at gh_0_0 is_92 rfl
            rw [show (h0_0 82 5) = v173 by omega]
            omega
          refine w_bipush gz_37_34 (by decide) ?_
          refine w_icne (t := 52) gz_37_36 rfl (fun u182 => ?_) (fun u182 => ?_)
          ·
            obtain ⟨st, est⟩ : ∃ z : Int, z = h0_0 82 5 := ⟨_, rfl⟩
            have b52 : ∀ i : Int, h 82 5 ≤ i → i < st → h 92 i = 10 ∨ h 92 i = 32 := by first | (intro i a b; exact bl_0_0 i a (by omega)) | (intro i a b; omega)
            have n52 : st < h0_0 82 4 → h 92 st ≠ 10 ∧ h 92 st ≠ 32 := by rw [est]; intro q; omega
            refine w_aload_n gz_37_52 rfl ?_
            refine w_aload_n gz_37_53 rfl ?_
            refine v_getI (j := 5) gz_37_54 rfl is_82 rd_5 rfl (fun v183 ev183 pv183 qv183 => ?_)
            have zv183 := ev183.trans ev180.symm
            refine v_putI (j := 7) gz_37_57 rfl is_82 rd_5 rfl (by omega) (by omega) rfl (fun h184 fh184 => ?_)
            have gh184 : my_fr [(5, 5), (5, 6), (5, 7), (5, 8)] h h184 := my_fr.up gh_0_0 is_82 fh184 rfl
            refine w_aload_n gz_37_60 rfl ?_
            refine w_aload_n gz_37_61 rfl ?_
            refine v_getI (j := 5) gz_37_62 rfl is_82 rd_5 rfl (fun v185 ev185 pv185 qv185 => ?_)
            have zv185 := ev185.trans ((my_up_fld fh184 (by decide)).trans ev183.symm)
            refine w_aload_n gz_37_65 rfl ?_
            refine v_getI (j := 4) gz_37_66 rfl is_82 rd_5 rfl (fun v186 ev186 pv186 qv186 => ?_)
            have zv186 := ev186.trans ((my_up_fld fh184 (by decide)).trans ev153.symm)
            refine w_icge (t := 87) gz_37_69 rfl (fun u187 => by exfalso; omega) (fun u187 => ?_)
            refine w_aload_n gz_37_72 rfl ?_
            refine w_getX (v := 92) gz_37_73 is_82 rd_5 rfl (by decide) rfl ?_
            refine w_aload_n gz_37_76 rfl ?_
            refine v_getI (j := 5) gz_37_77 rfl is_82 rd_5 rfl (fun v189 ev189 pv189 qv189 => ?_)
            have zv189 := ev189.trans ev185.symm
            have sg0 : ∀ j : Int, h184 92 j = h0_0 92 j := fun j => ((my_up_role fh184 is_92 is_82 rfl).trans (rfl : h0_0 92 j = h0_0 92 j))
            refine w_yald gz_37_80 is_92 rd_40 (by omega) (by omega) (fun v190 ev190 pv190 qv190 => ?_)
            have wv190 : v189 = v173 := by omega
            rw [wv190] at ev190
            have zv190 := ev190.trans ((my_up_role fh184 is_92 is_82 rfl).trans ev181.symm)
            have sgi : ∀ k : Int, k = v173 → h184 92 k = v190 := fun k q => by rw [q]; omega
            have c81 : v190 = h 92 st := by
              have z : h184 92 v173 = h 92 v173 := by first | rfl | exact my_fr.at gh184 is_92 rfl
              rw [show st = v173 by omega]
              omega
            refine w_inS (k := 0) (as := [(0, v190)]) (r := [(2, 82)]) (ls0 := [(0, v190)]) gz_37_81 gm_38 rfl rfl rfl rfl rfl rfl ?_
            refine w_iload_n gz_38_0 rfl ?_
            refine w_bipush gz_38_1 (by decide) ?_
            refine w_iclt (t := 14) gz_38_3 rfl (fun u191 => ?_) (fun u191 => ?_)
            ·
              refine w_iload_n gz_38_14 rfl ?_
              refine w_bipush gz_38_15 (by decide) ?_
              refine w_iclt (t := 28) gz_38_17 rfl (fun u192 => ?_) (fun u192 => ?_)
              ·
                refine w_iload_n gz_38_28 rfl ?_
                refine w_bipush gz_38_29 (by decide) ?_
                refine w_icne (t := 38) gz_38_31 rfl (fun u193 => ?_) (fun u193 => by exfalso; omega)
                refine w_iconst gz_38_38 (by decide) ?_
                refine w_iret gz_38_39 gm_38 ?_
                show wp l rho (d + 1) 37 84 [(2, 82), (9, 0), (9, 0)] [(0, 4), (2, 82)] h184 Q
                refine w_goto (t := 88) gz_37_84 rfl ?_
                have k88 : tk_k (h 92 st) = 4 := by rw [← c81]; unfold tk_k; (repeat (first | rw [if_pos (by omega)] | rw [if_neg (by omega)]))
                refine v_putI (j := 6) gz_37_88 rfl is_82 rd_5 rfl (by omega) (by omega) rfl (fun h194 fh194 => ?_)
                have gh194 : my_fr [(5, 5), (5, 6), (5, 7), (5, 8)] h h194 := my_fr.up gh184 is_82 fh194 rfl
                refine w_aload_n gz_37_91 rfl ?_
                refine v_getI (j := 6) gz_37_92 rfl is_82 rd_5 rfl (fun v195 ev195 pv195 qv195 => ?_)
                have zv195 := ev195.trans (my_up_self fh194)
                refine w_ifne (t := 99) gz_37_95 rfl (fun u196 => ?_) (fun u196 => by exfalso; omega)
                refine w_aload_n gz_37_99 rfl ?_
                refine w_iconst gz_37_100 (by decide) ?_
                refine v_putI (j := 8) gz_37_101 rfl is_82 rd_5 rfl (by omega) (by omega) rfl (fun h197 fh197 => ?_)
                have gh197 : my_fr [(5, 5), (5, 6), (5, 7), (5, 8)] h h197 := my_fr.up gh194 is_82 fh197 rfl
                refine w_aload_n gz_37_104 rfl ?_
                refine v_getI (j := 6) gz_37_105 rfl is_82 rd_5 rfl (fun v198 ev198 pv198 qv198 => ?_)
                have zv198 := ev198.trans ((my_up_fld fh197 (by decide)).trans ev195.symm)
                refine w_iconst gz_37_108 (by decide) ?_
                refine w_icne (t := 117) gz_37_109 rfl (fun u199 => ?_) (fun u199 => by exfalso; omega)
                refine w_aload_n gz_37_117 rfl ?_
                refine v_getI (j := 6) gz_37_118 rfl is_82 rd_5 rfl (fun v200 ev200 pv200 qv200 => ?_)
                have zv200 := ev200.trans ev198.symm
                refine w_iconst gz_37_121 (by decide) ?_
                refine w_icne (t := 129) gz_37_122 rfl (fun u201 => ?_) (fun u201 => by exfalso; omega)
                refine w_iconst gz_37_129 (by decide) ?_
                refine w_istore_n (ls' := [(2, 82), (0, 1), (9, 0)]) gz_37_130 gm_37 rfl rfl rfl ?_
                refine w_aload_n gz_37_131 rfl ?_
                refine v_getI (j := 7) gz_37_132 rfl is_82 rd_5 rfl (fun v202 ev202 pv202 qv202 => ?_)
                have zv202 := ev202.trans ((my_up_fld fh197 (by decide)).trans ((my_up_fld fh194 (by decide)).trans (my_up_self fh184)))
                refine w_iconst gz_37_135 (by decide) ?_
                refine w_iadd gz_37_136 ⟨by omega, by omega⟩ ?_
                refine w_istore_n (ls' := [(2, 82), (0, 1), (0, (v202 + 1))]) gz_37_137 gm_37 rfl rfl rfl ?_
                have ce203 : h197 82 5 = v189 := ((my_up_fld fh197 (by decide)).trans ((my_up_fld fh194 (by decide)).trans ev189.symm))
                have ce204 : h197 82 6 = v200 := ev200.symm
                have ce205 : h197 82 7 = v202 := ev202.symm
                have ce206 : h197 82 8 = 0 := (my_up_self fh197)
                have sg : ∀ j : Int, h197 92 j = h0_0 92 j := fun j => ((my_up_role fh197 is_92 is_82 rfl).trans ((my_up_role fh194 is_92 is_82 rfl).trans ((my_up_role fh184 is_92 is_82 rfl).trans (rfl : h0_0 92 j = h0_0 92 j))))
                exact J138_0 (1001) (1) ((v202 + 1)) (v189) (v200) h197 (gh197) (by omega) (by omega) (by omega) (by omega) (by omega) (by omega) (by omega) (by omega) (by omega) (by omega) (by omega) (by omega) (by omega) (by omega) (by omega) (by omega) (((my_up_fld fh197 (by decide)).trans ((my_up_fld fh194 (by decide)).trans ev186.symm)).trans (by omega)) (((my_up_fld fh197 (by decide)).trans ((my_up_fld fh194 (by decide)).trans ev189.symm)).trans (by omega)) (ev200.symm.trans (by omega)) (ev202.symm.trans (by omega)) ((my_up_self fh197).trans (by omega)) (((my_up_fld fh197 (by decide)).trans ((my_up_fld fh194 (by decide)).trans ((my_up_fld fh184 (by decide)).trans c82_9_0_0))).trans (by omega)) (by omega) (by first | (intro t k a b; rw [sg]; exact dg_181_0 (by omega) k (by omega) (by omega)) | (intro t k a b; rw [sg]; exact dg_138_0 (by omega) k (by omega) (by omega)) | (intro t k a b; rw [sg, ← sg0, sgi k (by omega)]; omega) | (intro t; omega) | (intro t k a b; rw [sg]; rcases (by omega : k = p138_1 ∨ k < p138_1) with q | q <;> first | exact dg_138_0 (by omega) k (by omega) (by omega) | (subst q; omega)) | omega) (by first | assumption | omega | (subst_vars; omega) | omega) (by first | assumption | omega | (subst_vars; omega) | omega) (by first | assumption | omega | (subst_vars; omega) | omega) (by first | exact tk_A_e A_181_0 (by omega) (by omega) (by omega) | exact tk_A_s A_138_0 (by omega) (by omega) (by omega) (by omega) | exact tk_A_e A_138_0 (by omega) (by omega) (by omega) | exact tk_A_0 b52 (n52 (by omega)).1 (n52 (by omega)).2 k88 (by omega) (by omega) (by omega) | omega) (by omega) (by omega) (by omega)
              ·
                refine w_iload_n gz_38_20 rfl ?_
                refine w_bipush gz_38_21 (by decide) ?_
                refine w_icgt (t := 28) gz_38_23 rfl (fun u207 => ?_) (fun u207 => ?_)
                ·
                  refine w_iload_n gz_38_28 rfl ?_
                  refine w_bipush gz_38_29 (by decide) ?_
                  refine w_icne (t := 38) gz_38_31 rfl (fun u208 => ?_) (fun u208 => ?_)
                  ·
                    refine w_iconst gz_38_38 (by decide) ?_
                    refine w_iret gz_38_39 gm_38 ?_
                    show wp l rho (d + 1) 37 84 [(2, 82), (9, 0), (9, 0)] [(0, 4), (2, 82)] h184 Q
                    refine w_goto (t := 88) gz_37_84 rfl ?_
                    have k88 : tk_k (h 92 st) = 4 := by rw [← c81]; unfold tk_k; (repeat (first | rw [if_pos (by omega)] | rw [if_neg (by omega)]))
                    refine v_putI (j := 6) gz_37_88 rfl is_82 rd_5 rfl (by omega) (by omega) rfl (fun h209 fh209 => ?_)
                    have gh209 : my_fr [(5, 5), (5, 6), (5, 7), (5, 8)] h h209 := my_fr.up gh184 is_82 fh209 rfl
                    refine w_aload_n gz_37_91 rfl ?_
                    refine v_getI (j := 6) gz_37_92 rfl is_82 rd_5 rfl (fun v210 ev210 pv210 qv210 => ?_)
                    have zv210 := ev210.trans (my_up_self fh209)
                    refine w_ifne (t := 99) gz_37_95 rfl (fun u211 => ?_) (fun u211 => by exfalso; omega)
                    refine w_aload_n gz_37_99 rfl ?_
                    refine w_iconst gz_37_100 (by decide) ?_
                    refine v_putI (j := 8) gz_37_101 rfl is_82 rd_5 rfl (by omega) (by omega) rfl (fun h212 fh212 => ?_)
                    have gh212 : my_fr [(5, 5), (5, 6), (5, 7), (5, 8)] h h212 := my_fr.up gh209 is_82 fh212 rfl
                    refine w_aload_n gz_37_104 rfl ?_
                    refine v_getI (j := 6) gz_37_105 rfl is_82 rd_5 rfl (fun v213 ev213 pv213 qv213 => ?_)
                    have zv213 := ev213.trans ((my_up_fld fh212 (by decide)).trans ev210.symm)
                    refine w_iconst gz_37_108 (by decide) ?_
                    refine w_icne (t := 117) gz_37_109 rfl (fun u214 => ?_) (fun u214 => by exfalso; omega)
                    refine w_aload_n gz_37_117 rfl ?_
                    refine v_getI (j := 6) gz_37_118 rfl is_82 rd_5 rfl (fun v215 ev215 pv215 qv215 => ?_)
                    have zv215 := ev215.trans ev213.symm
                    refine w_iconst gz_37_121 (by decide) ?_
                    refine w_icne (t := 129) gz_37_122 rfl (fun u216 => ?_) (fun u216 => by exfalso; omega)
                    refine w_iconst gz_37_129 (by decide) ?_
                    refine w_istore_n (ls' := [(2, 82), (0, 1), (9, 0)]) gz_37_130 gm_37 rfl rfl rfl ?_
                    refine w_aload_n gz_37_131 rfl ?_
                    refine v_getI (j := 7) gz_37_132 rfl is_82 rd_5 rfl (fun v217 ev217 pv217 qv217 => ?_)
                    have zv217 := ev217.trans ((my_up_fld fh212 (by decide)).trans ((my_up_fld fh209 (by decide)).trans (my_up_self fh184)))
                    refine w_iconst gz_37_135 (by decide) ?_
                    refine w_iadd gz_37_136 ⟨by omega, by omega⟩ ?_
                    refine w_istore_n (ls' := [(2, 82), (0, 1), (0, (v217 + 1))]) gz_37_137 gm_37 rfl rfl rfl ?_
                    have ce218 : h212 82 5 = v189 := ((my_up_fld fh212 (by decide)).trans ((my_up_fld fh209 (by decide)).trans ev189.symm))
                    have ce219 : h212 82 6 = v215 := ev215.symm
                    have ce220 : h212 82 7 = v217 := ev217.symm
                    have ce221 : h212 82 8 = 0 := (my_up_self fh212)
                    have sg : ∀ j : Int, h212 92 j = h0_0 92 j := fun j => ((my_up_role fh212 is_92 is_82 rfl).trans ((my_up_role fh209 is_92 is_82 rfl).trans ((my_up_role fh184 is_92 is_82 rfl).trans (rfl : h0_0 92 j = h0_0 92 j))))
                    exact J138_0 (1001) (1) ((v217 + 1)) (v189) (v215) h212 (gh212) (by omega) (by omega) (by omega) (by omega) (by omega) (by omega) (by omega) (by omega) (by omega) (by omega) (by omega) (by omega) (by omega) (by omega) (by omega) (by omega) (((my_up_fld fh212 (by decide)).trans ((my_up_fld fh209 (by decide)).trans ev186.symm)).trans (by omega)) (((my_up_fld fh212 (by decide)).trans ((my_up_fld fh209 (by decide)).trans ev189.symm)).trans (by omega)) (ev215.symm.trans (by omega)) (ev217.symm.trans (by omega)) ((my_up_self fh212).trans (by omega)) (((my_up_fld fh212 (by decide)).trans ((my_up_fld fh209 (by decide)).trans ((my_up_fld fh184 (by decide)).trans c82_9_0_0))).trans (by omega)) (by omega) (by first | (intro t k a b; rw [sg]; exact dg_181_0 (by omega) k (by omega) (by omega)) | (intro t k a b; rw [sg]; exact dg_138_0 (by omega) k (by omega) (by omega)) | (intro t k a b; rw [sg, ← sg0, sgi k (by omega)]; omega) | (intro t; omega) | (intro t k a b; rw [sg]; rcases (by omega : k = p138_1 ∨ k < p138_1) with q | q <;> first | exact dg_138_0 (by omega) k (by omega) (by omega) | (subst q; omega)) | omega) (by first | assumption | omega | (subst_vars; omega) | omega) (by first | assumption | omega | (subst_vars; omega) | omega) (by first | assumption | omega | (subst_vars; omega) | omega) (by first | exact tk_A_e A_181_0 (by omega) (by omega) (by omega) | exact tk_A_s A_138_0 (by omega) (by omega) (by omega) (by omega) | exact tk_A_e A_138_0 (by omega) (by omega) (by omega) | exact tk_A_0 b52 (n52 (by omega)).1 (n52 (by omega)).2 k88 (by omega) (by omega) (by omega) | omega) (by omega) (by omega) (by omega)
                  ·
                    refine w_iconst gz_38_34 (by decide) ?_
                    refine w_goto (t := 39) gz_38_35 rfl ?_
                    refine w_iret gz_38_39 gm_38 ?_
                    show wp l rho (d + 1) 37 84 [(2, 82), (9, 0), (9, 0)] [(0, 3), (2, 82)] h184 Q
                    refine w_goto (t := 88) gz_37_84 rfl ?_
                    have k88 : tk_k (h 92 st) = 3 := by rw [← c81]; unfold tk_k; (repeat (first | rw [if_pos (by omega)] | rw [if_neg (by omega)]))
                    refine v_putI (j := 6) gz_37_88 rfl is_82 rd_5 rfl (by omega) (by omega) rfl (fun h222 fh222 => ?_)
                    have gh222 : my_fr [(5, 5), (5, 6), (5, 7), (5, 8)] h h222 := my_fr.up gh184 is_82 fh222 rfl
                    refine w_aload_n gz_37_91 rfl ?_
                    refine v_getI (j := 6) gz_37_92 rfl is_82 rd_5 rfl (fun v223 ev223 pv223 qv223 => ?_)
                    have zv223 := ev223.trans (my_up_self fh222)
                    refine w_ifne (t := 99) gz_37_95 rfl (fun u224 => ?_) (fun u224 => by exfalso; omega)
                    refine w_aload_n gz_37_99 rfl ?_
                    refine w_iconst gz_37_100 (by decide) ?_
                    refine v_putI (j := 8) gz_37_101 rfl is_82 rd_5 rfl (by omega) (by omega) rfl (fun h225 fh225 => ?_)
                    have gh225 : my_fr [(5, 5), (5, 6), (5, 7), (5, 8)] h h225 := my_fr.up gh222 is_82 fh225 rfl
                    refine w_aload_n gz_37_104 rfl ?_
                    refine v_getI (j := 6) gz_37_105 rfl is_82 rd_5 rfl (fun v226 ev226 pv226 qv226 => ?_)
                    have zv226 := ev226.trans ((my_up_fld fh225 (by decide)).trans ev223.symm)
                    refine w_iconst gz_37_108 (by decide) ?_
                    refine w_icne (t := 117) gz_37_109 rfl (fun u227 => ?_) (fun u227 => by exfalso; omega)
                    refine w_aload_n gz_37_117 rfl ?_
                    refine v_getI (j := 6) gz_37_118 rfl is_82 rd_5 rfl (fun v228 ev228 pv228 qv228 => ?_)
                    have zv228 := ev228.trans ev226.symm
                    refine w_iconst gz_37_121 (by decide) ?_
                    refine w_icne (t := 129) gz_37_122 rfl (fun u229 => ?_) (fun u229 => by exfalso; omega)
                    refine w_iconst gz_37_129 (by decide) ?_
                    refine w_istore_n (ls' := [(2, 82), (0, 1), (9, 0)]) gz_37_130 gm_37 rfl rfl rfl ?_
                    refine w_aload_n gz_37_131 rfl ?_
                    refine v_getI (j := 7) gz_37_132 rfl is_82 rd_5 rfl (fun v230 ev230 pv230 qv230 => ?_)
                    have zv230 := ev230.trans ((my_up_fld fh225 (by decide)).trans ((my_up_fld fh222 (by decide)).trans (my_up_self fh184)))
                    refine w_iconst gz_37_135 (by decide) ?_
                    refine w_iadd gz_37_136 ⟨by omega, by omega⟩ ?_
                    refine w_istore_n (ls' := [(2, 82), (0, 1), (0, (v230 + 1))]) gz_37_137 gm_37 rfl rfl rfl ?_
                    have ce231 : h225 82 5 = v189 := ((my_up_fld fh225 (by decide)).trans ((my_up_fld fh222 (by decide)).trans ev189.symm))
                    have ce232 : h225 82 6 = v228 := ev228.symm
                    have ce233 : h225 82 7 = v230 := ev230.symm
                    have ce234 : h225 82 8 = 0 := (my_up_self fh225)
                    have sg : ∀ j : Int, h225 92 j = h0_0 92 j := fun j => ((my_up_role fh225 is_92 is_82 rfl).trans ((my_up_role fh222 is_92 is_82 rfl).trans ((my_up_role fh184 is_92 is_82 rfl).trans (rfl : h0_0 92 j = h0_0 92 j))))
                    exact J138_0 (1001) (1) ((v230 + 1)) (v189) (v228) h225 (gh225) (by omega) (by omega) (by omega) (by omega) (by omega) (by omega) (by omega) (by omega) (by omega) (by omega) (by omega) (by omega) (by omega) (by omega) (by omega) (by omega) (((my_up_fld fh225 (by decide)).trans ((my_up_fld fh222 (by decide)).trans ev186.symm)).trans (by omega)) (((my_up_fld fh225 (by decide)).trans ((my_up_fld fh222 (by decide)).trans ev189.symm)).trans (by omega)) (ev228.symm.trans (by omega)) (ev230.symm.trans (by omega)) ((my_up_self fh225).trans (by omega)) (((my_up_fld fh225 (by decide)).trans ((my_up_fld fh222 (by decide)).trans ((my_up_fld fh184 (by decide)).trans c82_9_0_0))).trans (by omega)) (by omega) (by first | (intro t k a b; rw [sg]; exact dg_181_0 (by omega) k (by omega) (by omega)) | (intro t k a b; rw [sg]; exact dg_138_0 (by omega) k (by omega) (by omega)) | (intro t k a b; rw [sg, ← sg0, sgi k (by omega)]; omega) | (intro t; omega) | (intro t k a b; rw [sg]; rcases (by omega : k = p138_1 ∨ k < p138_1) with q | q <;> first | exact dg_138_0 (by omega) k (by omega) (by omega) | (subst q; omega)) | omega) (by first | assumption | omega | (subst_vars; omega) | omega) (by first | assumption | omega | (subst_vars; omega) | omega) (by first | assumption | omega | (subst_vars; omega) | omega) (by first | exact tk_A_e A_181_0 (by omega) (by omega) (by omega) | exact tk_A_s A_138_0 (by omega) (by omega) (by omega) (by omega) | exact tk_A_e A_138_0 (by omega) (by omega) (by omega) | exact tk_A_0 b52 (n52 (by omega)).1 (n52 (by omega)).2 k88 (by omega) (by omega) (by omega) | omega) (by omega) (by omega) (by omega)
                ·
                  refine w_iconst gz_38_26 (by decide) ?_
                  refine w_iret gz_38_27 gm_38 ?_
                  show wp l rho (d + 1) 37 84 [(2, 82), (9, 0), (9, 0)] [(0, 2), (2, 82)] h184 Q
                  refine w_goto (t := 88) gz_37_84 rfl ?_
                  have k88 : tk_k (h 92 st) = 2 := by rw [← c81]; unfold tk_k; (repeat (first | rw [if_pos (by omega)] | rw [if_neg (by omega)]))
                  refine v_putI (j := 6) gz_37_88 rfl is_82 rd_5 rfl (by omega) (by omega) rfl (fun h235 fh235 => ?_)
                  have gh235 : my_fr [(5, 5), (5, 6), (5, 7), (5, 8)] h h235 := my_fr.up gh184 is_82 fh235 rfl
                  refine w_aload_n gz_37_91 rfl ?_
                  refine v_getI (j := 6) gz_37_92 rfl is_82 rd_5 rfl (fun v236 ev236 pv236 qv236 => ?_)
                  have zv236 := ev236.trans (my_up_self fh235)
                  refine w_ifne (t := 99) gz_37_95 rfl (fun u237 => ?_) (fun u237 => by exfalso; omega)
                  refine w_aload_n gz_37_99 rfl ?_
                  refine w_iconst gz_37_100 (by decide) ?_
                  refine v_putI (j := 8) gz_37_101 rfl is_82 rd_5 rfl (by omega) (by omega) rfl (fun h238 fh238 => ?_)
                  have gh238 : my_fr [(5, 5), (5, 6), (5, 7), (5, 8)] h h238 := my_fr.up gh235 is_82 fh238 rfl
                  refine w_aload_n gz_37_104 rfl ?_
                  refine v_getI (j := 6) gz_37_105 rfl is_82 rd_5 rfl (fun v239 ev239 pv239 qv239 => ?_)
                  have zv239 := ev239.trans ((my_up_fld fh238 (by decide)).trans ev236.symm)
                  refine w_iconst gz_37_108 (by decide) ?_
                  refine w_icne (t := 117) gz_37_109 rfl (fun u240 => ?_) (fun u240 => by exfalso; omega)
                  refine w_aload_n gz_37_117 rfl ?_
                  refine v_getI (j := 6) gz_37_118 rfl is_82 rd_5 rfl (fun v241 ev241 pv241 qv241 => ?_)
                  have zv241 := ev241.trans ev239.symm
                  refine w_iconst gz_37_121 (by decide) ?_
                  refine w_icne (t := 129) gz_37_122 rfl (fun u242 => by exfalso; omega) (fun u242 => ?_)
                  refine w_iconst gz_37_125 (by decide) ?_
                  refine w_goto (t := 130) gz_37_126 rfl ?_
                  refine w_istore_n (ls' := [(2, 82), (0, 3), (9, 0)]) gz_37_130 gm_37 rfl rfl rfl ?_
                  refine w_aload_n gz_37_131 rfl ?_
                  refine v_getI (j := 7) gz_37_132 rfl is_82 rd_5 rfl (fun v243 ev243 pv243 qv243 => ?_)
                  have zv243 := ev243.trans ((my_up_fld fh238 (by decide)).trans ((my_up_fld fh235 (by decide)).trans (my_up_self fh184)))
                  refine w_iconst gz_37_135 (by decide) ?_
                  refine w_iadd gz_37_136 ⟨by omega, by omega⟩ ?_
                  refine w_istore_n (ls' := [(2, 82), (0, 3), (0, (v243 + 1))]) gz_37_137 gm_37 rfl rfl rfl ?_
                  have ce244 : h238 82 5 = v189 := ((my_up_fld fh238 (by decide)).trans ((my_up_fld fh235 (by decide)).trans ev189.symm))
                  have ce245 : h238 82 6 = v241 := ev241.symm
                  have ce246 : h238 82 7 = v243 := ev243.symm
                  have ce247 : h238 82 8 = 0 := (my_up_self fh238)
                  have sg : ∀ j : Int, h238 92 j = h0_0 92 j := fun j => ((my_up_role fh238 is_92 is_82 rfl).trans ((my_up_role fh235 is_92 is_82 rfl).trans ((my_up_role fh184 is_92 is_82 rfl).trans (rfl : h0_0 92 j = h0_0 92 j))))
                  exact J138_0 (1001) (3) ((v243 + 1)) (v189) (v241) h238 (gh238) (by omega) (by omega) (by omega) (by omega) (by omega) (by omega) (by omega) (by omega) (by omega) (by omega) (by omega) (by omega) (by omega) (by omega) (by omega) (by omega) (((my_up_fld fh238 (by decide)).trans ((my_up_fld fh235 (by decide)).trans ev186.symm)).trans (by omega)) (((my_up_fld fh238 (by decide)).trans ((my_up_fld fh235 (by decide)).trans ev189.symm)).trans (by omega)) (ev241.symm.trans (by omega)) (ev243.symm.trans (by omega)) ((my_up_self fh238).trans (by omega)) (((my_up_fld fh238 (by decide)).trans ((my_up_fld fh235 (by decide)).trans ((my_up_fld fh184 (by decide)).trans c82_9_0_0))).trans (by omega)) (by omega) (by first | (intro t k a b; rw [sg]; exact dg_181_0 (by omega) k (by omega) (by omega)) | (intro t k a b; rw [sg]; exact dg_138_0 (by omega) k (by omega) (by omega)) | (intro t k a b; rw [sg, ← sg0, sgi k (by omega)]; omega) | (intro t; omega) | (intro t k a b; rw [sg]; rcases (by omega : k = p138_1 ∨ k < p138_1) with q | q <;> first | exact dg_138_0 (by omega) k (by omega) (by omega) | (subst q; omega)) | omega) (by first | assumption | omega | (subst_vars; omega) | omega) (by first | assumption | omega | (subst_vars; omega) | omega) (by first | assumption | omega | (subst_vars; omega) | omega) (by first | exact tk_A_e A_181_0 (by omega) (by omega) (by omega) | exact tk_A_s A_138_0 (by omega) (by omega) (by omega) (by omega) | exact tk_A_e A_138_0 (by omega) (by omega) (by omega) | exact tk_A_0 b52 (n52 (by omega)).1 (n52 (by omega)).2 k88 (by omega) (by omega) (by omega) | omega) (by omega) (by omega) (by omega)
            ·
              refine w_iload_n gz_38_6 rfl ?_
              refine w_bipush gz_38_7 (by decide) ?_
              refine w_icgt (t := 14) gz_38_9 rfl (fun u248 => ?_) (fun u248 => ?_)
              ·
                refine w_iload_n gz_38_14 rfl ?_
                refine w_bipush gz_38_15 (by decide) ?_
                refine w_iclt (t := 28) gz_38_17 rfl (fun u249 => by exfalso; omega) (fun u249 => ?_)
                refine w_iload_n gz_38_20 rfl ?_
                refine w_bipush gz_38_21 (by decide) ?_
                refine w_icgt (t := 28) gz_38_23 rfl (fun u250 => ?_) (fun u250 => by exfalso; omega)
                refine w_iload_n gz_38_28 rfl ?_
                refine w_bipush gz_38_29 (by decide) ?_
                refine w_icne (t := 38) gz_38_31 rfl (fun u251 => ?_) (fun u251 => by exfalso; omega)
                refine w_iconst gz_38_38 (by decide) ?_
                refine w_iret gz_38_39 gm_38 ?_
                show wp l rho (d + 1) 37 84 [(2, 82), (9, 0), (9, 0)] [(0, 4), (2, 82)] h184 Q
                refine w_goto (t := 88) gz_37_84 rfl ?_
                have k88 : tk_k (h 92 st) = 4 := by rw [← c81]; unfold tk_k; (repeat (first | rw [if_pos (by omega)] | rw [if_neg (by omega)]))
                refine v_putI (j := 6) gz_37_88 rfl is_82 rd_5 rfl (by omega) (by omega) rfl (fun h252 fh252 => ?_)
                have gh252 : my_fr [(5, 5), (5, 6), (5, 7), (5, 8)] h h252 := my_fr.up gh184 is_82 fh252 rfl
                refine w_aload_n gz_37_91 rfl ?_
                refine v_getI (j := 6) gz_37_92 rfl is_82 rd_5 rfl (fun v253 ev253 pv253 qv253 => ?_)
                have zv253 := ev253.trans (my_up_self fh252)
                refine w_ifne (t := 99) gz_37_95 rfl (fun u254 => ?_) (fun u254 => by exfalso; omega)
                refine w_aload_n gz_37_99 rfl ?_
                refine w_iconst gz_37_100 (by decide) ?_
                refine v_putI (j := 8) gz_37_101 rfl is_82 rd_5 rfl (by omega) (by omega) rfl (fun h255 fh255 => ?_)
                have gh255 : my_fr [(5, 5), (5, 6), (5, 7), (5, 8)] h h255 := my_fr.up gh252 is_82 fh255 rfl
                refine w_aload_n gz_37_104 rfl ?_
                refine v_getI (j := 6) gz_37_105 rfl is_82 rd_5 rfl (fun v256 ev256 pv256 qv256 => ?_)
                have zv256 := ev256.trans ((my_up_fld fh255 (by decide)).trans ev253.symm)
                refine w_iconst gz_37_108 (by decide) ?_
                refine w_icne (t := 117) gz_37_109 rfl (fun u257 => ?_) (fun u257 => by exfalso; omega)
                refine w_aload_n gz_37_117 rfl ?_
                refine v_getI (j := 6) gz_37_118 rfl is_82 rd_5 rfl (fun v258 ev258 pv258 qv258 => ?_)
                have zv258 := ev258.trans ev256.symm
                refine w_iconst gz_37_121 (by decide) ?_
                refine w_icne (t := 129) gz_37_122 rfl (fun u259 => ?_) (fun u259 => by exfalso; omega)
                refine w_iconst gz_37_129 (by decide) ?_
                refine w_istore_n (ls' := [(2, 82), (0, 1), (9, 0)]) gz_37_130 gm_37 rfl rfl rfl ?_
                refine w_aload_n gz_37_131 rfl ?_
                refine v_getI (j := 7) gz_37_132 rfl is_82 rd_5 rfl (fun v260 ev260 pv260 qv260 => ?_)
                have zv260 := ev260.trans ((my_up_fld fh255 (by decide)).trans ((my_up_fld fh252 (by decide)).trans (my_up_self fh184)))
                refine w_iconst gz_37_135 (by decide) ?_
                refine w_iadd gz_37_136 ⟨by omega, by omega⟩ ?_
                refine w_istore_n (ls' := [(2, 82), (0, 1), (0, (v260 + 1))]) gz_37_137 gm_37 rfl rfl rfl ?_
                have ce261 : h255 82 5 = v189 := ((my_up_fld fh255 (by decide)).trans ((my_up_fld fh252 (by decide)).trans ev189.symm))
                have ce262 : h255 82 6 = v258 := ev258.symm
                have ce263 : h255 82 7 = v260 := ev260.symm
                have ce264 : h255 82 8 = 0 := (my_up_self fh255)
                have sg : ∀ j : Int, h255 92 j = h0_0 92 j := fun j => ((my_up_role fh255 is_92 is_82 rfl).trans ((my_up_role fh252 is_92 is_82 rfl).trans ((my_up_role fh184 is_92 is_82 rfl).trans (rfl : h0_0 92 j = h0_0 92 j))))
                exact J138_0 (1001) (1) ((v260 + 1)) (v189) (v258) h255 (gh255) (by omega) (by omega) (by omega) (by omega) (by omega) (by omega) (by omega) (by omega) (by omega) (by omega) (by omega) (by omega) (by omega) (by omega) (by omega) (by omega) (((my_up_fld fh255 (by decide)).trans ((my_up_fld fh252 (by decide)).trans ev186.symm)).trans (by omega)) (((my_up_fld fh255 (by decide)).trans ((my_up_fld fh252 (by decide)).trans ev189.symm)).trans (by omega)) (ev258.symm.trans (by omega)) (ev260.symm.trans (by omega)) ((my_up_self fh255).trans (by omega)) (((my_up_fld fh255 (by decide)).trans ((my_up_fld fh252 (by decide)).trans ((my_up_fld fh184 (by decide)).trans c82_9_0_0))).trans (by omega)) (by omega) (by first | (intro t k a b; rw [sg]; exact dg_181_0 (by omega) k (by omega) (by omega)) | (intro t k a b; rw [sg]; exact dg_138_0 (by omega) k (by omega) (by omega)) | (intro t k a b; rw [sg, ← sg0, sgi k (by omega)]; omega) | (intro t; omega) | (intro t k a b; rw [sg]; rcases (by omega : k = p138_1 ∨ k < p138_1) with q | q <;> first | exact dg_138_0 (by omega) k (by omega) (by omega) | (subst q; omega)) | omega) (by first | assumption | omega | (subst_vars; omega) | omega) (by first | assumption | omega | (subst_vars; omega) | omega) (by first | assumption | omega | (subst_vars; omega) | omega) (by first | exact tk_A_e A_181_0 (by omega) (by omega) (by omega) | exact tk_A_s A_138_0 (by omega) (by omega) (by omega) (by omega) | exact tk_A_e A_138_0 (by omega) (by omega) (by omega) | exact tk_A_0 b52 (n52 (by omega)).1 (n52 (by omega)).2 k88 (by omega) (by omega) (by omega) | omega) (by omega) (by omega) (by omega)
              ·
                refine w_iconst gz_38_12 (by decide) ?_
                refine w_iret gz_38_13 gm_38 ?_
                show wp l rho (d + 1) 37 84 [(2, 82), (9, 0), (9, 0)] [(0, 1), (2, 82)] h184 Q
                refine w_goto (t := 88) gz_37_84 rfl ?_
                have k88 : tk_k (h 92 st) = 1 := by rw [← c81]; unfold tk_k; (repeat (first | rw [if_pos (by omega)] | rw [if_neg (by omega)]))
                refine v_putI (j := 6) gz_37_88 rfl is_82 rd_5 rfl (by omega) (by omega) rfl (fun h265 fh265 => ?_)
                have gh265 : my_fr [(5, 5), (5, 6), (5, 7), (5, 8)] h h265 := my_fr.up gh184 is_82 fh265 rfl
                refine w_aload_n gz_37_91 rfl ?_
                refine v_getI (j := 6) gz_37_92 rfl is_82 rd_5 rfl (fun v266 ev266 pv266 qv266 => ?_)
                have zv266 := ev266.trans (my_up_self fh265)
                refine w_ifne (t := 99) gz_37_95 rfl (fun u267 => ?_) (fun u267 => by exfalso; omega)
                refine w_aload_n gz_37_99 rfl ?_
                refine w_iconst gz_37_100 (by decide) ?_
                refine v_putI (j := 8) gz_37_101 rfl is_82 rd_5 rfl (by omega) (by omega) rfl (fun h268 fh268 => ?_)
                have gh268 : my_fr [(5, 5), (5, 6), (5, 7), (5, 8)] h h268 := my_fr.up gh265 is_82 fh268 rfl
                refine w_aload_n gz_37_104 rfl ?_
                refine v_getI (j := 6) gz_37_105 rfl is_82 rd_5 rfl (fun v269 ev269 pv269 qv269 => ?_)
                have zv269 := ev269.trans ((my_up_fld fh268 (by decide)).trans ev266.symm)
                refine w_iconst gz_37_108 (by decide) ?_
                refine w_icne (t := 117) gz_37_109 rfl (fun u270 => by exfalso; omega) (fun u270 => ?_)
                refine w_bipush gz_37_112 (by decide) ?_
                refine w_goto (t := 130) gz_37_114 rfl ?_
                refine w_istore_n (ls' := [(2, 82), (0, 8), (9, 0)]) gz_37_130 gm_37 rfl rfl rfl ?_
                refine w_aload_n gz_37_131 rfl ?_
                refine v_getI (j := 7) gz_37_132 rfl is_82 rd_5 rfl (fun v271 ev271 pv271 qv271 => ?_)
                have zv271 := ev271.trans ((my_up_fld fh268 (by decide)).trans ((my_up_fld fh265 (by decide)).trans (my_up_self fh184)))
                refine w_iconst gz_37_135 (by decide) ?_
                refine w_iadd gz_37_136 ⟨by omega, by omega⟩ ?_
                refine w_istore_n (ls' := [(2, 82), (0, 8), (0, (v271 + 1))]) gz_37_137 gm_37 rfl rfl rfl ?_
                have ce272 : h268 82 5 = v189 := ((my_up_fld fh268 (by decide)).trans ((my_up_fld fh265 (by decide)).trans ev189.symm))
                have ce273 : h268 82 6 = v269 := ev269.symm
                have ce274 : h268 82 7 = v271 := ev271.symm
                have ce275 : h268 82 8 = 0 := (my_up_self fh268)
                have sg : ∀ j : Int, h268 92 j = h0_0 92 j := fun j => ((my_up_role fh268 is_92 is_82 rfl).trans ((my_up_role fh265 is_92 is_82 rfl).trans ((my_up_role fh184 is_92 is_82 rfl).trans (rfl : h0_0 92 j = h0_0 92 j))))
                exact J138_0 (1001) (8) ((v271 + 1)) (v189) (v269) h268 (gh268) (by omega) (by omega) (by omega) (by omega) (by omega) (by omega) (by omega) (by omega) (by omega) (by omega) (by omega) (by omega) (by omega) (by omega) (by omega) (by omega) (((my_up_fld fh268 (by decide)).trans ((my_up_fld fh265 (by decide)).trans ev186.symm)).trans (by omega)) (((my_up_fld fh268 (by decide)).trans ((my_up_fld fh265 (by decide)).trans ev189.symm)).trans (by omega)) (ev269.symm.trans (by omega)) (ev271.symm.trans (by omega)) ((my_up_self fh268).trans (by omega)) (((my_up_fld fh268 (by decide)).trans ((my_up_fld fh265 (by decide)).trans ((my_up_fld fh184 (by decide)).trans c82_9_0_0))).trans (by omega)) (by omega) (by first | (intro t k a b; rw [sg]; exact dg_181_0 (by omega) k (by omega) (by omega)) | (intro t k a b; rw [sg]; exact dg_138_0 (by omega) k (by omega) (by omega)) | (intro t k a b; rw [sg, ← sg0, sgi k (by omega)]; omega) | (intro t; omega) | (intro t k a b; rw [sg]; rcases (by omega : k = p138_1 ∨ k < p138_1) with q | q <;> first | exact dg_138_0 (by omega) k (by omega) (by omega) | (subst q; omega)) | omega) (by first | assumption | omega | (subst_vars; omega) | omega) (by first | assumption | omega | (subst_vars; omega) | omega) (by first | assumption | omega | (subst_vars; omega) | omega) (by first | exact tk_A_e A_181_0 (by omega) (by omega) (by omega) | exact tk_A_s A_138_0 (by omega) (by omega) (by omega) (by omega) | exact tk_A_e A_138_0 (by omega) (by omega) (by omega) | exact tk_A_0 b52 (n52 (by omega)).1 (n52 (by omega)).2 k88 (by omega) (by omega) (by omega) | omega) (by omega) (by omega) (by omega)
          ·
            refine w_aload_n gz_37_39 rfl ?_
            refine w_dup gz_37_40 rfl ?_
            refine v_getI (j := 5) gz_37_41 rfl is_82 rd_5 rfl (fun v276 ev276 pv276 qv276 => ?_)
            have zv276 := ev276.trans ev180.symm
            refine w_iconst gz_37_44 (by decide) ?_
            refine w_iadd gz_37_45 ⟨by omega, by omega⟩ ?_
            refine v_putI (j := 5) gz_37_46 rfl is_82 rd_5 rfl (by omega) (by omega) rfl (fun h277 fh277 => ?_)
            have gh277 : my_fr [(5, 5), (5, 6), (5, 7), (5, 8)] h h277 := my_fr.up gh_0_0 is_82 fh277 rfl
            have b46 : ∀ i : Int, h 82 5 ≤ i → i < h277 82 5 → h 92 i = 10 ∨ h 92 i = 32 := by
              have z := my_up_self fh277
              intro i a b
              rcases (by omega : i = h0_0 82 5 ∨ i < h0_0 82 5) with q | q
              · rw [q]; omega
              · first | exact bl_0_0 i a q | omega
            refine w_goto (t := 0) gz_37_49 rfl ?_
            have ce278 : h277 82 5 = (v276 + 1) := (my_up_self fh277)
            exact ih_0_0 ((v276 + 1)) h277 (gh277) (by omega) (by omega) (by omega) (by omega) (by omega) (by omega) (by omega) (((my_up_fld fh277 (by decide)).trans ev153.symm).trans (by omega)) ((my_up_self fh277).trans (by omega)) (((my_up_fld fh277 (by decide)).trans c82_9_0_0).trans (by omega)) (b46) (by omega)
  refine w_aload_n gz_37_0 rfl ?_
  refine v_getI (j := 5) gz_37_1 rfl is_82 rd_5 rfl (fun v279 ev279 pv279 qv279 => ?_)
  have zv279 := ev279.trans ek82_5.symm
  refine w_aload_n gz_37_4 rfl ?_
  refine v_getI (j := 4) gz_37_5 rfl is_82 rd_5 rfl (fun v280 ev280 pv280 qv280 => ?_)
  have zv280 := ev280.trans ek82_4.symm
  refine w_icge (t := 52) gz_37_8 rfl (fun u281 => ?_) (fun u281 => ?_)
  ·
    obtain ⟨st, est⟩ : ∃ z : Int, z = h 82 5 := ⟨_, rfl⟩
    have b52 : ∀ i : Int, h 82 5 ≤ i → i < st → h 92 i = 10 ∨ h 92 i = 32 := by first | (intro i a b; exact bl_0_0 i a (by omega)) | (intro i a b; omega)
    have n52 : st < h 82 4 → h 92 st ≠ 10 ∧ h 92 st ≠ 32 := by rw [est]; intro q; omega
    refine w_aload_n gz_37_52 rfl ?_
    refine w_aload_n gz_37_53 rfl ?_
    refine v_getI (j := 5) gz_37_54 rfl is_82 rd_5 rfl (fun v282 ev282 pv282 qv282 => ?_)
    have zv282 := ev282.trans ev279.symm
    refine v_putI (j := 7) gz_37_57 rfl is_82 rd_5 rfl (by omega) (by omega) rfl (fun h283 fh283 => ?_)
    have gh283 : my_fr [(5, 5), (5, 6), (5, 7), (5, 8)] h h283 := my_fr.up my_fr.rf is_82 fh283 rfl
    have Al_h283 : Al h283 := Al_ag (my_ag.up fh283 is_82 rfl) n_Al
    refine w_aload_n gz_37_60 rfl ?_
    refine w_aload_n gz_37_61 rfl ?_
    refine v_getI (j := 5) gz_37_62 rfl is_82 rd_5 rfl (fun v284 ev284 pv284 qv284 => ?_)
    have zv284 := ev284.trans ((my_up_fld fh283 (by decide)).trans ev282.symm)
    refine w_aload_n gz_37_65 rfl ?_
    refine v_getI (j := 4) gz_37_66 rfl is_82 rd_5 rfl (fun v285 ev285 pv285 qv285 => ?_)
    have zv285 := ev285.trans ((my_up_fld fh283 (by decide)).trans ev280.symm)
    refine w_icge (t := 87) gz_37_69 rfl (fun u286 => ?_) (fun u286 => by exfalso; omega)
    refine w_iconst gz_37_87 (by decide) ?_
    refine v_putI (j := 6) gz_37_88 rfl is_82 rd_5 rfl (by omega) (by omega) rfl (fun h287 fh287 => ?_)
    have gh287 : my_fr [(5, 5), (5, 6), (5, 7), (5, 8)] h h287 := my_fr.up gh283 is_82 fh287 rfl
    have Al_h287 : Al h287 := Al_ag (my_ag.up fh287 is_82 rfl) Al_h283
    refine w_aload_n gz_37_91 rfl ?_
    refine v_getI (j := 6) gz_37_92 rfl is_82 rd_5 rfl (fun v288 ev288 pv288 qv288 => ?_)
    have zv288 := ev288.trans (my_up_self fh287)
    refine w_ifne (t := 99) gz_37_95 rfl (fun u289 => by exfalso; omega) (fun u289 => ?_)
    have ce290 : h287 82 4 = v285 := ((my_up_fld fh287 (by decide)).trans ev285.symm)
    have ce291 : h287 82 5 = v284 := ((my_up_fld fh287 (by decide)).trans ev284.symm)
    have ce292 : h287 82 6 = v288 := ev288.symm
    have ce293 : h287 82 7 = v282 := ((my_up_fld fh287 (by decide)).trans (my_up_self fh283))
    have ce294 : h287 82 8 = h 82 8 := ((my_up_fld fh287 (by decide)).trans ((my_up_fld fh283 (by decide)).trans (rfl : h 82 8 = h 82 8)))
    have TT : tk_T (h 92) (h 82 4) (h 82 5) (h287 82 7) (h287 82 5) (h287 82 6) (h287 82 8) := by first | exact tk_end b52 (by omega) (by omega) (by omega) (by omega) (by omega) | exact tk_fin A_181_0 E_181_0 D_181_0 (by omega) (by omega) (by omega) (by omega) (by omega) (by omega) (by omega) (by omega) (by omega)
    have Al_h287t295 : Al h287 := by unfold Al; omega
    have Cu_h287t296 : Cu h287 := Cu_T TT (fun j => my_fr.at gh287 is_92 rfl) (my_fr.at gh287 is_82 rfl)
    have c297 := ev288.symm
    have c298 := ((my_up_fld fh287 (by decide)).trans ((my_up_fld fh283 (by decide)).trans cf))
    exact w_vret gz_37_98 gm_37 (k0 h287 (gh287) (by omega) (by omega) (by omega) (by first | exact T_s TT | exact T_ns (T_s TT) | omega) (by first | exact T_s TT | exact T_ns (T_s TT) | omega) Al_h287t295 Cu_h287t296)
  ·
    refine w_aload_n gz_37_11 rfl ?_
    refine w_getX (v := 92) gz_37_12 is_82 rd_5 rfl (by decide) rfl ?_
    refine w_aload_n gz_37_15 rfl ?_
    refine v_getI (j := 5) gz_37_16 rfl is_82 rd_5 rfl (fun v300 ev300 pv300 qv300 => ?_)
    have zv300 := ev300.trans ev279.symm
    refine w_yald gz_37_19 is_92 rd_40 (by omega) (by omega) (fun v301 ev301 pv301 qv301 => ?_)
    have c20 : v301 = h 92 (h 82 5) := by
      have z : h 92 v300 = h 92 v300 := by first | rfl | exact my_fr.at my_fr.rf is_92 rfl
      rw [show (h 82 5) = v300 by omega]
      omega
    refine w_bipush gz_37_20 (by decide) ?_
    refine w_iceq (t := 39) gz_37_22 rfl (fun u302 => ?_) (fun u302 => ?_)
    ·
      refine w_aload_n gz_37_39 rfl ?_
      refine w_dup gz_37_40 rfl ?_
      refine v_getI (j := 5) gz_37_41 rfl is_82 rd_5 rfl (fun v303 ev303 pv303 qv303 => ?_)
      have zv303 := ev303.trans ev300.symm
      refine w_iconst gz_37_44 (by decide) ?_
      refine w_iadd gz_37_45 ⟨by omega, by omega⟩ ?_
      refine v_putI (j := 5) gz_37_46 rfl is_82 rd_5 rfl (by omega) (by omega) rfl (fun h304 fh304 => ?_)
      have gh304 : my_fr [(5, 5), (5, 6), (5, 7), (5, 8)] h h304 := my_fr.up my_fr.rf is_82 fh304 rfl
      have b46 : ∀ i : Int, h 82 5 ≤ i → i < h304 82 5 → h 92 i = 10 ∨ h 92 i = 32 := by
        have z := my_up_self fh304
        intro i a b
        rcases (by omega : i = h 82 5 ∨ i < h 82 5) with q | q
        · rw [q]; omega
        · first | exact bl_0_0 i a q | omega
      refine w_goto (t := 0) gz_37_49 rfl ?_
      have ce305 : h304 82 5 = (v303 + 1) := (my_up_self fh304)
      exact J0_0 (1001) ((v303 + 1)) h304 (gh304) (by omega) (by omega) (by omega) (by omega) (by omega) (by omega) (by omega) (((my_up_fld fh304 (by decide)).trans ev280.symm).trans (by omega)) ((my_up_self fh304).trans (by omega)) (((my_up_fld fh304 (by decide)).trans cf).trans (by omega)) (b46) (by omega)
    ·
      refine w_aload_n gz_37_25 rfl ?_
      refine w_getX (v := 92) gz_37_26 is_82 rd_5 rfl (by decide) rfl ?_
      refine w_aload_n gz_37_29 rfl ?_
      refine v_getI (j := 5) gz_37_30 rfl is_82 rd_5 rfl (fun v307 ev307 pv307 qv307 => ?_)
      have zv307 := ev307.trans ev300.symm
      refine w_yald gz_37_33 is_92 rd_40 (by omega) (by omega) (fun v308 ev308 pv308 qv308 => ?_)
      have wv308 : v307 = v300 := by omega
      rw [wv308] at ev308
      have zv308 := ev308.trans ev301.symm
      have c34 : v308 = h 92 (h 82 5) := by
        have z : h 92 v300 = h 92 v300 := by first | rfl | exact my_fr.at my_fr.rf is_92 rfl
        rw [show (h 82 5) = v300 by omega]
        omega
      refine w_bipush gz_37_34 (by decide) ?_
      refine w_icne (t := 52) gz_37_36 rfl (fun u309 => ?_) (fun u309 => ?_)
      ·
        obtain ⟨st, est⟩ : ∃ z : Int, z = h 82 5 := ⟨_, rfl⟩
        have b52 : ∀ i : Int, h 82 5 ≤ i → i < st → h 92 i = 10 ∨ h 92 i = 32 := by first | (intro i a b; exact bl_0_0 i a (by omega)) | (intro i a b; omega)
        have n52 : st < h 82 4 → h 92 st ≠ 10 ∧ h 92 st ≠ 32 := by rw [est]; intro q; omega
        refine w_aload_n gz_37_52 rfl ?_
        refine w_aload_n gz_37_53 rfl ?_
        refine v_getI (j := 5) gz_37_54 rfl is_82 rd_5 rfl (fun v310 ev310 pv310 qv310 => ?_)
        have zv310 := ev310.trans ev307.symm
        refine v_putI (j := 7) gz_37_57 rfl is_82 rd_5 rfl (by omega) (by omega) rfl (fun h311 fh311 => ?_)
        have gh311 : my_fr [(5, 5), (5, 6), (5, 7), (5, 8)] h h311 := my_fr.up my_fr.rf is_82 fh311 rfl
        have Al_h311 : Al h311 := Al_ag (my_ag.up fh311 is_82 rfl) n_Al
        refine w_aload_n gz_37_60 rfl ?_
        refine w_aload_n gz_37_61 rfl ?_
        refine v_getI (j := 5) gz_37_62 rfl is_82 rd_5 rfl (fun v312 ev312 pv312 qv312 => ?_)
        have zv312 := ev312.trans ((my_up_fld fh311 (by decide)).trans ev310.symm)
        refine w_aload_n gz_37_65 rfl ?_
        refine v_getI (j := 4) gz_37_66 rfl is_82 rd_5 rfl (fun v313 ev313 pv313 qv313 => ?_)
        have zv313 := ev313.trans ((my_up_fld fh311 (by decide)).trans ev280.symm)
        refine w_icge (t := 87) gz_37_69 rfl (fun u314 => by exfalso; omega) (fun u314 => ?_)
        refine w_aload_n gz_37_72 rfl ?_
        refine w_getX (v := 92) gz_37_73 is_82 rd_5 rfl (by decide) rfl ?_
        refine w_aload_n gz_37_76 rfl ?_
        refine v_getI (j := 5) gz_37_77 rfl is_82 rd_5 rfl (fun v316 ev316 pv316 qv316 => ?_)
        have zv316 := ev316.trans ev312.symm
        have sg0 : ∀ j : Int, h311 92 j = h 92 j := fun j => ((my_up_role fh311 is_92 is_82 rfl).trans (rfl : h 92 j = h 92 j))
        refine w_yald gz_37_80 is_92 rd_40 (by omega) (by omega) (fun v317 ev317 pv317 qv317 => ?_)
        have wv317 : v316 = v300 := by omega
        rw [wv317] at ev317
        have zv317 := ev317.trans ((my_up_role fh311 is_92 is_82 rfl).trans ev308.symm)
        have sgi : ∀ k : Int, k = v300 → h311 92 k = v317 := fun k q => by rw [q]; omega
        have c81 : v317 = h 92 st := by
          have z : h311 92 v300 = h 92 v300 := by first | rfl | exact my_fr.at gh311 is_92 rfl
          rw [show st = v300 by omega]
          omega
        refine w_inS (k := 0) (as := [(0, v317)]) (r := [(2, 82)]) (ls0 := [(0, v317)]) gz_37_81 gm_38 rfl rfl rfl rfl rfl rfl ?_
        refine w_iload_n gz_38_0 rfl ?_
        refine w_bipush gz_38_1 (by decide) ?_
        refine w_iclt (t := 14) gz_38_3 rfl (fun u318 => ?_) (fun u318 => ?_)
        ·
          refine w_iload_n gz_38_14 rfl ?_
          refine w_bipush gz_38_15 (by decide) ?_
          refine w_iclt (t := 28) gz_38_17 rfl (fun u319 => ?_) (fun u319 => ?_)
          ·
            refine w_iload_n gz_38_28 rfl ?_
            refine w_bipush gz_38_29 (by decide) ?_
            refine w_icne (t := 38) gz_38_31 rfl (fun u320 => ?_) (fun u320 => by exfalso; omega)
            refine w_iconst gz_38_38 (by decide) ?_
            refine w_iret gz_38_39 gm_38 ?_
            show wp l rho (d + 1) 37 84 [(2, 82), (9, 0), (9, 0)] [(0, 4), (2, 82)] h311 Q
            refine w_goto (t := 88) gz_37_84 rfl ?_
            have k88 : tk_k (h 92 st) = 4 := by rw [← c81]; unfold tk_k; (repeat (first | rw [if_pos (by omega)] | rw [if_neg (by omega)]))
            refine v_putI (j := 6) gz_37_88 rfl is_82 rd_5 rfl (by omega) (by omega) rfl (fun h321 fh321 => ?_)
            have gh321 : my_fr [(5, 5), (5, 6), (5, 7), (5, 8)] h h321 := my_fr.up gh311 is_82 fh321 rfl
            have Al_h321 : Al h321 := Al_ag (my_ag.up fh321 is_82 rfl) Al_h311
            refine w_aload_n gz_37_91 rfl ?_
            refine v_getI (j := 6) gz_37_92 rfl is_82 rd_5 rfl (fun v322 ev322 pv322 qv322 => ?_)
            have zv322 := ev322.trans (my_up_self fh321)
            refine w_ifne (t := 99) gz_37_95 rfl (fun u323 => ?_) (fun u323 => by exfalso; omega)
            refine w_aload_n gz_37_99 rfl ?_
            refine w_iconst gz_37_100 (by decide) ?_
            refine v_putI (j := 8) gz_37_101 rfl is_82 rd_5 rfl (by omega) (by omega) rfl (fun h324 fh324 => ?_)
            have gh324 : my_fr [(5, 5), (5, 6), (5, 7), (5, 8)] h h324 := my_fr.up gh321 is_82 fh324 rfl
            have Al_h324 : Al h324 := Al_ag (my_ag.up fh324 is_82 rfl) Al_h321
            refine w_aload_n gz_37_104 rfl ?_
            refine v_getI (j := 6) gz_37_105 rfl is_82 rd_5 rfl (fun v325 ev325 pv325 qv325 => ?_)
            have zv325 := ev325.trans ((my_up_fld fh324 (by decide)).trans ev322.symm)
            refine w_iconst gz_37_108 (by decide) ?_
            refine w_icne (t := 117) gz_37_109 rfl (fun u326 => ?_) (fun u326 => by exfalso; omega)
            refine w_aload_n gz_37_117 rfl ?_
            refine v_getI (j := 6) gz_37_118 rfl is_82 rd_5 rfl (fun v327 ev327 pv327 qv327 => ?_)
            have zv327 := ev327.trans ev325.symm
            refine w_iconst gz_37_121 (by decide) ?_
            refine w_icne (t := 129) gz_37_122 rfl (fun u328 => ?_) (fun u328 => by exfalso; omega)
            refine w_iconst gz_37_129 (by decide) ?_
            refine w_istore_n (ls' := [(2, 82), (0, 1), (9, 0)]) gz_37_130 gm_37 rfl rfl rfl ?_
            refine w_aload_n gz_37_131 rfl ?_
            refine v_getI (j := 7) gz_37_132 rfl is_82 rd_5 rfl (fun v329 ev329 pv329 qv329 => ?_)
            have zv329 := ev329.trans ((my_up_fld fh324 (by decide)).trans ((my_up_fld fh321 (by decide)).trans (my_up_self fh311)))
            refine w_iconst gz_37_135 (by decide) ?_
            refine w_iadd gz_37_136 ⟨by omega, by omega⟩ ?_
            refine w_istore_n (ls' := [(2, 82), (0, 1), (0, (v329 + 1))]) gz_37_137 gm_37 rfl rfl rfl ?_
            have ce330 : h324 82 5 = v316 := ((my_up_fld fh324 (by decide)).trans ((my_up_fld fh321 (by decide)).trans ev316.symm))
            have ce331 : h324 82 6 = v327 := ev327.symm
            have ce332 : h324 82 7 = v329 := ev329.symm
            have ce333 : h324 82 8 = 0 := (my_up_self fh324)
            have sg : ∀ j : Int, h324 92 j = h 92 j := fun j => ((my_up_role fh324 is_92 is_82 rfl).trans ((my_up_role fh321 is_92 is_82 rfl).trans ((my_up_role fh311 is_92 is_82 rfl).trans (rfl : h 92 j = h 92 j))))
            exact J138_0 (1001) (1) ((v329 + 1)) (v316) (v327) h324 (gh324) (by omega) (by omega) (by omega) (by omega) (by omega) (by omega) (by omega) (by omega) (by omega) (by omega) (by omega) (by omega) (by omega) (by omega) (by omega) (by omega) (((my_up_fld fh324 (by decide)).trans ((my_up_fld fh321 (by decide)).trans ev313.symm)).trans (by omega)) (((my_up_fld fh324 (by decide)).trans ((my_up_fld fh321 (by decide)).trans ev316.symm)).trans (by omega)) (ev327.symm.trans (by omega)) (ev329.symm.trans (by omega)) ((my_up_self fh324).trans (by omega)) (((my_up_fld fh324 (by decide)).trans ((my_up_fld fh321 (by decide)).trans ((my_up_fld fh311 (by decide)).trans cf))).trans (by omega)) (by omega) (by first | (intro t k a b; rw [sg]; exact dg_181_0 (by omega) k (by omega) (by omega)) | (intro t k a b; rw [sg]; exact dg_138_0 (by omega) k (by omega) (by omega)) | (intro t k a b; rw [sg, ← sg0, sgi k (by omega)]; omega) | (intro t; omega) | (intro t k a b; rw [sg]; rcases (by omega : k = p138_1 ∨ k < p138_1) with q | q <;> first | exact dg_138_0 (by omega) k (by omega) (by omega) | (subst q; omega)) | omega) (by first | assumption | omega | (subst_vars; omega) | omega) (by first | assumption | omega | (subst_vars; omega) | omega) (by first | assumption | omega | (subst_vars; omega) | omega) (by first | exact tk_A_e A_181_0 (by omega) (by omega) (by omega) | exact tk_A_s A_138_0 (by omega) (by omega) (by omega) (by omega) | exact tk_A_e A_138_0 (by omega) (by omega) (by omega) | exact tk_A_0 b52 (n52 (by omega)).1 (n52 (by omega)).2 k88 (by omega) (by omega) (by omega) | omega) (by omega) (by omega) (by omega)
          ·
            refine w_iload_n gz_38_20 rfl ?_
            refine w_bipush gz_38_21 (by decide) ?_
            refine w_icgt (t := 28) gz_38_23 rfl (fun u334 => ?_) (fun u334 => ?_)
            ·
              refine w_iload_n gz_38_28 rfl ?_
              refine w_bipush gz_38_29 (by decide) ?_
              refine w_icne (t := 38) gz_38_31 rfl (fun u335 => ?_) (fun u335 => ?_)
              ·
                refine w_iconst gz_38_38 (by decide) ?_
                refine w_iret gz_38_39 gm_38 ?_
                show wp l rho (d + 1) 37 84 [(2, 82), (9, 0), (9, 0)] [(0, 4), (2, 82)] h311 Q
                refine w_goto (t := 88) gz_37_84 rfl ?_
                have k88 : tk_k (h 92 st) = 4 := by rw [← c81]; unfold tk_k; (repeat (first | rw [if_pos (by omega)] | rw [if_neg (by omega)]))
                refine v_putI (j := 6) gz_37_88 rfl is_82 rd_5 rfl (by omega) (by omega) rfl (fun h336 fh336 => ?_)
                have gh336 : my_fr [(5, 5), (5, 6), (5, 7), (5, 8)] h h336 := my_fr.up gh311 is_82 fh336 rfl
                have Al_h336 : Al h336 := Al_ag (my_ag.up fh336 is_82 rfl) Al_h311
                refine w_aload_n gz_37_91 rfl ?_
                refine v_getI (j := 6) gz_37_92 rfl is_82 rd_5 rfl (fun v337 ev337 pv337 qv337 => ?_)
                have zv337 := ev337.trans (my_up_self fh336)
                refine w_ifne (t := 99) gz_37_95 rfl (fun u338 => ?_) (fun u338 => by exfalso; omega)
                refine w_aload_n gz_37_99 rfl ?_
                refine w_iconst gz_37_100 (by decide) ?_
                refine v_putI (j := 8) gz_37_101 rfl is_82 rd_5 rfl (by omega) (by omega) rfl (fun h339 fh339 => ?_)
                have gh339 : my_fr [(5, 5), (5, 6), (5, 7), (5, 8)] h h339 := my_fr.up gh336 is_82 fh339 rfl
                have Al_h339 : Al h339 := Al_ag (my_ag.up fh339 is_82 rfl) Al_h336
                refine w_aload_n gz_37_104 rfl ?_
                refine v_getI (j := 6) gz_37_105 rfl is_82 rd_5 rfl (fun v340 ev340 pv340 qv340 => ?_)
                have zv340 := ev340.trans ((my_up_fld fh339 (by decide)).trans ev337.symm)
                refine w_iconst gz_37_108 (by decide) ?_
                refine w_icne (t := 117) gz_37_109 rfl (fun u341 => ?_) (fun u341 => by exfalso; omega)
                refine w_aload_n gz_37_117 rfl ?_
                refine v_getI (j := 6) gz_37_118 rfl is_82 rd_5 rfl (fun v342 ev342 pv342 qv342 => ?_)
                have zv342 := ev342.trans ev340.symm
                refine w_iconst gz_37_121 (by decide) ?_
                refine w_icne (t := 129) gz_37_122 rfl (fun u343 => ?_) (fun u343 => by exfalso; omega)
                refine w_iconst gz_37_129 (by decide) ?_
                refine w_istore_n (ls' := [(2, 82), (0, 1), (9, 0)]) gz_37_130 gm_37 rfl rfl rfl ?_
                refine w_aload_n gz_37_131 rfl ?_
                refine v_getI (j := 7) gz_37_132 rfl is_82 rd_5 rfl (fun v344 ev344 pv344 qv344 => ?_)
                have zv344 := ev344.trans ((my_up_fld fh339 (by decide)).trans ((my_up_fld fh336 (by decide)).trans (my_up_self fh311)))
                refine w_iconst gz_37_135 (by decide) ?_
                refine w_iadd gz_37_136 ⟨by omega, by omega⟩ ?_
                refine w_istore_n (ls' := [(2, 82), (0, 1), (0, (v344 + 1))]) gz_37_137 gm_37 rfl rfl rfl ?_
                have ce345 : h339 82 5 = v316 := ((my_up_fld fh339 (by decide)).trans ((my_up_fld fh336 (by decide)).trans ev316.symm))
                have ce346 : h339 82 6 = v342 := ev342.symm
                have ce347 : h339 82 7 = v344 := ev344.symm
                have ce348 : h339 82 8 = 0 := (my_up_self fh339)
                have sg : ∀ j : Int, h339 92 j = h 92 j := fun j => ((my_up_role fh339 is_92 is_82 rfl).trans ((my_up_role fh336 is_92 is_82 rfl).trans ((my_up_role fh311 is_92 is_82 rfl).trans (rfl : h 92 j = h 92 j))))
                exact J138_0 (1001) (1) ((v344 + 1)) (v316) (v342) h339 (gh339) (by omega) (by omega) (by omega) (by omega) (by omega) (by omega) (by omega) (by omega) (by omega) (by omega) (by omega) (by omega) (by omega) (by omega) (by omega) (by omega) (((my_up_fld fh339 (by decide)).trans ((my_up_fld fh336 (by decide)).trans ev313.symm)).trans (by omega)) (((my_up_fld fh339 (by decide)).trans ((my_up_fld fh336 (by decide)).trans ev316.symm)).trans (by omega)) (ev342.symm.trans (by omega)) (ev344.symm.trans (by omega)) ((my_up_self fh339).trans (by omega)) (((my_up_fld fh339 (by decide)).trans ((my_up_fld fh336 (by decide)).trans ((my_up_fld fh311 (by decide)).trans cf))).trans (by omega)) (by omega) (by first | (intro t k a b; rw [sg]; exact dg_181_0 (by omega) k (by omega) (by omega)) | (intro t k a b; rw [sg]; exact dg_138_0 (by omega) k (by omega) (by omega)) | (intro t k a b; rw [sg, ← sg0, sgi k (by omega)]; omega) | (intro t; omega) | (intro t k a b; rw [sg]; rcases (by omega : k = p138_1 ∨ k < p138_1) with q | q <;> first | exact dg_138_0 (by omega) k (by omega) (by omega) | (subst q; omega)) | omega) (by first | assumption | omega | (subst_vars; omega) | omega) (by first | assumption | omega | (subst_vars; omega) | omega) (by first | assumption | omega | (subst_vars; omega) | omega) (by first | exact tk_A_e A_181_0 (by omega) (by omega) (by omega) | exact tk_A_s A_138_0 (by omega) (by omega) (by omega) (by omega) | exact tk_A_e A_138_0 (by omega) (by omega) (by omega) | exact tk_A_0 b52 (n52 (by omega)).1 (n52 (by omega)).2 k88 (by omega) (by omega) (by omega) | omega) (by omega) (by omega) (by omega)
              ·
                refine w_iconst gz_38_34 (by decide) ?_
                refine w_goto (t := 39) gz_38_35 rfl ?_
                refine w_iret gz_38_39 gm_38 ?_
                show wp l rho (d + 1) 37 84 [(2, 82), (9, 0), (9, 0)] [(0, 3), (2, 82)] h311 Q
                refine w_goto (t := 88) gz_37_84 rfl ?_
                have k88 : tk_k (h 92 st) = 3 := by rw [← c81]; unfold tk_k; (repeat (first | rw [if_pos (by omega)] | rw [if_neg (by omega)]))
                refine v_putI (j := 6) gz_37_88 rfl is_82 rd_5 rfl (by omega) (by omega) rfl (fun h349 fh349 => ?_)
                have gh349 : my_fr [(5, 5), (5, 6), (5, 7), (5, 8)] h h349 := my_fr.up gh311 is_82 fh349 rfl
                have Al_h349 : Al h349 := Al_ag (my_ag.up fh349 is_82 rfl) Al_h311
                refine w_aload_n gz_37_91 rfl ?_
                refine v_getI (j := 6) gz_37_92 rfl is_82 rd_5 rfl (fun v350 ev350 pv350 qv350 => ?_)
                have zv350 := ev350.trans (my_up_self fh349)
                refine w_ifne (t := 99) gz_37_95 rfl (fun u351 => ?_) (fun u351 => by exfalso; omega)
                refine w_aload_n gz_37_99 rfl ?_
                refine w_iconst gz_37_100 (by decide) ?_
                refine v_putI (j := 8) gz_37_101 rfl is_82 rd_5 rfl (by omega) (by omega) rfl (fun h352 fh352 => ?_)
                have gh352 : my_fr [(5, 5), (5, 6), (5, 7), (5, 8)] h h352 := my_fr.up gh349 is_82 fh352 rfl
                have Al_h352 : Al h352 := Al_ag (my_ag.up fh352 is_82 rfl) Al_h349
                refine w_aload_n gz_37_104 rfl ?_
                refine v_getI (j := 6) gz_37_105 rfl is_82 rd_5 rfl (fun v353 ev353 pv353 qv353 => ?_)
                have zv353 := ev353.trans ((my_up_fld fh352 (by decide)).trans ev350.symm)
                refine w_iconst gz_37_108 (by decide) ?_
                refine w_icne (t := 117) gz_37_109 rfl (fun u354 => ?_) (fun u354 => by exfalso; omega)
                refine w_aload_n gz_37_117 rfl ?_
                refine v_getI (j := 6) gz_37_118 rfl is_82 rd_5 rfl (fun v355 ev355 pv355 qv355 => ?_)
                have zv355 := ev355.trans ev353.symm
                refine w_iconst gz_37_121 (by decide) ?_
                refine w_icne (t := 129) gz_37_122 rfl (fun u356 => ?_) (fun u356 => by exfalso; omega)
                refine w_iconst gz_37_129 (by decide) ?_
                refine w_istore_n (ls' := [(2, 82), (0, 1), (9, 0)]) gz_37_130 gm_37 rfl rfl rfl ?_
                refine w_aload_n gz_37_131 rfl ?_
                refine v_getI (j := 7) gz_37_132 rfl is_82 rd_5 rfl (fun v357 ev357 pv357 qv357 => ?_)
                have zv357 := ev357.trans ((my_up_fld fh352 (by decide)).trans ((my_up_fld fh349 (by decide)).trans (my_up_self fh311)))
                refine w_iconst gz_37_135 (by decide) ?_
                refine w_iadd gz_37_136 ⟨by omega, by omega⟩ ?_
                refine w_istore_n (ls' := [(2, 82), (0, 1), (0, (v357 + 1))]) gz_37_137 gm_37 rfl rfl rfl ?_
                have ce358 : h352 82 5 = v316 := ((my_up_fld fh352 (by decide)).trans ((my_up_fld fh349 (by decide)).trans ev316.symm))
                have ce359 : h352 82 6 = v355 := ev355.symm
                have ce360 : h352 82 7 = v357 := ev357.symm
                have ce361 : h352 82 8 = 0 := (my_up_self fh352)
                have sg : ∀ j : Int, h352 92 j = h 92 j := fun j => ((my_up_role fh352 is_92 is_82 rfl).trans ((my_up_role fh349 is_92 is_82 rfl).trans ((my_up_role fh311 is_92 is_82 rfl).trans (rfl : h 92 j = h 92 j))))
                exact J138_0 (1001) (1) ((v357 + 1)) (v316) (v355) h352 (gh352) (by omega) (by omega) (by omega) (by omega) (by omega) (by omega) (by omega) (by omega) (by omega) (by omega) (by omega) (by omega) (by omega) (by omega) (by omega) (by omega) (((my_up_fld fh352 (by decide)).trans ((my_up_fld fh349 (by decide)).trans ev313.symm)).trans (by omega)) (((my_up_fld fh352 (by decide)).trans ((my_up_fld fh349 (by decide)).trans ev316.symm)).trans (by omega)) (ev355.symm.trans (by omega)) (ev357.symm.trans (by omega)) ((my_up_self fh352).trans (by omega)) (((my_up_fld fh352 (by decide)).trans ((my_up_fld fh349 (by decide)).trans ((my_up_fld fh311 (by decide)).trans cf))).trans (by omega)) (by omega) (by first | (intro t k a b; rw [sg]; exact dg_181_0 (by omega) k (by omega) (by omega)) | (intro t k a b; rw [sg]; exact dg_138_0 (by omega) k (by omega) (by omega)) | (intro t k a b; rw [sg, ← sg0, sgi k (by omega)]; omega) | (intro t; omega) | (intro t k a b; rw [sg]; rcases (by omega : k = p138_1 ∨ k < p138_1) with q | q <;> first | exact dg_138_0 (by omega) k (by omega) (by omega) | (subst q; omega)) | omega) (by first | assumption | omega | (subst_vars; omega) | omega) (by first | assumption | omega | (subst_vars; omega) | omega) (by first | assumption | omega | (subst_vars; omega) | omega) (by first | exact tk_A_e A_181_0 (by omega) (by omega) (by omega) | exact tk_A_s A_138_0 (by omega) (by omega) (by omega) (by omega) | exact tk_A_e A_138_0 (by omega) (by omega) (by omega) | exact tk_A_0 b52 (n52 (by omega)).1 (n52 (by omega)).2 k88 (by omega) (by omega) (by omega) | omega) (by omega) (by omega) (by omega)
            ·
              refine w_iconst gz_38_26 (by decide) ?_
              refine w_iret gz_38_27 gm_38 ?_
              show wp l rho (d + 1) 37 84 [(2, 82), (9, 0), (9, 0)] [(0, 2), (2, 82)] h311 Q
              refine w_goto (t := 88) gz_37_84 rfl ?_
              have k88 : tk_k (h 92 st) = 2 := by rw [← c81]; unfold tk_k; (repeat (first | rw [if_pos (by omega)] | rw [if_neg (by omega)]))
              refine v_putI (j := 6) gz_37_88 rfl is_82 rd_5 rfl (by omega) (by omega) rfl (fun h362 fh362 => ?_)
              have gh362 : my_fr [(5, 5), (5, 6), (5, 7), (5, 8)] h h362 := my_fr.up gh311 is_82 fh362 rfl
              have Al_h362 : Al h362 := Al_ag (my_ag.up fh362 is_82 rfl) Al_h311
              refine w_aload_n gz_37_91 rfl ?_
              refine v_getI (j := 6) gz_37_92 rfl is_82 rd_5 rfl (fun v363 ev363 pv363 qv363 => ?_)
              have zv363 := ev363.trans (my_up_self fh362)
              refine w_ifne (t := 99) gz_37_95 rfl (fun u364 => ?_) (fun u364 => by exfalso; omega)
              refine w_aload_n gz_37_99 rfl ?_
              refine w_iconst gz_37_100 (by decide) ?_
              refine v_putI (j := 8) gz_37_101 rfl is_82 rd_5 rfl (by omega) (by omega) rfl (fun h365 fh365 => ?_)
              have gh365 : my_fr [(5, 5), (5, 6), (5, 7), (5, 8)] h h365 := my_fr.up gh362 is_82 fh365 rfl
              have Al_h365 : Al h365 := Al_ag (my_ag.up fh365 is_82 rfl) Al_h362
              refine w_aload_n gz_37_104 rfl ?_
              refine v_getI (j := 6) gz_37_105 rfl is_82 rd_5 rfl (fun v366 ev366 pv366 qv366 => ?_)
              have zv366 := ev366.trans ((my_up_fld fh365 (by decide)).trans ev363.symm)
              refine w_iconst gz_37_108 (by decide) ?_
              refine w_icne (t := 117) gz_37_109 rfl (fun u367 => ?_) (fun u367 => by exfalso; omega)
              refine w_aload_n gz_37_117 rfl ?_
              refine v_getI (j := 6) gz_37_118 rfl is_82 rd_5 rfl (fun v368 ev368 pv368 qv368 => ?_)
              have zv368 := ev368.trans ev366.symm
              refine w_iconst gz_37_121 (by decide) ?_
              refine w_icne (t := 129) gz_37_122 rfl (fun u369 => by exfalso; omega) (fun u369 => ?_)
              refine w_iconst gz_37_125 (by decide) ?_
              refine w_goto (t := 130) gz_37_126 rfl ?_
              refine w_istore_n (ls' := [(2, 82), (0, 3), (9, 0)]) gz_37_130 gm_37 rfl rfl rfl ?_
              refine w_aload_n gz_37_131 rfl ?_
              refine v_getI (j := 7) gz_37_132 rfl is_82 rd_5 rfl (fun v370 ev370 pv370 qv370 => ?_)
              have zv370 := ev370.trans ((my_up_fld fh365 (by decide)).trans ((my_up_fld fh362 (by decide)).trans (my_up_self fh311)))
              refine w_iconst gz_37_135 (by decide) ?_
              refine w_iadd gz_37_136 ⟨by omega, by omega⟩ ?_
              refine w_istore_n (ls' := [(2, 82), (0, 3), (0, (v370 + 1))]) gz_37_137 gm_37 rfl rfl rfl ?_
              have ce371 : h365 82 5 = v316 := ((my_up_fld fh365 (by decide)).trans ((my_up_fld fh362 (by decide)).trans ev316.symm))
              have ce372 : h365 82 6 = v368 := ev368.symm
              have ce373 : h365 82 7 = v370 := ev370.symm
              have ce374 : h365 82 8 = 0 := (my_up_self fh365)
              have sg : ∀ j : Int, h365 92 j = h 92 j := fun j => ((my_up_role fh365 is_92 is_82 rfl).trans ((my_up_role fh362 is_92 is_82 rfl).trans ((my_up_role fh311 is_92 is_82 rfl).trans (rfl : h 92 j = h 92 j))))
              exact J138_0 (1001) (3) ((v370 + 1)) (v316) (v368) h365 (gh365) (by omega) (by omega) (by omega) (by omega) (by omega) (by omega) (by omega) (by omega) (by omega) (by omega) (by omega) (by omega) (by omega) (by omega) (by omega) (by omega) (((my_up_fld fh365 (by decide)).trans ((my_up_fld fh362 (by decide)).trans ev313.symm)).trans (by omega)) (((my_up_fld fh365 (by decide)).trans ((my_up_fld fh362 (by decide)).trans ev316.symm)).trans (by omega)) (ev368.symm.trans (by omega)) (ev370.symm.trans (by omega)) ((my_up_self fh365).trans (by omega)) (((my_up_fld fh365 (by decide)).trans ((my_up_fld fh362 (by decide)).trans ((my_up_fld fh311 (by decide)).trans cf))).trans (by omega)) (by omega) (by first | (intro t k a b; rw [sg]; exact dg_181_0 (by omega) k (by omega) (by omega)) | (intro t k a b; rw [sg]; exact dg_138_0 (by omega) k (by omega) (by omega)) | (intro t k a b; rw [sg, ← sg0, sgi k (by omega)]; omega) | (intro t; omega) | (intro t k a b; rw [sg]; rcases (by omega : k = p138_1 ∨ k < p138_1) with q | q <;> first | exact dg_138_0 (by omega) k (by omega) (by omega) | (subst q; omega)) | omega) (by first | assumption | omega | (subst_vars; omega) | omega) (by first | assumption | omega | (subst_vars; omega) | omega) (by first | assumption | omega | (subst_vars; omega) | omega) (by first | exact tk_A_e A_181_0 (by omega) (by omega) (by omega) | exact tk_A_s A_138_0 (by omega) (by omega) (by omega) (by omega) | exact tk_A_e A_138_0 (by omega) (by omega) (by omega) | exact tk_A_0 b52 (n52 (by omega)).1 (n52 (by omega)).2 k88 (by omega) (by omega) (by omega) | omega) (by omega) (by omega) (by omega)
        ·
          refine w_iload_n gz_38_6 rfl ?_
          refine w_bipush gz_38_7 (by decide) ?_
          refine w_icgt (t := 14) gz_38_9 rfl (fun u375 => ?_) (fun u375 => ?_)
          ·
            refine w_iload_n gz_38_14 rfl ?_
            refine w_bipush gz_38_15 (by decide) ?_
            refine w_iclt (t := 28) gz_38_17 rfl (fun u376 => by exfalso; omega) (fun u376 => ?_)
            refine w_iload_n gz_38_20 rfl ?_
            refine w_bipush gz_38_21 (by decide) ?_
            refine w_icgt (t := 28) gz_38_23 rfl (fun u377 => ?_) (fun u377 => by exfalso; omega)
            refine w_iload_n gz_38_28 rfl ?_
            refine w_bipush gz_38_29 (by decide) ?_
            refine w_icne (t := 38) gz_38_31 rfl (fun u378 => ?_) (fun u378 => by exfalso; omega)
            refine w_iconst gz_38_38 (by decide) ?_
            refine w_iret gz_38_39 gm_38 ?_
            show wp l rho (d + 1) 37 84 [(2, 82), (9, 0), (9, 0)] [(0, 4), (2, 82)] h311 Q
            refine w_goto (t := 88) gz_37_84 rfl ?_
            have k88 : tk_k (h 92 st) = 4 := by rw [← c81]; unfold tk_k; (repeat (first | rw [if_pos (by omega)] | rw [if_neg (by omega)]))
            refine v_putI (j := 6) gz_37_88 rfl is_82 rd_5 rfl (by omega) (by omega) rfl (fun h379 fh379 => ?_)
            have gh379 : my_fr [(5, 5), (5, 6), (5, 7), (5, 8)] h h379 := my_fr.up gh311 is_82 fh379 rfl
            have Al_h379 : Al h379 := Al_ag (my_ag.up fh379 is_82 rfl) Al_h311
            refine w_aload_n gz_37_91 rfl ?_
            refine v_getI (j := 6) gz_37_92 rfl is_82 rd_5 rfl (fun v380 ev380 pv380 qv380 => ?_)
            have zv380 := ev380.trans (my_up_self fh379)
            refine w_ifne (t := 99) gz_37_95 rfl (fun u381 => ?_) (fun u381 => by exfalso; omega)
            refine w_aload_n gz_37_99 rfl ?_
            refine w_iconst gz_37_100 (by decide) ?_
            refine v_putI (j := 8) gz_37_101 rfl is_82 rd_5 rfl (by omega) (by omega) rfl (fun h382 fh382 => ?_)
            have gh382 : my_fr [(5, 5), (5, 6), (5, 7), (5, 8)] h h382 := my_fr.up gh379 is_82 fh382 rfl
            have Al_h382 : Al h382 := Al_ag (my_ag.up fh382 is_82 rfl) Al_h379
            refine w_aload_n gz_37_104 rfl ?_
            refine v_getI (j := 6) gz_37_105 rfl is_82 rd_5 rfl (fun v383 ev383 pv383 qv383 => ?_)
            have zv383 := ev383.trans ((my_up_fld fh382 (by decide)).trans ev380.symm)
            refine w_iconst gz_37_108 (by decide) ?_
            refine w_icne (t := 117) gz_37_109 rfl (fun u384 => ?_) (fun u384 => by exfalso; omega)
            refine w_aload_n gz_37_117 rfl ?_
            refine v_getI (j := 6) gz_37_118 rfl is_82 rd_5 rfl (fun v385 ev385 pv385 qv385 => ?_)
            have zv385 := ev385.trans ev383.symm
            refine w_iconst gz_37_121 (by decide) ?_
            refine w_icne (t := 129) gz_37_122 rfl (fun u386 => ?_) (fun u386 => by exfalso; omega)
            refine w_iconst gz_37_129 (by decide) ?_
            refine w_istore_n (ls' := [(2, 82), (0, 1), (9, 0)]) gz_37_130 gm_37 rfl rfl rfl ?_
            refine w_aload_n gz_37_131 rfl ?_
            refine v_getI (j := 7) gz_37_132 rfl is_82 rd_5 rfl (fun v387 ev387 pv387 qv387 => ?_)
            have zv387 := ev387.trans ((my_up_fld fh382 (by decide)).trans ((my_up_fld fh379 (by decide)).trans (my_up_self fh311)))
            refine w_iconst gz_37_135 (by decide) ?_
            refine w_iadd gz_37_136 ⟨by omega, by omega⟩ ?_
            refine w_istore_n (ls' := [(2, 82), (0, 1), (0, (v387 + 1))]) gz_37_137 gm_37 rfl rfl rfl ?_
            have ce388 : h382 82 5 = v316 := ((my_up_fld fh382 (by decide)).trans ((my_up_fld fh379 (by decide)).trans ev316.symm))
            have ce389 : h382 82 6 = v385 := ev385.symm
            have ce390 : h382 82 7 = v387 := ev387.symm
            have ce391 : h382 82 8 = 0 := (my_up_self fh382)
            have sg : ∀ j : Int, h382 92 j = h 92 j := fun j => ((my_up_role fh382 is_92 is_82 rfl).trans ((my_up_role fh379 is_92 is_82 rfl).trans ((my_up_role fh311 is_92 is_82 rfl).trans (rfl : h 92 j = h 92 j))))
            exact J138_0 (1001) (1) ((v387 + 1)) (v316) (v385) h382 (gh382) (by omega) (by omega) (by omega) (by omega) (by omega) (by omega) (by omega) (by omega) (by omega) (by omega) (by omega) (by omega) (by omega) (by omega) (by omega) (by omega) (((my_up_fld fh382 (by decide)).trans ((my_up_fld fh379 (by decide)).trans ev313.symm)).trans (by omega)) (((my_up_fld fh382 (by decide)).trans ((my_up_fld fh379 (by decide)).trans ev316.symm)).trans (by omega)) (ev385.symm.trans (by omega)) (ev387.symm.trans (by omega)) ((my_up_self fh382).trans (by omega)) (((my_up_fld fh382 (by decide)).trans ((my_up_fld fh379 (by decide)).trans ((my_up_fld fh311 (by decide)).trans cf))).trans (by omega)) (by omega) (by first | (intro t k a b; rw [sg]; exact dg_181_0 (by omega) k (by omega) (by omega)) | (intro t k a b; rw [sg]; exact dg_138_0 (by omega) k (by omega) (by omega)) | (intro t k a b; rw [sg, ← sg0, sgi k (by omega)]; omega) | (intro t; omega) | (intro t k a b; rw [sg]; rcases (by omega : k = p138_1 ∨ k < p138_1) with q | q <;> first | exact dg_138_0 (by omega) k (by omega) (by omega) | (subst q; omega)) | omega) (by first | assumption | omega | (subst_vars; omega) | omega) (by first | assumption | omega | (subst_vars; omega) | omega) (by first | assumption | omega | (subst_vars; omega) | omega) (by first | exact tk_A_e A_181_0 (by omega) (by omega) (by omega) | exact tk_A_s A_138_0 (by omega) (by omega) (by omega) (by omega) | exact tk_A_e A_138_0 (by omega) (by omega) (by omega) | exact tk_A_0 b52 (n52 (by omega)).1 (n52 (by omega)).2 k88 (by omega) (by omega) (by omega) | omega) (by omega) (by omega) (by omega)
          ·
            refine w_iconst gz_38_12 (by decide) ?_
            refine w_iret gz_38_13 gm_38 ?_
            show wp l rho (d + 1) 37 84 [(2, 82), (9, 0), (9, 0)] [(0, 1), (2, 82)] h311 Q
            refine w_goto (t := 88) gz_37_84 rfl ?_
            have k88 : tk_k (h 92 st) = 1 := by rw [← c81]; unfold tk_k; (repeat (first | rw [if_pos (by omega)] | rw [if_neg (by omega)]))
            refine v_putI (j := 6) gz_37_88 rfl is_82 rd_5 rfl (by omega) (by omega) rfl (fun h392 fh392 => ?_)
            have gh392 : my_fr [(5, 5), (5, 6), (5, 7), (5, 8)] h h392 := my_fr.up gh311 is_82 fh392 rfl
            have Al_h392 : Al h392 := Al_ag (my_ag.up fh392 is_82 rfl) Al_h311
            refine w_aload_n gz_37_91 rfl ?_
            refine v_getI (j := 6) gz_37_92 rfl is_82 rd_5 rfl (fun v393 ev393 pv393 qv393 => ?_)
            have zv393 := ev393.trans (my_up_self fh392)
            refine w_ifne (t := 99) gz_37_95 rfl (fun u394 => ?_) (fun u394 => by exfalso; omega)
            refine w_aload_n gz_37_99 rfl ?_
            refine w_iconst gz_37_100 (by decide) ?_
            refine v_putI (j := 8) gz_37_101 rfl is_82 rd_5 rfl (by omega) (by omega) rfl (fun h395 fh395 => ?_)
            have gh395 : my_fr [(5, 5), (5, 6), (5, 7), (5, 8)] h h395 := my_fr.up gh392 is_82 fh395 rfl
            have Al_h395 : Al h395 := Al_ag (my_ag.up fh395 is_82 rfl) Al_h392
            refine w_aload_n gz_37_104 rfl ?_
            refine v_getI (j := 6) gz_37_105 rfl is_82 rd_5 rfl (fun v396 ev396 pv396 qv396 => ?_)
            have zv396 := ev396.trans ((my_up_fld fh395 (by decide)).trans ev393.symm)
            refine w_iconst gz_37_108 (by decide) ?_
            refine w_icne (t := 117) gz_37_109 rfl (fun u397 => by exfalso; omega) (fun u397 => ?_)
            refine w_bipush gz_37_112 (by decide) ?_
            refine w_goto (t := 130) gz_37_114 rfl ?_
            refine w_istore_n (ls' := [(2, 82), (0, 8), (9, 0)]) gz_37_130 gm_37 rfl rfl rfl ?_
            refine w_aload_n gz_37_131 rfl ?_
            refine v_getI (j := 7) gz_37_132 rfl is_82 rd_5 rfl (fun v398 ev398 pv398 qv398 => ?_)
            have zv398 := ev398.trans ((my_up_fld fh395 (by decide)).trans ((my_up_fld fh392 (by decide)).trans (my_up_self fh311)))
            refine w_iconst gz_37_135 (by decide) ?_
            refine w_iadd gz_37_136 ⟨by omega, by omega⟩ ?_
            refine w_istore_n (ls' := [(2, 82), (0, 8), (0, (v398 + 1))]) gz_37_137 gm_37 rfl rfl rfl ?_
            have ce399 : h395 82 5 = v316 := ((my_up_fld fh395 (by decide)).trans ((my_up_fld fh392 (by decide)).trans ev316.symm))
            have ce400 : h395 82 6 = v396 := ev396.symm
            have ce401 : h395 82 7 = v398 := ev398.symm
            have ce402 : h395 82 8 = 0 := (my_up_self fh395)
            have sg : ∀ j : Int, h395 92 j = h 92 j := fun j => ((my_up_role fh395 is_92 is_82 rfl).trans ((my_up_role fh392 is_92 is_82 rfl).trans ((my_up_role fh311 is_92 is_82 rfl).trans (rfl : h 92 j = h 92 j))))
            exact J138_0 (1001) (8) ((v398 + 1)) (v316) (v396) h395 (gh395) (by omega) (by omega) (by omega) (by omega) (by omega) (by omega) (by omega) (by omega) (by omega) (by omega) (by omega) (by omega) (by omega) (by omega) (by omega) (by omega) (((my_up_fld fh395 (by decide)).trans ((my_up_fld fh392 (by decide)).trans ev313.symm)).trans (by omega)) (((my_up_fld fh395 (by decide)).trans ((my_up_fld fh392 (by decide)).trans ev316.symm)).trans (by omega)) (ev396.symm.trans (by omega)) (ev398.symm.trans (by omega)) ((my_up_self fh395).trans (by omega)) (((my_up_fld fh395 (by decide)).trans ((my_up_fld fh392 (by decide)).trans ((my_up_fld fh311 (by decide)).trans cf))).trans (by omega)) (by omega) (by first | (intro t k a b; rw [sg]; exact dg_181_0 (by omega) k (by omega) (by omega)) | (intro t k a b; rw [sg]; exact dg_138_0 (by omega) k (by omega) (by omega)) | (intro t k a b; rw [sg, ← sg0, sgi k (by omega)]; omega) | (intro t; omega) | (intro t k a b; rw [sg]; rcases (by omega : k = p138_1 ∨ k < p138_1) with q | q <;> first | exact dg_138_0 (by omega) k (by omega) (by omega) | (subst q; omega)) | omega) (by first | assumption | omega | (subst_vars; omega) | omega) (by first | assumption | omega | (subst_vars; omega) | omega) (by first | assumption | omega | (subst_vars; omega) | omega) (by first | exact tk_A_e A_181_0 (by omega) (by omega) (by omega) | exact tk_A_s A_138_0 (by omega) (by omega) (by omega) (by omega) | exact tk_A_e A_138_0 (by omega) (by omega) (by omega) | exact tk_A_0 b52 (n52 (by omega)).1 (n52 (by omega)).2 k88 (by omega) (by omega) (by omega) | omega) (by omega) (by omega) (by omega)
      ·
        refine w_aload_n gz_37_39 rfl ?_
        refine w_dup gz_37_40 rfl ?_
        refine v_getI (j := 5) gz_37_41 rfl is_82 rd_5 rfl (fun v403 ev403 pv403 qv403 => ?_)
        have zv403 := ev403.trans ev307.symm
        refine w_iconst gz_37_44 (by decide) ?_
        refine w_iadd gz_37_45 ⟨by omega, by omega⟩ ?_
        refine v_putI (j := 5) gz_37_46 rfl is_82 rd_5 rfl (by omega) (by omega) rfl (fun h404 fh404 => ?_)
        have gh404 : my_fr [(5, 5), (5, 6), (5, 7), (5, 8)] h h404 := my_fr.up my_fr.rf is_82 fh404 rfl
        have b46 : ∀ i : Int, h 82 5 ≤ i → i < h404 82 5 → h 92 i = 10 ∨ h 92 i = 32 := by
          have z := my_up_self fh404
          intro i a b
          rcases (by omega : i = h 82 5 ∨ i < h 82 5) with q | q
          · rw [q]; omega
          · first | exact bl_0_0 i a q | omega
        refine w_goto (t := 0) gz_37_49 rfl ?_
        have ce405 : h404 82 5 = (v403 + 1) := (my_up_self fh404)
        exact J0_0 (1001) ((v403 + 1)) h404 (gh404) (by omega) (by omega) (by omega) (by omega) (by omega) (by omega) (by omega) (((my_up_fld fh404 (by decide)).trans ev280.symm).trans (by omega)) ((my_up_self fh404).trans (by omega)) (((my_up_fld fh404 (by decide)).trans cf).trans (by omega)) (b46) (by omega)
end MYG22
