/-! contracts, printed by wip/gen/gy.py -/
section MYNModel_finds
theorem c_Model_finds {l : Launch} {rho : Nat → Int32} {d : Nat} {h : my_H} {Q : my_H → my_V → Prop} {x1 x2 x3 x4 x5 : Int} (a1 : 0 ≤ x1) (b1 : x1 ≤ 3) (a2 : (-1) ≤ x2) (b2 : x2 ≤ 2) (a3 : (-1) ≤ x3) (b3 : x3 ≤ 19) (a4 : (-1) ≤ x4) (b4 : x4 ≤ 3) (a5 : (-1) ≤ x5) (b5 : x5 ≤ 19) (n_Wys : Wys h) (hw : h 151 48 ≤ 1799) (k1 : x1 = 1 → 0 ≤ x2 ∧ 0 ≤ x3 ∧ 0 ≤ x4 ∧ 0 ≤ x5) (k2 : 2 ≤ x1 → 0 ≤ x2 ∧ 0 ≤ x3) (k0 : ∀ (h' : my_H), my_fr [(10, 48), (89, -1), (90, -1), (91, -1), (92, -1), (93, -1)] h h' → 1 ≤ h' 151 48 → h' 151 48 ≤ 1800 → h' 151 48 = h 151 48 + 1 → Wys h' → Q h' (9, 0)) : wp l rho d 214 0 [(2, 151), (0, x1), (0, x2), (0, x3), (0, x4), (0, x5)] [] h Q := by
  refine v_know (x := 151) (j := 48) (b := 48) rfl is_151 rd_10 rfl (fun k151_48 ek151_48 pk151_48 qk151_48 => ?_)
  refine w_aload_n gz_214_0 rfl ?_
  refine w_getX (v := 190) gz_214_1 is_151 rd_10 rfl (by decide) rfl ?_
  refine w_aload_n gz_214_4 rfl ?_
  refine v_getI (j := 48) gz_214_5 rfl is_151 rd_10 rfl (fun v2 ev2 pv2 qv2 => ?_)
  have zv2 := ev2.trans ek151_48.symm
  refine w_iload_n gz_214_8 rfl ?_
  have i9 : v2 = k151_48 := by omega
  have hi3 : 0 ≤ v2 := by omega
  have hi4 : v2 ≤ 1799 := by omega
  refine w_iast gz_214_9 is_190 rd_89 (by omega) (by omega) (by omega) (by omega) (fun h5 fh5 => ?_)
  have gh5 : my_fr [(10, 48), (89, -1), (90, -1), (91, -1), (92, -1), (93, -1)] h h5 := my_fr.up my_fr.rf is_190 fh5 rfl
  have f9 := fh5
  rw [i9] at f9
  refine w_aload_n gz_214_10 rfl ?_
  refine w_getX (v := 191) gz_214_11 is_151 rd_10 rfl (by decide) rfl ?_
  refine w_aload_n gz_214_14 rfl ?_
  refine v_getI (j := 48) gz_214_15 rfl is_151 rd_10 rfl (fun v7 ev7 pv7 qv7 => ?_)
  have zv7 := ev7.trans ((my_up_role fh5 is_151 is_190 rfl).trans ev2.symm)
  refine w_iload_n gz_214_18 rfl ?_
  have i19 : v7 = k151_48 := by omega
  have hi8 : 0 ≤ v7 := by omega
  have hi9 : v7 ≤ 1799 := by omega
  refine w_iast gz_214_19 is_191 rd_90 (by omega) (by omega) (by omega) (by omega) (fun h10 fh10 => ?_)
  have gh10 : my_fr [(10, 48), (89, -1), (90, -1), (91, -1), (92, -1), (93, -1)] h h10 := my_fr.up gh5 is_191 fh10 rfl
  have f19 := fh10
  rw [i19] at f19
  refine w_aload_n gz_214_20 rfl ?_
  refine w_getX (v := 192) gz_214_21 is_151 rd_10 rfl (by decide) rfl ?_
  refine w_aload_n gz_214_24 rfl ?_
  refine v_getI (j := 48) gz_214_25 rfl is_151 rd_10 rfl (fun v12 ev12 pv12 qv12 => ?_)
  have zv12 := ev12.trans ((my_up_role fh10 is_151 is_191 rfl).trans ev7.symm)
  refine w_iload_n gz_214_28 rfl ?_
  have i29 : v12 = k151_48 := by omega
  have hi13 : 0 ≤ v12 := by omega
  have hi14 : v12 ≤ 1799 := by omega
  refine w_iast gz_214_29 is_192 rd_91 (by omega) (by omega) (by omega) (by omega) (fun h15 fh15 => ?_)
  have gh15 : my_fr [(10, 48), (89, -1), (90, -1), (91, -1), (92, -1), (93, -1)] h h15 := my_fr.up gh10 is_192 fh15 rfl
  have f29 := fh15
  rw [i29] at f29
  refine w_aload_n gz_214_30 rfl ?_
  refine w_getX (v := 193) gz_214_31 is_151 rd_10 rfl (by decide) rfl ?_
  refine w_aload_n gz_214_34 rfl ?_
  refine v_getI (j := 48) gz_214_35 rfl is_151 rd_10 rfl (fun v17 ev17 pv17 qv17 => ?_)
  have zv17 := ev17.trans ((my_up_role fh15 is_151 is_192 rfl).trans ev12.symm)
  refine w_iload gz_214_38 rfl ?_
  have i40 : v17 = k151_48 := by omega
  have hi18 : 0 ≤ v17 := by omega
  have hi19 : v17 ≤ 1799 := by omega
  refine w_iast gz_214_40 is_193 rd_92 (by omega) (by omega) (by omega) (by omega) (fun h20 fh20 => ?_)
  have gh20 : my_fr [(10, 48), (89, -1), (90, -1), (91, -1), (92, -1), (93, -1)] h h20 := my_fr.up gh15 is_193 fh20 rfl
  have f40 := fh20
  rw [i40] at f40
  refine w_aload_n gz_214_41 rfl ?_
  refine w_getX (v := 194) gz_214_42 is_151 rd_10 rfl (by decide) rfl ?_
  refine w_aload_n gz_214_45 rfl ?_
  refine v_getI (j := 48) gz_214_46 rfl is_151 rd_10 rfl (fun v22 ev22 pv22 qv22 => ?_)
  have zv22 := ev22.trans ((my_up_role fh20 is_151 is_193 rfl).trans ev17.symm)
  refine w_iload gz_214_49 rfl ?_
  have i51 : v22 = k151_48 := by omega
  have hi23 : 0 ≤ v22 := by omega
  have hi24 : v22 ≤ 1799 := by omega
  refine w_iast gz_214_51 is_194 rd_93 (by omega) (by omega) (by omega) (by omega) (fun h25 fh25 => ?_)
  have gh25 : my_fr [(10, 48), (89, -1), (90, -1), (91, -1), (92, -1), (93, -1)] h h25 := my_fr.up gh20 is_194 fh25 rfl
  have f51 := fh25
  rw [i51] at f51
  refine w_aload_n gz_214_52 rfl ?_
  refine w_dup gz_214_53 rfl ?_
  refine v_getI (j := 48) gz_214_54 rfl is_151 rd_10 rfl (fun v26 ev26 pv26 qv26 => ?_)
  have zv26 := ev26.trans ((my_up_role fh25 is_151 is_194 rfl).trans ev22.symm)
  refine w_iconst gz_214_57 (by decide) ?_
  refine w_iadd gz_214_58 ⟨by omega, by omega⟩ ?_
  have hi27 : 0 ≤ (v26 + 1) := by omega
  have hi28 : (v26 + 1) ≤ 1800 := by omega
  refine v_putI (j := 48) gz_214_59 rfl is_151 rd_10 rfl (by omega) (by omega) rfl (fun h29 fh29 => ?_)
  have gh29 : my_fr [(10, 48), (89, -1), (90, -1), (91, -1), (92, -1), (93, -1)] h h29 := my_fr.up gh25 is_151 fh29 rfl
  have Wys_h29t30 : Wys h29 := Wys_add n_Wys ek151_48 f9 f19 f29 f40 f51 fh29 (by omega) k1 k2
  have k59 := my_up_self fh29
  have c31 := (my_up_self fh29)
  exact w_vret gz_214_62 gm_214 (k0 h29 (gh29) (by omega) (by omega) (by first | assumption | omega | (subst_vars; omega) | omega) Wys_h29t30)
theorem c_Model_isSetWanted {l : Launch} {rho : Nat → Int32} {d : Nat} {h : my_H} {Q : my_H → my_V → Prop} {x1 x2 : Int} (a1 : 0 ≤ x1) (b1 : x1 ≤ 2) (a2 : 0 ≤ x2) (b2 : x2 ≤ 1023) (n_Rws : Rws h) (w4 : h 151 27 ≤ 4) (k0 : ∀ (h' : my_H), my_fr [(96, -1)] h h' → 1 ≤ h' 151 46 → h' 151 46 ≤ 11 → Q h' (0, 0)) (k1 : ∀ (h' : my_H), my_fr [(96, -1)] h h' → Q h' (0, 1)) : wp l rho (d + 2) 239 0 [(2, 151), (0, x1), (0, x2), (9, 0), (9, 0), (9, 0), (9, 0), (9, 0), (9, 0), (9, 0), (9, 0)] [] h Q := by
  refine v_know (x := 151) (j := 27) (b := 27) rfl is_151 rd_10 rfl (fun k151_27 ek151_27 pk151_27 qk151_27 => ?_)
  refine v_knowA (x := 162) is_162 rd_61 (fun kT => ?_)
  have J66_0 : ∀ (n : Nat) (p66_0 p66_1 p66_2 p66_3 p66_4 : Int) (h66_0 : my_H), my_fr [(96, -1)] h h66_0 → 0 ≤ p66_0 → p66_0 ≤ 10 → 0 ≤ p66_1 → p66_1 ≤ 20 → 0 ≤ p66_3 → p66_3 ≤ 11 → 0 ≤ p66_4 → p66_4 ≤ 8 → p66_0 ≤ p66_1 → p66_3 ≤ (p66_0 + 10) → p66_3 ≤ (p66_1 + 10) → p66_4 ≤ k151_27 → k151_27 ≤ p66_4 → h66_0 151 27 = p66_4 → Rws h66_0 → 12 - p66_3 ≤ (n : Int) → wp l rho (d + 2) 239 66 [(2, 151), (0, x1), (0, x2), (0, p66_0), (0, p66_1), (0, p66_2), (0, p66_3), (9, 0), (9, 0), (9, 0), (9, 0)] [] h66_0 Q := by
    intro n
    induction n with
    | zero => intro p66_0 p66_1 p66_2 p66_3 p66_4 h66_0 gh_66_0 q0_66_0 q1_66_0 q2_66_0 q3_66_0 q4_66_0 q5_66_0 q6_66_0 q7_66_0 q8_66_0 q9_66_0 q10_66_0 q11_66_0 q12_66_0 c151_27_66_0 n_Rws_66_0 hm_66_0; exfalso; omega
    | succ n ih_66_0 =>
      intro p66_0 p66_1 p66_2 p66_3 p66_4 h66_0 gh_66_0 q0_66_0 q1_66_0 q2_66_0 q3_66_0 q4_66_0 q5_66_0 q6_66_0 q7_66_0 q8_66_0 q9_66_0 q10_66_0 q11_66_0 q12_66_0 c151_27_66_0 n_Rws_66_0 hm_66_0
      have J194_0 : ∀ (p194_0 p194_1 p194_2 p194_3 : Int) (h194_0 : my_H), my_fr [(96, -1)] h h194_0 → p66_3 ≤ 10 → (-1) ≤ p194_0 → p194_0 ≤ 9 → 0 ≤ p194_1 → p194_1 ≤ 10 → 0 ≤ p194_2 → p194_2 ≤ 8 → 1 ≤ p194_3 → p194_3 ≤ 11 → p194_0 ≤ (p194_1 - 1) → p194_0 ≤ (p66_0 - 1) → p194_0 ≤ (p66_1 - 1) → p194_1 ≤ p66_0 → p194_1 ≤ p66_1 → p194_2 ≤ p66_4 → p194_2 ≤ k151_27 → p66_0 ≤ (p194_1 + 9) → p66_0 ≤ p66_1 → p66_3 ≤ (p194_3 - 1) → p66_4 ≤ p194_2 → p66_4 ≤ k151_27 → k151_27 ≤ p194_2 → k151_27 ≤ p66_4 → h194_0 151 27 = p194_2 → h194_0 151 46 = p194_3 → Rws h194_0 → wp l rho (d + 2) 239 194 [(2, 151), (0, x1), (0, x2), (0, p66_0), (0, p66_1), (0, p66_2), (0, p66_3), (0, p194_0), (0, p194_1), (9, 0), (9, 0)] [] h194_0 Q := by
        intro p194_0 p194_1 p194_2 p194_3 h194_0 gh_194_0 q0_194_0 q1_194_0 q2_194_0 q3_194_0 q4_194_0 q5_194_0 q6_194_0 q7_194_0 q8_194_0 q9_194_0 q10_194_0 q11_194_0 q12_194_0 q13_194_0 q14_194_0 q15_194_0 q16_194_0 q17_194_0 q18_194_0 q19_194_0 q20_194_0 q21_194_0 q22_194_0 c151_27_194_0 c151_46_194_0 n_Rws_194_0
        refine w_iload gz_239_194 rfl ?_
        refine w_ifge (t := 201) gz_239_196 rfl (fun u1 => ?_) (fun u1 => ?_)
        ·
          refine w_iload gz_239_201 rfl ?_
          refine w_iconst gz_239_203 (by decide) ?_
          refine w_iload gz_239_204 rfl ?_
          refine w_ianyL gz_239_206 (fun v2 pv2 qv2 => ?_)
          refine w_ianyO gz_239_207 (fun v3 pv3 qv3 => ?_)
          refine w_istore (ls' := [(2, 151), (0, x1), (0, x2), (0, p66_0), (0, p66_1), (0, v3), (0, p66_3), (0, p194_0), (0, p194_1), (9, 0), (9, 0)]) gz_239_208 gm_239 rfl rfl rfl ?_
          refine w_iinc (ls' := [(2, 151), (0, x1), (0, x2), (0, p66_0), (0, p66_1), (0, v3), (0, (p66_3 + 1)), (0, p194_0), (0, p194_1), (9, 0), (9, 0)]) gz_239_210 rfl gm_239 rfl rfl rfl ⟨by omega, by omega⟩ ?_
          refine w_goto (t := 66) gz_239_213 rfl ?_
          refine w_weak (ls' := [(2, 151), (0, x1), (0, x2), (0, p66_0), (0, p66_1), (0, v3), (0, (p66_3 + 1)), (9, 0), (9, 0), (9, 0), (9, 0)]) (wk_e (wk_e (wk_e (wk_e (wk_e (wk_e (wk_e (wk_9 (wk_9 (wk_9 (wk_9 wk_n))))))))))) ?_
          exact ih_66_0 (p66_0) (p66_1) (v3) ((p66_3 + 1)) (p194_2) h194_0 (gh_194_0) (by omega) (by omega) (by omega) (by omega) (by omega) (by omega) (by omega) (by omega) (by omega) (by omega) (by omega) (by omega) (by omega) (c151_27_194_0.trans (by omega)) n_Rws_194_0 (by omega)
        ·
          refine w_iconst gz_239_199 (by decide) ?_
          have c4 := c151_46_194_0
          exact w_bret gz_239_200 gm_239 (by omega) (by omega) (k0 h194_0 (gh_194_0) (by omega) (by omega))
      have J81_0 : ∀ (n : Nat) (p81_0 p81_1 p81_2 p81_3 : Int) (h81_0 : my_H), my_fr [(96, -1)] h h81_0 → p66_3 ≤ 10 → (-1) ≤ p81_0 → p81_0 ≤ 9 → 0 ≤ p81_1 → p81_1 ≤ 10 → 0 ≤ p81_2 → p81_2 ≤ 8 → 1 ≤ p81_3 → p81_3 ≤ 11 → p81_0 ≤ (p81_1 - 1) → p81_0 ≤ (p66_0 - 1) → p81_0 ≤ (p66_1 - 1) → p81_1 ≤ p66_0 → p81_1 ≤ p66_1 → p81_2 ≤ p66_4 → p81_2 ≤ k151_27 → p66_0 ≤ p66_1 → p66_3 ≤ (p81_3 - 1) → p66_4 ≤ p81_2 → p66_4 ≤ k151_27 → k151_27 ≤ p81_2 → k151_27 ≤ p66_4 → h81_0 151 27 = p81_2 → h81_0 151 46 = p81_3 → Rws h81_0 → 11 - p81_1 ≤ (n : Int) → wp l rho (d + 2) 239 81 [(2, 151), (0, x1), (0, x2), (0, p66_0), (0, p66_1), (0, p66_2), (0, p66_3), (0, p81_0), (0, p81_1), (9, 0), (9, 0)] [] h81_0 Q := by
        intro n
        induction n with
        | zero => intro p81_0 p81_1 p81_2 p81_3 h81_0 gh_81_0 q0_81_0 q1_81_0 q2_81_0 q3_81_0 q4_81_0 q5_81_0 q6_81_0 q7_81_0 q8_81_0 q9_81_0 q10_81_0 q11_81_0 q12_81_0 q13_81_0 q14_81_0 q15_81_0 q16_81_0 q17_81_0 q18_81_0 q19_81_0 q20_81_0 q21_81_0 c151_27_81_0 c151_46_81_0 n_Rws_81_0 hm_81_0; exfalso; omega
        | succ n ih_81_0 =>
          intro p81_0 p81_1 p81_2 p81_3 h81_0 gh_81_0 q0_81_0 q1_81_0 q2_81_0 q3_81_0 q4_81_0 q5_81_0 q6_81_0 q7_81_0 q8_81_0 q9_81_0 q10_81_0 q11_81_0 q12_81_0 q13_81_0 q14_81_0 q15_81_0 q16_81_0 q17_81_0 q18_81_0 q19_81_0 q20_81_0 q21_81_0 c151_27_81_0 c151_46_81_0 n_Rws_81_0 hm_81_0
          have J112_0 : ∀ (n : Nat) (p112_0 p112_1 : Int) (h112_0 : my_H), my_fr [(96, -1)] h h112_0 → 1 ≤ p66_0 → 1 ≤ p66_1 → p81_1 ≤ 9 → 0 ≤ p112_0 → p112_0 ≤ 1 → 0 ≤ p112_1 → p112_1 ≤ 8 → p81_0 ≤ (-1) → p112_1 ≤ p81_2 → p112_1 ≤ p66_4 → p112_1 ≤ k151_27 → p66_0 ≤ p66_1 → p66_3 ≤ (p81_3 - 1) → p81_1 ≤ (p66_0 - 1) → p81_1 ≤ (p66_1 - 1) → p81_2 ≤ p66_4 → p81_2 ≤ k151_27 → p66_4 ≤ p81_2 → p66_4 ≤ k151_27 → k151_27 ≤ p81_2 → k151_27 ≤ p66_4 → h112_0 151 27 = p81_2 → h112_0 151 46 = p81_3 → Rws h112_0 → 9 - p112_1 ≤ (n : Int) → wp l rho (d + 2) 239 112 [(2, 151), (0, x1), (0, x2), (0, p66_0), (0, p66_1), (0, p66_2), (0, p66_3), (0, (-1)), (0, p81_1), (0, p112_0), (0, p112_1)] [] h112_0 Q := by
            intro n
            induction n with
            | zero => intro p112_0 p112_1 h112_0 gh_112_0 q0_112_0 q1_112_0 q2_112_0 q3_112_0 q4_112_0 q5_112_0 q6_112_0 q7_112_0 q8_112_0 q9_112_0 q10_112_0 q11_112_0 q12_112_0 q13_112_0 q14_112_0 q15_112_0 q16_112_0 q17_112_0 q18_112_0 q19_112_0 q20_112_0 c151_27_112_0 c151_46_112_0 n_Rws_112_0 hm_112_0; exfalso; omega
            | succ n ih_112_0 =>
              intro p112_0 p112_1 h112_0 gh_112_0 q0_112_0 q1_112_0 q2_112_0 q3_112_0 q4_112_0 q5_112_0 q6_112_0 q7_112_0 q8_112_0 q9_112_0 q10_112_0 q11_112_0 q12_112_0 q13_112_0 q14_112_0 q15_112_0 q16_112_0 q17_112_0 q18_112_0 q19_112_0 q20_112_0 c151_27_112_0 c151_46_112_0 n_Rws_112_0 hm_112_0
              have J166_0 : ∀ (p166_0 : Int) (h166_0 : my_H), my_fr [(96, -1)] h h166_0 → 0 ≤ p166_0 → p166_0 ≤ 1 → p112_1 ≤ 7 → 1 ≤ p81_2 → 1 ≤ p66_4 → 1 ≤ k151_27 → p166_0 ≤ p112_0 → p66_0 ≤ p66_1 → p66_3 ≤ (p81_3 - 1) → p81_1 ≤ (p66_0 - 1) → p81_1 ≤ (p66_1 - 1) → p112_1 ≤ (p81_2 - 1) → p112_1 ≤ (p66_4 - 1) → p112_1 ≤ (k151_27 - 1) → p81_2 ≤ p66_4 → p81_2 ≤ k151_27 → p112_0 ≤ p166_0 → p66_4 ≤ p81_2 → p66_4 ≤ k151_27 → k151_27 ≤ p81_2 → k151_27 ≤ p66_4 → h166_0 151 27 = p81_2 → h166_0 151 46 = p81_3 → Rws h166_0 → wp l rho (d + 2) 239 166 [(2, 151), (0, x1), (0, x2), (0, p66_0), (0, p66_1), (0, p66_2), (0, p66_3), (0, (-1)), (0, p81_1), (0, p166_0), (0, p112_1)] [] h166_0 Q := by
                intro p166_0 h166_0 gh_166_0 q0_166_0 q1_166_0 q2_166_0 q3_166_0 q4_166_0 q5_166_0 q6_166_0 q7_166_0 q8_166_0 q9_166_0 q10_166_0 q11_166_0 q12_166_0 q13_166_0 q14_166_0 q15_166_0 q16_166_0 q17_166_0 q18_166_0 q19_166_0 q20_166_0 c151_27_166_0 c151_46_166_0 n_Rws_166_0
                refine w_iconst gz_239_166 (by decide) ?_
                refine w_istore (ls' := [(2, 151), (0, x1), (0, x2), (0, p66_0), (0, p66_1), (0, p66_2), (0, p66_3), (0, (-1)), (0, p81_1), (0, 0), (0, p112_1)]) gz_239_167 gm_239 rfl rfl rfl ?_
                refine w_iinc (ls' := [(2, 151), (0, x1), (0, x2), (0, p66_0), (0, p66_1), (0, p66_2), (0, p66_3), (0, (-1)), (0, p81_1), (0, 0), (0, (p112_1 + 1))]) gz_239_169 rfl gm_239 rfl rfl rfl ⟨by omega, by omega⟩ ?_
                refine w_goto (t := 112) gz_239_172 rfl ?_
                exact ih_112_0 (0) ((p112_1 + 1)) h166_0 (gh_166_0) (by omega) (by omega) (by omega) (by omega) (by omega) (by omega) (by omega) (by omega) (by omega) (by omega) (by omega) (by omega) (by omega) (by omega) (by omega) (by omega) (by omega) (by omega) (by omega) (by omega) (by omega) (c151_27_166_0.trans (by omega)) (c151_46_166_0.trans (by omega)) n_Rws_166_0 (by omega)
              refine w_iload gz_239_112 rfl ?_
              refine w_aload_n gz_239_114 rfl ?_
              refine v_getI (j := 27) gz_239_115 rfl is_151 rd_10 rfl (fun v5 ev5 pv5 qv5 => ?_)
              have zv5 := ev5.trans c151_27_112_0
              refine w_icge (t := 175) gz_239_118 rfl (fun u6 => ?_) (fun u6 => ?_)
              ·
                refine w_iload gz_239_175 rfl ?_
                refine w_ifeq (t := 185) gz_239_177 rfl (fun u7 => ?_) (fun u7 => ?_)
                ·
                  refine w_iconst gz_239_185 (by decide) ?_
                  refine w_istore (ls' := [(2, 151), (0, x1), (0, x2), (0, p66_0), (0, p66_1), (0, p66_2), (0, p66_3), (0, (-1)), (0, p81_1), (0, p112_0), (0, p112_1)]) gz_239_186 gm_239 rfl rfl rfl ?_
                  refine w_iinc (ls' := [(2, 151), (0, x1), (0, x2), (0, p66_0), (0, p66_1), (0, p66_2), (0, p66_3), (0, (-1)), (0, (p81_1 + 1)), (0, p112_0), (0, p112_1)]) gz_239_188 rfl gm_239 rfl rfl rfl ⟨by omega, by omega⟩ ?_
                  refine w_goto (t := 81) gz_239_191 rfl ?_
                  refine w_weak (ls' := [(2, 151), (0, x1), (0, x2), (0, p66_0), (0, p66_1), (0, p66_2), (0, p66_3), (0, (-1)), (0, (p81_1 + 1)), (9, 0), (9, 0)]) (wk_e (wk_e (wk_e (wk_e (wk_e (wk_e (wk_e (wk_e (wk_e (wk_9 (wk_9 wk_n))))))))))) ?_
                  exact ih_81_0 ((-1)) ((p81_1 + 1)) (v5) (p81_3) h112_0 (gh_112_0) (by omega) (by omega) (by omega) (by omega) (by omega) (by omega) (by omega) (by omega) (by omega) (by omega) (by omega) (by omega) (by omega) (by omega) (by omega) (by omega) (by omega) (by omega) (by omega) (by omega) (by omega) (by omega) (ev5.symm.trans (by omega)) (c151_46_112_0.trans (by omega)) n_Rws_112_0 (by omega)
                ·
                  refine w_iload gz_239_180 rfl ?_
                  refine w_goto (t := 186) gz_239_182 rfl ?_
                  refine w_istore (ls' := [(2, 151), (0, x1), (0, x2), (0, p66_0), (0, p66_1), (0, p66_2), (0, p66_3), (0, p81_1), (0, p81_1), (0, p112_0), (0, p112_1)]) gz_239_186 gm_239 rfl rfl rfl ?_
                  refine w_iinc (ls' := [(2, 151), (0, x1), (0, x2), (0, p66_0), (0, p66_1), (0, p66_2), (0, p66_3), (0, p81_1), (0, (p81_1 + 1)), (0, p112_0), (0, p112_1)]) gz_239_188 rfl gm_239 rfl rfl rfl ⟨by omega, by omega⟩ ?_
                  refine w_goto (t := 81) gz_239_191 rfl ?_
                  refine w_weak (ls' := [(2, 151), (0, x1), (0, x2), (0, p66_0), (0, p66_1), (0, p66_2), (0, p66_3), (0, p81_1), (0, (p81_1 + 1)), (9, 0), (9, 0)]) (wk_e (wk_e (wk_e (wk_e (wk_e (wk_e (wk_e (wk_e (wk_e (wk_9 (wk_9 wk_n))))))))))) ?_
                  exact ih_81_0 (p81_1) ((p81_1 + 1)) (v5) (p81_3) h112_0 (gh_112_0) (by omega) (by omega) (by omega) (by omega) (by omega) (by omega) (by omega) (by omega) (by omega) (by omega) (by omega) (by omega) (by omega) (by omega) (by omega) (by omega) (by omega) (by omega) (by omega) (by omega) (by omega) (by omega) (ev5.symm.trans (by omega)) (c151_46_112_0.trans (by omega)) n_Rws_112_0 (by omega)
              ·
                refine w_iload gz_239_121 rfl ?_
                refine w_ifeq (t := 166) gz_239_123 rfl (fun u8 => ?_) (fun u8 => ?_)
                ·
                  exact J166_0 (p112_0) h112_0 (gh_112_0) (by omega) (by omega) (by omega) (by omega) (by omega) (by omega) (by omega) (by omega) (by omega) (by omega) (by omega) (by omega) (by omega) (by omega) (by omega) (by omega) (by omega) (by omega) (by omega) (by omega) (by omega) (ev5.symm.trans (by omega)) (c151_46_112_0.trans (by omega)) n_Rws_112_0
                ·
                  refine w_aload_n gz_239_126 rfl ?_
                  refine w_getX (v := 189) gz_239_127 is_151 rd_10 rfl (by decide) rfl ?_
                  refine w_bipush gz_239_130 (by decide) ?_
                  refine w_iload gz_239_132 rfl ?_
                  refine w_imul gz_239_134 ⟨by omega, by omega⟩ ?_
                  refine w_iload gz_239_135 rfl ?_
                  refine w_iadd gz_239_137 ⟨by omega, by omega⟩ ?_
                  refine w_iald gz_239_138 is_189 rd_88 (by omega) (by omega) (fun v10 ev10 pv10 qv10 => ?_)
                  refine w_aload_n gz_239_139 rfl ?_
                  refine w_iconst gz_239_140 (by decide) ?_
                  refine w_iload_n gz_239_141 rfl ?_
                  refine w_aload_n gz_239_142 rfl ?_
                  refine w_getX (v := 197) gz_239_143 is_151 rd_10 rfl (by decide) rfl ?_
                  refine w_iload gz_239_146 rfl ?_
                  refine w_iald gz_239_148 is_197 rd_96 (by omega) (by omega) (fun v12 ev12 pv12 qv12 => ?_)
                  refine w_aload_n gz_239_149 rfl ?_
                  refine w_getX (v := 196) gz_239_150 is_151 rd_10 rfl (by decide) rfl ?_
                  refine w_iload gz_239_153 rfl ?_
                  have hi14 : 0 ≤ p112_1 := by omega
                  have hi15 : p112_1 ≤ 3 := by omega
                  refine w_iald gz_239_155 is_196 rd_95 (by omega) (by omega) (fun v16 ev16 pv16 qv16 => ?_)
                  refine w_inv (k := 0) (as := [(0, v16), (0, v12), (0, x1), (0, 0)]) (r := [(0, v10)]) (x := 151) (ls0 := [(2, 151), (0, 0), (0, x1), (0, v12), (0, v16)]) gz_239_156 gm_157 rfl is_151 rd_10 rfl rfl rfl rfl rfl ?_
                  refine w_aload_n gz_157_0 rfl ?_
                  refine w_getX (v := 163) gz_157_1 is_151 rd_10 rfl (by decide) rfl ?_
                  refine w_iconst gz_157_4 (by decide) ?_
                  refine w_iload_n gz_157_5 rfl ?_
                  refine w_iload_n gz_157_6 rfl ?_
                  refine w_iload_n gz_157_7 rfl ?_
                  refine w_inS (k := 0) (as := [(0, v12), (0, x1), (0, 0)]) (r := [(0, 4), (2, 163)]) (ls0 := [(0, 0), (0, x1), (0, v12)]) gz_157_8 gm_150 rfl rfl rfl rfl rfl rfl ?_
                  refine w_bipush gz_150_0 (by decide) ?_
                  refine w_iload_n gz_150_2 rfl ?_
                  refine w_imul gz_150_3 ⟨by omega, by omega⟩ ?_
                  refine w_bipush gz_150_4 (by decide) ?_
                  refine w_iload_n gz_150_6 rfl ?_
                  refine w_imul gz_150_7 ⟨by omega, by omega⟩ ?_
                  refine w_iadd gz_150_8 ⟨by omega, by omega⟩ ?_
                  refine w_iload_n gz_150_9 rfl ?_
                  refine w_iadd gz_150_10 ⟨by omega, by omega⟩ ?_
                  refine w_iret gz_150_11 gm_150 ?_
                  show wp l rho (d + 1) 157 11 [(2, 151), (0, 0), (0, x1), (0, v12), (0, v16)] [(0, (((60 * 0) + (20 * x1)) + v12)), (0, 4), (2, 163)] h112_0 _
                  refine w_imul gz_157_11 ⟨by omega, by omega⟩ ?_
                  refine w_iload gz_157_12 rfl ?_
                  refine w_iadd gz_157_14 ⟨by omega, by omega⟩ ?_
                  refine w_iald gz_157_15 is_163 rd_62 (by omega) (by omega) (fun v18 ev18 pv18 qv18 => ?_)
                  refine w_iret gz_157_16 gm_157 ?_
                  show wp l rho (d + 2) 239 159 [(2, 151), (0, x1), (0, x2), (0, p66_0), (0, p66_1), (0, p66_2), (0, p66_3), (0, (-1)), (0, p81_1), (0, p112_0), (0, p112_1)] [(0, v18), (0, v10)] h112_0 Q
                  refine w_icne (t := 166) gz_239_159 rfl (fun u19 => ?_) (fun u19 => ?_)
                  ·
                    exact J166_0 (p112_0) h112_0 (gh_112_0) (by omega) (by omega) (by omega) (by omega) (by omega) (by omega) (by omega) (by omega) (by omega) (by omega) (by omega) (by omega) (by omega) (by omega) (by omega) (by omega) (by omega) (by omega) (by omega) (by omega) (by omega) (ev5.symm.trans (by omega)) (c151_46_112_0.trans (by omega)) n_Rws_112_0
                  ·
                    refine w_iconst gz_239_162 (by decide) ?_
                    refine w_goto (t := 167) gz_239_163 rfl ?_
                    refine w_istore (ls' := [(2, 151), (0, x1), (0, x2), (0, p66_0), (0, p66_1), (0, p66_2), (0, p66_3), (0, (-1)), (0, p81_1), (0, 1), (0, p112_1)]) gz_239_167 gm_239 rfl rfl rfl ?_
                    refine w_iinc (ls' := [(2, 151), (0, x1), (0, x2), (0, p66_0), (0, p66_1), (0, p66_2), (0, p66_3), (0, (-1)), (0, p81_1), (0, 1), (0, (p112_1 + 1))]) gz_239_169 rfl gm_239 rfl rfl rfl ⟨by omega, by omega⟩ ?_
                    refine w_goto (t := 112) gz_239_172 rfl ?_
                    exact ih_112_0 (1) ((p112_1 + 1)) h112_0 (gh_112_0) (by omega) (by omega) (by omega) (by omega) (by omega) (by omega) (by omega) (by omega) (by omega) (by omega) (by omega) (by omega) (by omega) (by omega) (by omega) (by omega) (by omega) (by omega) (by omega) (by omega) (by omega) (ev5.symm.trans (by omega)) (c151_46_112_0.trans (by omega)) n_Rws_112_0 (by omega)
          refine w_iload gz_239_81 rfl ?_
          refine w_iload_n gz_239_83 rfl ?_
          refine w_icge (t := 194) gz_239_84 rfl (fun u20 => ?_) (fun u20 => ?_)
          ·
            exact J194_0 (p81_0) (p81_1) (p81_2) (p81_3) h81_0 (gh_81_0) (by omega) (by omega) (by omega) (by omega) (by omega) (by omega) (by omega) (by omega) (by omega) (by omega) (by omega) (by omega) (by omega) (by omega) (by omega) (by omega) (by omega) (by omega) (by omega) (by omega) (by omega) (by omega) (by omega) (c151_27_81_0.trans (by omega)) (c151_46_81_0.trans (by omega)) n_Rws_81_0
          ·
            refine w_iload gz_239_87 rfl ?_
            refine w_ifge (t := 194) gz_239_89 rfl (fun u21 => ?_) (fun u21 => ?_)
            ·
              exact J194_0 (p81_0) (p81_1) (p81_2) (p81_3) h81_0 (gh_81_0) (by omega) (by omega) (by omega) (by omega) (by omega) (by omega) (by omega) (by omega) (by omega) (by omega) (by omega) (by omega) (by omega) (by omega) (by omega) (by omega) (by omega) (by omega) (by omega) (by omega) (by omega) (by omega) (by omega) (c151_27_81_0.trans (by omega)) (c151_46_81_0.trans (by omega)) n_Rws_81_0
            ·
              refine w_iload gz_239_92 rfl ?_
              refine w_iload gz_239_94 rfl ?_
              refine w_ianyR gz_239_96 (fun v22 pv22 qv22 => ?_)
              refine w_iconst gz_239_97 (by decide) ?_
              refine w_iandM gz_239_98 (by decide) (fun v23 pv23 qv23 => ?_)
              refine w_ifne (t := 106) gz_239_99 rfl (fun u24 => ?_) (fun u24 => ?_)
              ·
                refine w_iconst gz_239_106 (by decide) ?_
                refine w_istore (ls' := [(2, 151), (0, x1), (0, x2), (0, p66_0), (0, p66_1), (0, p66_2), (0, p66_3), (0, p81_0), (0, p81_1), (0, 0), (9, 0)]) gz_239_107 gm_239 rfl rfl rfl ?_
                refine w_iconst gz_239_109 (by decide) ?_
                refine w_istore (ls' := [(2, 151), (0, x1), (0, x2), (0, p66_0), (0, p66_1), (0, p66_2), (0, p66_3), (0, p81_0), (0, p81_1), (0, 0), (0, 0)]) gz_239_110 gm_239 rfl rfl rfl ?_
                rw [show (p81_0 : Int) = (-1) from by omega]
                exact J112_0 9 (0) (0) h81_0 (gh_81_0) (by omega) (by omega) (by omega) (by omega) (by omega) (by omega) (by omega) (by omega) (by omega) (by omega) (by omega) (by omega) (by omega) (by omega) (by omega) (by omega) (by omega) (by omega) (by omega) (by omega) (by omega) (c151_27_81_0.trans (by omega)) (c151_46_81_0.trans (by omega)) n_Rws_81_0 (by omega)
              ·
                refine w_iconst gz_239_102 (by decide) ?_
                refine w_goto (t := 107) gz_239_103 rfl ?_
                refine w_istore (ls' := [(2, 151), (0, x1), (0, x2), (0, p66_0), (0, p66_1), (0, p66_2), (0, p66_3), (0, p81_0), (0, p81_1), (0, 1), (9, 0)]) gz_239_107 gm_239 rfl rfl rfl ?_
                refine w_iconst gz_239_109 (by decide) ?_
                refine w_istore (ls' := [(2, 151), (0, x1), (0, x2), (0, p66_0), (0, p66_1), (0, p66_2), (0, p66_3), (0, p81_0), (0, p81_1), (0, 1), (0, 0)]) gz_239_110 gm_239 rfl rfl rfl ?_
                rw [show (p81_0 : Int) = (-1) from by omega]
                exact J112_0 9 (1) (0) h81_0 (gh_81_0) (by omega) (by omega) (by omega) (by omega) (by omega) (by omega) (by omega) (by omega) (by omega) (by omega) (by omega) (by omega) (by omega) (by omega) (by omega) (by omega) (by omega) (by omega) (by omega) (by omega) (by omega) (c151_27_81_0.trans (by omega)) (c151_46_81_0.trans (by omega)) n_Rws_81_0 (by omega)
      refine w_iload gz_239_66 rfl ?_
      refine w_aload_n gz_239_68 rfl ?_
      refine v_getI (j := 46) gz_239_69 rfl is_151 rd_10 rfl (fun v25 ev25 pv25 qv25 => ?_)
      refine w_icge (t := 216) gz_239_72 rfl (fun u26 => ?_) (fun u26 => ?_)
      ·
        refine w_iconst gz_239_216 (by decide) ?_
        exact w_bret gz_239_217 gm_239 (by omega) (by omega) (k1 h66_0 (gh_66_0))
      ·
        refine w_iconst gz_239_75 (by decide) ?_
        refine w_istore (ls' := [(2, 151), (0, x1), (0, x2), (0, p66_0), (0, p66_1), (0, p66_2), (0, p66_3), (0, (-1)), (9, 0), (9, 0), (9, 0)]) gz_239_76 gm_239 rfl rfl rfl ?_
        refine w_iconst gz_239_78 (by decide) ?_
        refine w_istore (ls' := [(2, 151), (0, x1), (0, x2), (0, p66_0), (0, p66_1), (0, p66_2), (0, p66_3), (0, (-1)), (0, 0), (9, 0), (9, 0)]) gz_239_79 gm_239 rfl rfl rfl ?_
        exact J81_0 11 ((-1)) (0) (p66_4) (v25) h66_0 (gh_66_0) (by omega) (by omega) (by omega) (by omega) (by omega) (by omega) (by omega) (by omega) (by omega) (by omega) (by omega) (by omega) (by omega) (by omega) (by omega) (by omega) (by omega) (by omega) (by omega) (by omega) (by omega) (by omega) (c151_27_66_0.trans (by omega)) (ev25.symm.trans (by omega)) n_Rws_66_0 (by omega)
  have J8_0 : ∀ (n : Nat) (p8_0 p8_1 p8_2 : Int) (h8_0 : my_H), my_fr [(96, -1)] h h8_0 → 0 ≤ p8_0 → p8_0 ≤ 10 → 0 ≤ p8_1 → p8_1 ≤ 20 → 0 ≤ p8_2 → p8_2 ≤ 20 → p8_0 ≤ p8_1 → p8_0 ≤ p8_2 → p8_1 ≤ p8_2 → h8_0 151 27 = k151_27 → Rws h8_0 → p8_0 ≤ p8_1 → p8_1 = rc h (60 * 0 + 20 * x1) p8_2.toNat → 21 - p8_2 ≤ (n : Int) → wp l rho (d + 2) 239 8 [(2, 151), (0, x1), (0, x2), (0, p8_0), (0, p8_1), (0, p8_2), (9, 0), (9, 0), (9, 0), (9, 0), (9, 0)] [] h8_0 Q := by
    intro n
    induction n with
    | zero => intro p8_0 p8_1 p8_2 h8_0 gh_8_0 q0_8_0 q1_8_0 q2_8_0 q3_8_0 q4_8_0 q5_8_0 q6_8_0 q7_8_0 q8_8_0 c151_27_8_0 n_Rws_8_0 ni_8_0 ri_8_0 hm_8_0; exfalso; omega
    | succ n ih_8_0 =>
      intro p8_0 p8_1 p8_2 h8_0 gh_8_0 q0_8_0 q1_8_0 q2_8_0 q3_8_0 q4_8_0 q5_8_0 q6_8_0 q7_8_0 q8_8_0 c151_27_8_0 n_Rws_8_0 ni_8_0 ri_8_0 hm_8_0
      refine w_iload gz_239_8 rfl ?_
      refine w_bipush gz_239_10 (by decide) ?_
      refine w_icge (t := 60) gz_239_12 rfl (fun u27 => ?_) (fun u27 => ?_)
      ·
        refine w_iconst gz_239_60 (by decide) ?_
        refine w_istore (ls' := [(2, 151), (0, x1), (0, x2), (0, p8_0), (0, p8_1), (0, 0), (9, 0), (9, 0), (9, 0), (9, 0), (9, 0)]) gz_239_61 gm_239 rfl rfl rfl ?_
        refine w_iconst gz_239_63 (by decide) ?_
        refine w_istore (ls' := [(2, 151), (0, x1), (0, x2), (0, p8_0), (0, p8_1), (0, 0), (0, 0), (9, 0), (9, 0), (9, 0), (9, 0)]) gz_239_64 gm_239 rfl rfl rfl ?_
        exact J66_0 12 (p8_0) (p8_1) (0) (0) (k151_27) h8_0 (gh_8_0) (by omega) (by omega) (by omega) (by omega) (by omega) (by omega) (by omega) (by omega) (by omega) (by omega) (by omega) (by omega) (by omega) (c151_27_8_0.trans (by omega)) n_Rws_8_0 (by omega)
      ·
        refine w_aload_n gz_239_15 rfl ?_
        refine w_getX (v := 162) gz_239_16 is_151 rd_10 rfl (by decide) rfl ?_
        refine w_iconst gz_239_19 (by decide) ?_
        refine w_iload_n gz_239_20 rfl ?_
        refine w_iload gz_239_21 rfl ?_
        refine w_inS (k := 0) (as := [(0, p8_2), (0, x1), (0, 0)]) (r := [(2, 162)]) (ls0 := [(0, 0), (0, x1), (0, p8_2)]) gz_239_23 gm_150 rfl rfl rfl rfl rfl rfl ?_
        refine w_bipush gz_150_0 (by decide) ?_
        refine w_iload_n gz_150_2 rfl ?_
        refine w_imul gz_150_3 ⟨by omega, by omega⟩ ?_
        refine w_bipush gz_150_4 (by decide) ?_
        refine w_iload_n gz_150_6 rfl ?_
        refine w_imul gz_150_7 ⟨by omega, by omega⟩ ?_
        refine w_iadd gz_150_8 ⟨by omega, by omega⟩ ?_
        refine w_iload_n gz_150_9 rfl ?_
        refine w_iadd gz_150_10 ⟨by omega, by omega⟩ ?_
        refine w_iret gz_150_11 gm_150 ?_
        show wp l rho (d + 2) 239 26 [(2, 151), (0, x1), (0, x2), (0, p8_0), (0, p8_1), (0, p8_2), (9, 0), (9, 0), (9, 0), (9, 0), (9, 0)] [(0, (((60 * 0) + (20 * x1)) + p8_2)), (2, 162)] h8_0 Q
        refine w_bald gz_239_26 is_162 rd_61 (by omega) (by omega) (fun v29 ev29 pv29 qv29 => ?_)
        have t162 : ∀ j : Int, h8_0 162 j = h 162 j := fun j => my_fr.at gh_8_0 is_162 rfl
        have r1 : v29 = h 162 (60 * 0 + 20 * x1 + p8_2) := by rw [← t162]; omega
        refine w_ifeq (t := 54) gz_239_27 rfl (fun u30 => ?_) (fun u30 => ?_)
        ·
          refine w_iinc (ls' := [(2, 151), (0, x1), (0, x2), (0, p8_0), (0, p8_1), (0, (p8_2 + 1)), (9, 0), (9, 0), (9, 0), (9, 0), (9, 0)]) gz_239_54 rfl gm_239 rfl rfl rfl ⟨by omega, by omega⟩ ?_
          refine w_goto (t := 8) gz_239_57 rfl ?_
          exact ih_8_0 (p8_0) (p8_1) ((p8_2 + 1)) h8_0 (gh_8_0) (by omega) (by omega) (by omega) (by omega) (by omega) (by omega) (by omega) (by omega) (by omega) (c151_27_8_0.trans (by omega)) n_Rws_8_0 (by omega) (by first | (rw [rc_at (by omega)]; omega) | rfl | omega) (by omega)
        ·
          have nine := rc_nine kT n_Rws (s := 0) (w := x1) (k := p8_2) (by omega) (by omega) (by omega) (by omega) (by omega) (by omega) (by omega)
          refine w_iload_n gz_239_30 rfl ?_
          refine w_iload gz_239_31 rfl ?_
          refine w_ianyR gz_239_33 (fun v31 pv31 qv31 => ?_)
          refine w_iconst gz_239_34 (by decide) ?_
          refine w_iandM gz_239_35 (by decide) (fun v32 pv32 qv32 => ?_)
          refine w_iconst gz_239_36 (by decide) ?_
          refine w_icne (t := 51) gz_239_37 rfl (fun u33 => ?_) (fun u33 => ?_)
          ·
            refine w_iinc (ls' := [(2, 151), (0, x1), (0, x2), (0, p8_0), (0, (p8_1 + 1)), (0, p8_2), (9, 0), (9, 0), (9, 0), (9, 0), (9, 0)]) gz_239_51 rfl gm_239 rfl rfl rfl ⟨by omega, by omega⟩ ?_
            refine w_iinc (ls' := [(2, 151), (0, x1), (0, x2), (0, p8_0), (0, (p8_1 + 1)), (0, (p8_2 + 1)), (9, 0), (9, 0), (9, 0), (9, 0), (9, 0)]) gz_239_54 rfl gm_239 rfl rfl rfl ⟨by omega, by omega⟩ ?_
            refine w_goto (t := 8) gz_239_57 rfl ?_
            exact ih_8_0 (p8_0) ((p8_1 + 1)) ((p8_2 + 1)) h8_0 (gh_8_0) (by omega) (by omega) (by omega) (by omega) (by omega) (by omega) (by omega) (by omega) (by omega) (c151_27_8_0.trans (by omega)) n_Rws_8_0 (by omega) (by first | (rw [rc_at (by omega)]; omega) | rfl | omega) (by omega)
          ·
            refine w_aload_n gz_239_40 rfl ?_
            refine w_getX (v := 197) gz_239_41 is_151 rd_10 rfl (by decide) rfl ?_
            refine w_iload_n gz_239_44 rfl ?_
            refine w_iload gz_239_45 rfl ?_
            have hi35 : 0 ≤ p8_0 := by omega
            have hi36 : p8_0 ≤ 9 := by omega
            refine w_iast gz_239_47 is_197 rd_96 (by omega) (by omega) (by omega) (by omega) (fun h37 fh37 => ?_)
            have gh37 : my_fr [(96, -1)] h h37 := my_fr.up gh_8_0 is_197 fh37 rfl
            have Rws_h37 : Rws h37 := Rws_ag (my_ag.up fh37 is_197 rfl) n_Rws_8_0
            refine w_iinc (ls' := [(2, 151), (0, x1), (0, x2), (0, (p8_0 + 1)), (0, p8_1), (0, p8_2), (9, 0), (9, 0), (9, 0), (9, 0), (9, 0)]) gz_239_48 rfl gm_239 rfl rfl rfl ⟨by omega, by omega⟩ ?_
            refine w_iinc (ls' := [(2, 151), (0, x1), (0, x2), (0, (p8_0 + 1)), (0, (p8_1 + 1)), (0, p8_2), (9, 0), (9, 0), (9, 0), (9, 0), (9, 0)]) gz_239_51 rfl gm_239 rfl rfl rfl ⟨by omega, by omega⟩ ?_
            refine w_iinc (ls' := [(2, 151), (0, x1), (0, x2), (0, (p8_0 + 1)), (0, (p8_1 + 1)), (0, (p8_2 + 1)), (9, 0), (9, 0), (9, 0), (9, 0), (9, 0)]) gz_239_54 rfl gm_239 rfl rfl rfl ⟨by omega, by omega⟩ ?_
            refine w_goto (t := 8) gz_239_57 rfl ?_
            exact ih_8_0 ((p8_0 + 1)) ((p8_1 + 1)) ((p8_2 + 1)) h37 (gh37) (by omega) (by omega) (by omega) (by omega) (by omega) (by omega) (by omega) (by omega) (by omega) (((my_up_role fh37 is_151 is_197 rfl).trans c151_27_8_0).trans (by omega)) Rws_h37 (by omega) (by first | (rw [rc_at (by omega)]; omega) | rfl | omega) (by omega)
  refine w_iconst gz_239_0 (by decide) ?_
  refine w_istore_n (ls' := [(2, 151), (0, x1), (0, x2), (0, 0), (9, 0), (9, 0), (9, 0), (9, 0), (9, 0), (9, 0), (9, 0)]) gz_239_1 gm_239 rfl rfl rfl ?_
  refine w_iconst gz_239_2 (by decide) ?_
  refine w_istore (ls' := [(2, 151), (0, x1), (0, x2), (0, 0), (0, 0), (9, 0), (9, 0), (9, 0), (9, 0), (9, 0), (9, 0)]) gz_239_3 gm_239 rfl rfl rfl ?_
  refine w_iconst gz_239_5 (by decide) ?_
  refine w_istore (ls' := [(2, 151), (0, x1), (0, x2), (0, 0), (0, 0), (0, 0), (9, 0), (9, 0), (9, 0), (9, 0), (9, 0)]) gz_239_6 gm_239 rfl rfl rfl ?_
  exact J8_0 21 (0) (0) (0) h (my_fr.rf) (by omega) (by omega) (by omega) (by omega) (by omega) (by omega) (by omega) (by omega) (by omega) (ek151_27.symm.trans (by omega)) n_Rws (by omega) (by first | (rw [rc_at (by omega)]; omega) | rfl | omega) (by omega)
theorem c_Model_shownBy2 {l : Launch} {rho : Nat → Int32} {d : Nat} {h : my_H} {Q : my_H → my_V → Prop} {x1 x2 x3 x4 : Int} (a1 : 0 ≤ x1) (b1 : x1 ≤ 2) (a2 : 0 ≤ x2) (b2 : x2 ≤ 3) (a3 : 0 ≤ x3) (b3 : x3 ≤ 2) (a4 : 0 ≤ x4) (b4 : x4 ≤ 199) (n_Rws : Rws h) (k0 : ∀ (y : Int), 0 ≤ y → y ≤ 1023 → Q h (0, y)) : wp l rho (d + 2) 240 0 [(2, 151), (0, x1), (0, x2), (0, x3), (0, x4), (9, 0), (9, 0), (9, 0), (9, 0)] [] h Q := by
  refine v_knowA (x := 162) is_162 rd_61 (fun kT => ?_)
  have J9_0 : ∀ (n : Nat) (p9_0 p9_1 p9_2 : Int), 0 ≤ p9_1 → p9_1 ≤ 20 → 0 ≤ p9_2 → p9_2 ≤ 20 → p9_1 ≤ p9_2 → Rws h → p9_1 = rc h (60 * 0 + 20 * x1) p9_2.toNat → 0 ≤ p9_0 ∧ p9_0 < bsl 1 p9_1 → 0 ≤ p9_1 ∧ p9_1 ≤ 10 → 21 - p9_2 ≤ (n : Int) → wp l rho (d + 2) 240 9 [(2, 151), (0, x1), (0, x2), (0, x3), (0, x4), (0, p9_0), (0, p9_1), (0, p9_2), (9, 0)] [] h Q := by
    intro n
    induction n with
    | zero => intro p9_0 p9_1 p9_2 q0_9_0 q1_9_0 q2_9_0 q3_9_0 q4_9_0 n_Rws_9_0 ri_9_0 sm_9_0 l9_9_0 hm_9_0; exfalso; omega
    | succ n ih_9_0 =>
      intro p9_0 p9_1 p9_2 q0_9_0 q1_9_0 q2_9_0 q3_9_0 q4_9_0 n_Rws_9_0 ri_9_0 sm_9_0 l9_9_0 hm_9_0
      refine w_iload gz_240_9 rfl ?_
      refine w_bipush gz_240_11 (by decide) ?_
      refine w_icge (t := 100) gz_240_13 rfl (fun u1 => ?_) (fun u1 => ?_)
      ·
        refine w_iload gz_240_100 rfl ?_
        exact w_iret gz_240_102 gm_240 (k0 (p9_0) (by have bb := bsl_bd (i := p9_1) (by omega) (by omega); omega) (by have bb := bsl_bd (i := p9_1) (by omega) (by omega); omega))
      ·
        refine w_aload_n gz_240_16 rfl ?_
        refine w_getX (v := 162) gz_240_17 is_151 rd_10 rfl (by decide) rfl ?_
        refine w_iconst gz_240_20 (by decide) ?_
        refine w_iload_n gz_240_21 rfl ?_
        refine w_iload gz_240_22 rfl ?_
        refine w_inS (k := 0) (as := [(0, p9_2), (0, x1), (0, 0)]) (r := [(2, 162)]) (ls0 := [(0, 0), (0, x1), (0, p9_2)]) gz_240_24 gm_150 rfl rfl rfl rfl rfl rfl ?_
        refine w_bipush gz_150_0 (by decide) ?_
        refine w_iload_n gz_150_2 rfl ?_
        refine w_imul gz_150_3 ⟨by omega, by omega⟩ ?_
        refine w_bipush gz_150_4 (by decide) ?_
        refine w_iload_n gz_150_6 rfl ?_
        refine w_imul gz_150_7 ⟨by omega, by omega⟩ ?_
        refine w_iadd gz_150_8 ⟨by omega, by omega⟩ ?_
        refine w_iload_n gz_150_9 rfl ?_
        refine w_iadd gz_150_10 ⟨by omega, by omega⟩ ?_
        refine w_iret gz_150_11 gm_150 ?_
        show wp l rho (d + 2) 240 27 [(2, 151), (0, x1), (0, x2), (0, x3), (0, x4), (0, p9_0), (0, p9_1), (0, p9_2), (9, 0)] [(0, (((60 * 0) + (20 * x1)) + p9_2)), (2, 162)] h Q
        refine w_bald gz_240_27 is_162 rd_61 (by omega) (by omega) (fun v3 ev3 pv3 qv3 => ?_)
        have r1 : v3 = h 162 (60 * 0 + 20 * x1 + p9_2) := by omega
        refine w_ifeq (t := 94) gz_240_28 rfl (fun u4 => ?_) (fun u4 => ?_)
        ·
          refine w_iinc (ls' := [(2, 151), (0, x1), (0, x2), (0, x3), (0, x4), (0, p9_0), (0, p9_1), (0, (p9_2 + 1)), (9, 0)]) gz_240_94 rfl gm_240 rfl rfl rfl ⟨by omega, by omega⟩ ?_
          refine w_goto (t := 9) gz_240_97 rfl ?_
          exact ih_9_0 (p9_0) (p9_1) ((p9_2 + 1)) (by omega) (by omega) (by omega) (by omega) (by omega) n_Rws_9_0 (by first | (rw [rc_at (by omega)]; omega) | rfl | omega) (by first | (rw [bsl_0]; omega) | omega) (by omega) (by omega)
        ·
          have nine := rc_nine kT n_Rws (s := 0) (w := x1) (k := p9_2) (by omega) (by omega) (by omega) (by omega) (by omega) (by omega) (by omega)
          refine w_aload_n gz_240_31 rfl ?_
          refine w_iconst gz_240_32 (by decide) ?_
          refine w_iload_n gz_240_33 rfl ?_
          refine w_iload gz_240_34 rfl ?_
          refine w_iload_n gz_240_36 rfl ?_
          refine w_inv (k := 0) (as := [(0, x2), (0, p9_2), (0, x1), (0, 0)]) (r := []) (x := 151) (ls0 := [(2, 151), (0, 0), (0, x1), (0, p9_2), (0, x2)]) gz_240_37 gm_157 rfl is_151 rd_10 rfl rfl rfl rfl rfl ?_
          refine w_aload_n gz_157_0 rfl ?_
          refine w_getX (v := 163) gz_157_1 is_151 rd_10 rfl (by decide) rfl ?_
          refine w_iconst gz_157_4 (by decide) ?_
          refine w_iload_n gz_157_5 rfl ?_
          refine w_iload_n gz_157_6 rfl ?_
          refine w_iload_n gz_157_7 rfl ?_
          refine w_inS (k := 0) (as := [(0, p9_2), (0, x1), (0, 0)]) (r := [(0, 4), (2, 163)]) (ls0 := [(0, 0), (0, x1), (0, p9_2)]) gz_157_8 gm_150 rfl rfl rfl rfl rfl rfl ?_
          refine w_bipush gz_150_0 (by decide) ?_
          refine w_iload_n gz_150_2 rfl ?_
          refine w_imul gz_150_3 ⟨by omega, by omega⟩ ?_
          refine w_bipush gz_150_4 (by decide) ?_
          refine w_iload_n gz_150_6 rfl ?_
          refine w_imul gz_150_7 ⟨by omega, by omega⟩ ?_
          refine w_iadd gz_150_8 ⟨by omega, by omega⟩ ?_
          refine w_iload_n gz_150_9 rfl ?_
          refine w_iadd gz_150_10 ⟨by omega, by omega⟩ ?_
          refine w_iret gz_150_11 gm_150 ?_
          show wp l rho (d + 1) 157 11 [(2, 151), (0, 0), (0, x1), (0, p9_2), (0, x2)] [(0, (((60 * 0) + (20 * x1)) + p9_2)), (0, 4), (2, 163)] h _
          refine w_imul gz_157_11 ⟨by omega, by omega⟩ ?_
          refine w_iload gz_157_12 rfl ?_
          refine w_iadd gz_157_14 ⟨by omega, by omega⟩ ?_
          refine w_iald gz_157_15 is_163 rd_62 (by omega) (by omega) (fun v6 ev6 pv6 qv6 => ?_)
          refine w_iret gz_157_16 gm_157 ?_
          show wp l rho (d + 2) 240 40 [(2, 151), (0, x1), (0, x2), (0, x3), (0, x4), (0, p9_0), (0, p9_1), (0, p9_2), (9, 0)] [(0, v6)] h Q
          refine w_istore (ls' := [(2, 151), (0, x1), (0, x2), (0, x3), (0, x4), (0, p9_0), (0, p9_1), (0, p9_2), (0, v6)]) gz_240_40 gm_240 rfl rfl rfl ?_
          refine w_iload gz_240_42 rfl ?_
          refine w_iload_n gz_240_44 rfl ?_
          refine w_ifne (t := 58) gz_240_45 rfl (fun u7 => ?_) (fun u7 => ?_)
          ·
            refine w_iload_n gz_240_58 rfl ?_
            refine w_iconst gz_240_59 (by decide) ?_
            refine w_icne (t := 73) gz_240_60 rfl (fun u8 => ?_) (fun u8 => ?_)
            ·
              refine w_iload gz_240_73 rfl ?_
              refine w_iload gz_240_75 rfl ?_
              refine w_icle (t := 87) gz_240_77 rfl (fun u9 => ?_) (fun u9 => ?_)
              ·
                refine w_iconst gz_240_87 (by decide) ?_
                refine w_iorX gz_240_88 (fun v10 ev10 pv10 qv10 => ?_)
                have bb := bsl_bd (i := p9_1) (by omega) (by omega)
                have bd := bor_bd (i := p9_1) (m := p9_0) (by omega) (by omega) sm_9_0.1 sm_9_0.2
                have b8 : 0 ≤ v10 ∧ v10 < bsl 1 (p9_1 + 1) := by first | (have z : v10 = bor p9_0 (bsl 1 p9_1) := (by subst_vars; rfl); rw [z]; omega) | (have z : v10 = bor p9_0 0 := (by subst_vars; rfl); rw [z, bor_z (by omega) (by omega)]; omega) | omega
                refine w_istore (ls' := [(2, 151), (0, x1), (0, x2), (0, x3), (0, x4), (0, v10), (0, p9_1), (0, p9_2), (0, v6)]) gz_240_89 gm_240 rfl rfl rfl ?_
                refine w_iinc (ls' := [(2, 151), (0, x1), (0, x2), (0, x3), (0, x4), (0, v10), (0, (p9_1 + 1)), (0, p9_2), (0, v6)]) gz_240_91 rfl gm_240 rfl rfl rfl ⟨by omega, by omega⟩ ?_
                refine w_iinc (ls' := [(2, 151), (0, x1), (0, x2), (0, x3), (0, x4), (0, v10), (0, (p9_1 + 1)), (0, (p9_2 + 1)), (0, v6)]) gz_240_94 rfl gm_240 rfl rfl rfl ⟨by omega, by omega⟩ ?_
                refine w_goto (t := 9) gz_240_97 rfl ?_
                refine w_weak (ls' := [(2, 151), (0, x1), (0, x2), (0, x3), (0, x4), (0, v10), (0, (p9_1 + 1)), (0, (p9_2 + 1)), (9, 0)]) (wk_e (wk_e (wk_e (wk_e (wk_e (wk_e (wk_e (wk_e (wk_9 wk_n))))))))) ?_
                exact ih_9_0 (v10) ((p9_1 + 1)) ((p9_2 + 1)) (by omega) (by omega) (by omega) (by omega) (by omega) n_Rws_9_0 (by first | (rw [rc_at (by omega)]; omega) | rfl | omega) (by first | (rw [bsl_0]; omega) | omega) (by omega) (by omega)
              ·
                refine w_iconst gz_240_80 (by decide) ?_
                refine w_iload gz_240_81 rfl ?_
                refine w_ishlX gz_240_83 (fun v11 ev11 pv11 qv11 => ?_)
                refine w_goto (t := 88) gz_240_84 rfl ?_
                refine w_iorX gz_240_88 (fun v12 ev12 pv12 qv12 => ?_)
                have bb := bsl_bd (i := p9_1) (by omega) (by omega)
                have bd := bor_bd (i := p9_1) (m := p9_0) (by omega) (by omega) sm_9_0.1 sm_9_0.2
                have b8 : 0 ≤ v12 ∧ v12 < bsl 1 (p9_1 + 1) := by first | (have z : v12 = bor p9_0 (bsl 1 p9_1) := (by subst_vars; rfl); rw [z]; omega) | (have z : v12 = bor p9_0 0 := (by subst_vars; rfl); rw [z, bor_z (by omega) (by omega)]; omega) | omega
                refine w_istore (ls' := [(2, 151), (0, x1), (0, x2), (0, x3), (0, x4), (0, v12), (0, p9_1), (0, p9_2), (0, v6)]) gz_240_89 gm_240 rfl rfl rfl ?_
                refine w_iinc (ls' := [(2, 151), (0, x1), (0, x2), (0, x3), (0, x4), (0, v12), (0, (p9_1 + 1)), (0, p9_2), (0, v6)]) gz_240_91 rfl gm_240 rfl rfl rfl ⟨by omega, by omega⟩ ?_
                refine w_iinc (ls' := [(2, 151), (0, x1), (0, x2), (0, x3), (0, x4), (0, v12), (0, (p9_1 + 1)), (0, (p9_2 + 1)), (0, v6)]) gz_240_94 rfl gm_240 rfl rfl rfl ⟨by omega, by omega⟩ ?_
                refine w_goto (t := 9) gz_240_97 rfl ?_
                refine w_weak (ls' := [(2, 151), (0, x1), (0, x2), (0, x3), (0, x4), (0, v12), (0, (p9_1 + 1)), (0, (p9_2 + 1)), (9, 0)]) (wk_e (wk_e (wk_e (wk_e (wk_e (wk_e (wk_e (wk_e (wk_9 wk_n))))))))) ?_
                exact ih_9_0 (v12) ((p9_1 + 1)) ((p9_2 + 1)) (by omega) (by omega) (by omega) (by omega) (by omega) n_Rws_9_0 (by first | (rw [rc_at (by omega)]; omega) | rfl | omega) (by first | (rw [bsl_0]; omega) | omega) (by omega) (by omega)
            ·
              refine w_iload gz_240_63 rfl ?_
              refine w_iload gz_240_65 rfl ?_
              refine w_icne (t := 87) gz_240_67 rfl (fun u13 => ?_) (fun u13 => ?_)
              ·
                refine w_iconst gz_240_87 (by decide) ?_
                refine w_iorX gz_240_88 (fun v14 ev14 pv14 qv14 => ?_)
                have bb := bsl_bd (i := p9_1) (by omega) (by omega)
                have bd := bor_bd (i := p9_1) (m := p9_0) (by omega) (by omega) sm_9_0.1 sm_9_0.2
                have b8 : 0 ≤ v14 ∧ v14 < bsl 1 (p9_1 + 1) := by first | (have z : v14 = bor p9_0 (bsl 1 p9_1) := (by subst_vars; rfl); rw [z]; omega) | (have z : v14 = bor p9_0 0 := (by subst_vars; rfl); rw [z, bor_z (by omega) (by omega)]; omega) | omega
                refine w_istore (ls' := [(2, 151), (0, x1), (0, x2), (0, x3), (0, x4), (0, v14), (0, p9_1), (0, p9_2), (0, v6)]) gz_240_89 gm_240 rfl rfl rfl ?_
                refine w_iinc (ls' := [(2, 151), (0, x1), (0, x2), (0, x3), (0, x4), (0, v14), (0, (p9_1 + 1)), (0, p9_2), (0, v6)]) gz_240_91 rfl gm_240 rfl rfl rfl ⟨by omega, by omega⟩ ?_
                refine w_iinc (ls' := [(2, 151), (0, x1), (0, x2), (0, x3), (0, x4), (0, v14), (0, (p9_1 + 1)), (0, (p9_2 + 1)), (0, v6)]) gz_240_94 rfl gm_240 rfl rfl rfl ⟨by omega, by omega⟩ ?_
                refine w_goto (t := 9) gz_240_97 rfl ?_
                refine w_weak (ls' := [(2, 151), (0, x1), (0, x2), (0, x3), (0, x4), (0, v14), (0, (p9_1 + 1)), (0, (p9_2 + 1)), (9, 0)]) (wk_e (wk_e (wk_e (wk_e (wk_e (wk_e (wk_e (wk_e (wk_9 wk_n))))))))) ?_
                exact ih_9_0 (v14) ((p9_1 + 1)) ((p9_2 + 1)) (by omega) (by omega) (by omega) (by omega) (by omega) n_Rws_9_0 (by first | (rw [rc_at (by omega)]; omega) | rfl | omega) (by first | (rw [bsl_0]; omega) | omega) (by omega) (by omega)
              ·
                refine w_goto (t := 80) gz_240_70 rfl ?_
                refine w_iconst gz_240_80 (by decide) ?_
                refine w_iload gz_240_81 rfl ?_
                refine w_ishlX gz_240_83 (fun v15 ev15 pv15 qv15 => ?_)
                refine w_goto (t := 88) gz_240_84 rfl ?_
                refine w_iorX gz_240_88 (fun v16 ev16 pv16 qv16 => ?_)
                have bb := bsl_bd (i := p9_1) (by omega) (by omega)
                have bd := bor_bd (i := p9_1) (m := p9_0) (by omega) (by omega) sm_9_0.1 sm_9_0.2
                have b8 : 0 ≤ v16 ∧ v16 < bsl 1 (p9_1 + 1) := by first | (have z : v16 = bor p9_0 (bsl 1 p9_1) := (by subst_vars; rfl); rw [z]; omega) | (have z : v16 = bor p9_0 0 := (by subst_vars; rfl); rw [z, bor_z (by omega) (by omega)]; omega) | omega
                refine w_istore (ls' := [(2, 151), (0, x1), (0, x2), (0, x3), (0, x4), (0, v16), (0, p9_1), (0, p9_2), (0, v6)]) gz_240_89 gm_240 rfl rfl rfl ?_
                refine w_iinc (ls' := [(2, 151), (0, x1), (0, x2), (0, x3), (0, x4), (0, v16), (0, (p9_1 + 1)), (0, p9_2), (0, v6)]) gz_240_91 rfl gm_240 rfl rfl rfl ⟨by omega, by omega⟩ ?_
                refine w_iinc (ls' := [(2, 151), (0, x1), (0, x2), (0, x3), (0, x4), (0, v16), (0, (p9_1 + 1)), (0, (p9_2 + 1)), (0, v6)]) gz_240_94 rfl gm_240 rfl rfl rfl ⟨by omega, by omega⟩ ?_
                refine w_goto (t := 9) gz_240_97 rfl ?_
                refine w_weak (ls' := [(2, 151), (0, x1), (0, x2), (0, x3), (0, x4), (0, v16), (0, (p9_1 + 1)), (0, (p9_2 + 1)), (9, 0)]) (wk_e (wk_e (wk_e (wk_e (wk_e (wk_e (wk_e (wk_e (wk_9 wk_n))))))))) ?_
                exact ih_9_0 (v16) ((p9_1 + 1)) ((p9_2 + 1)) (by omega) (by omega) (by omega) (by omega) (by omega) n_Rws_9_0 (by first | (rw [rc_at (by omega)]; omega) | rfl | omega) (by first | (rw [bsl_0]; omega) | omega) (by omega) (by omega)
          ·
            refine w_iload gz_240_48 rfl ?_
            refine w_iload gz_240_50 rfl ?_
            refine w_icge (t := 87) gz_240_52 rfl (fun u17 => ?_) (fun u17 => ?_)
            ·
              refine w_iconst gz_240_87 (by decide) ?_
              refine w_iorX gz_240_88 (fun v18 ev18 pv18 qv18 => ?_)
              have bb := bsl_bd (i := p9_1) (by omega) (by omega)
              have bd := bor_bd (i := p9_1) (m := p9_0) (by omega) (by omega) sm_9_0.1 sm_9_0.2
              have b8 : 0 ≤ v18 ∧ v18 < bsl 1 (p9_1 + 1) := by first | (have z : v18 = bor p9_0 (bsl 1 p9_1) := (by subst_vars; rfl); rw [z]; omega) | (have z : v18 = bor p9_0 0 := (by subst_vars; rfl); rw [z, bor_z (by omega) (by omega)]; omega) | omega
              refine w_istore (ls' := [(2, 151), (0, x1), (0, x2), (0, x3), (0, x4), (0, v18), (0, p9_1), (0, p9_2), (0, v6)]) gz_240_89 gm_240 rfl rfl rfl ?_
              refine w_iinc (ls' := [(2, 151), (0, x1), (0, x2), (0, x3), (0, x4), (0, v18), (0, (p9_1 + 1)), (0, p9_2), (0, v6)]) gz_240_91 rfl gm_240 rfl rfl rfl ⟨by omega, by omega⟩ ?_
              refine w_iinc (ls' := [(2, 151), (0, x1), (0, x2), (0, x3), (0, x4), (0, v18), (0, (p9_1 + 1)), (0, (p9_2 + 1)), (0, v6)]) gz_240_94 rfl gm_240 rfl rfl rfl ⟨by omega, by omega⟩ ?_
              refine w_goto (t := 9) gz_240_97 rfl ?_
              refine w_weak (ls' := [(2, 151), (0, x1), (0, x2), (0, x3), (0, x4), (0, v18), (0, (p9_1 + 1)), (0, (p9_2 + 1)), (9, 0)]) (wk_e (wk_e (wk_e (wk_e (wk_e (wk_e (wk_e (wk_e (wk_9 wk_n))))))))) ?_
              exact ih_9_0 (v18) ((p9_1 + 1)) ((p9_2 + 1)) (by omega) (by omega) (by omega) (by omega) (by omega) n_Rws_9_0 (by first | (rw [rc_at (by omega)]; omega) | rfl | omega) (by first | (rw [bsl_0]; omega) | omega) (by omega) (by omega)
            ·
              refine w_goto (t := 80) gz_240_55 rfl ?_
              refine w_iconst gz_240_80 (by decide) ?_
              refine w_iload gz_240_81 rfl ?_
              refine w_ishlX gz_240_83 (fun v19 ev19 pv19 qv19 => ?_)
              refine w_goto (t := 88) gz_240_84 rfl ?_
              refine w_iorX gz_240_88 (fun v20 ev20 pv20 qv20 => ?_)
              have bb := bsl_bd (i := p9_1) (by omega) (by omega)
              have bd := bor_bd (i := p9_1) (m := p9_0) (by omega) (by omega) sm_9_0.1 sm_9_0.2
              have b8 : 0 ≤ v20 ∧ v20 < bsl 1 (p9_1 + 1) := by first | (have z : v20 = bor p9_0 (bsl 1 p9_1) := (by subst_vars; rfl); rw [z]; omega) | (have z : v20 = bor p9_0 0 := (by subst_vars; rfl); rw [z, bor_z (by omega) (by omega)]; omega) | omega
              refine w_istore (ls' := [(2, 151), (0, x1), (0, x2), (0, x3), (0, x4), (0, v20), (0, p9_1), (0, p9_2), (0, v6)]) gz_240_89 gm_240 rfl rfl rfl ?_
              refine w_iinc (ls' := [(2, 151), (0, x1), (0, x2), (0, x3), (0, x4), (0, v20), (0, (p9_1 + 1)), (0, p9_2), (0, v6)]) gz_240_91 rfl gm_240 rfl rfl rfl ⟨by omega, by omega⟩ ?_
              refine w_iinc (ls' := [(2, 151), (0, x1), (0, x2), (0, x3), (0, x4), (0, v20), (0, (p9_1 + 1)), (0, (p9_2 + 1)), (0, v6)]) gz_240_94 rfl gm_240 rfl rfl rfl ⟨by omega, by omega⟩ ?_
              refine w_goto (t := 9) gz_240_97 rfl ?_
              refine w_weak (ls' := [(2, 151), (0, x1), (0, x2), (0, x3), (0, x4), (0, v20), (0, (p9_1 + 1)), (0, (p9_2 + 1)), (9, 0)]) (wk_e (wk_e (wk_e (wk_e (wk_e (wk_e (wk_e (wk_e (wk_9 wk_n))))))))) ?_
              exact ih_9_0 (v20) ((p9_1 + 1)) ((p9_2 + 1)) (by omega) (by omega) (by omega) (by omega) (by omega) n_Rws_9_0 (by first | (rw [rc_at (by omega)]; omega) | rfl | omega) (by first | (rw [bsl_0]; omega) | omega) (by omega) (by omega)
  refine w_iconst gz_240_0 (by decide) ?_
  refine w_istore (ls' := [(2, 151), (0, x1), (0, x2), (0, x3), (0, x4), (0, 0), (9, 0), (9, 0), (9, 0)]) gz_240_1 gm_240 rfl rfl rfl ?_
  refine w_iconst gz_240_3 (by decide) ?_
  refine w_istore (ls' := [(2, 151), (0, x1), (0, x2), (0, x3), (0, x4), (0, 0), (0, 0), (9, 0), (9, 0)]) gz_240_4 gm_240 rfl rfl rfl ?_
  refine w_iconst gz_240_6 (by decide) ?_
  refine w_istore (ls' := [(2, 151), (0, x1), (0, x2), (0, x3), (0, x4), (0, 0), (0, 0), (0, 0), (9, 0)]) gz_240_7 gm_240 rfl rfl rfl ?_
  exact J9_0 21 (0) (0) (0) (by omega) (by omega) (by omega) (by omega) (by omega) n_Rws (by first | (rw [rc_at (by omega)]; omega) | rfl | omega) (by first | (rw [bsl_0]; omega) | omega) (by omega) (by omega)
theorem c_Model_shows {l : Launch} {rho : Nat → Int32} {d : Nat} {h : my_H} {Q : my_H → my_V → Prop} {x1 x2 : Int} (a1 : 0 ≤ x1) (b1 : x1 ≤ 15) (a2 : 0 ≤ x2) (b2 : x2 ≤ 5) (n_Mw : Mw h) (n_Mw3 : Mw3 h) (n_Rws : Rws h) (hfp : Fp h x2) (k0 : ∀ (h' : my_H), my_fr [(10, 27), (10, 32), (10, 33), (10, 37), (73, -1), (74, -1), (75, -1), (76, -1), (77, -1), (78, -1), (79, -1), (80, -1), (81, -1), (82, -1), (83, -1), (84, -1), (85, -1), (86, -1)] h h' → FwW h' (h' 151 27) → Q h' (9, 0)) : wp l rho (d + 3) 194 0 [(2, 151), (0, x1), (0, x2), (9, 0), (9, 0), (9, 0), (9, 0), (9, 0)] [] h Q := by
  have nM3 := n_Mw3
  obtain ⟨W, hM3⟩ := nM3
  have hW := hM3.1
  have tx := hfp.1 (by omega)
  refine v_all is_171 rd_70 (fun k171 => ?_)
  have J16_0 : ∀ (n : Nat) (p16_0 : Int) (h16_0 : my_H), my_fr [(10, 27), (10, 32), (10, 33), (10, 37), (73, -1), (74, -1), (75, -1), (76, -1), (77, -1), (78, -1), (79, -1), (80, -1), (81, -1), (82, -1), (83, -1), (84, -1), (85, -1), (86, -1)] h h16_0 → 0 ≤ p16_0 → p16_0 ≤ 6 → Mw h16_0 → Mw3 h16_0 → Rws h16_0 → Fc h h16_0 (h16_0 151 32) (-1) x2 → 1 ≤ h16_0 151 32 → p16_0 ≤ h16_0 151 32 → (p16_0 < h16_0 151 32 → h16_0 151 27 = mst h W (h16_0 177 p16_0)) → Shn h16_0 0 (h16_0 151 37) (h16_0 151 27) (vb (h16_0 151 37)) → FwW h16_0 (h16_0 151 27) → 7 - p16_0 ≤ (n : Int) → wp l rho (d + 3) 194 16 [(2, 151), (0, x1), (0, x2), (0, p16_0), (9, 0), (9, 0), (9, 0), (9, 0)] [] h16_0 Q := by
    intro n
    induction n with
    | zero => intro p16_0 h16_0 gh_16_0 q0_16_0 q1_16_0 n_Mw_16_0 n_Mw3_16_0 n_Rws_16_0 fc_16_0 c1_16_0 lk_16_0 wk_16_0 sh_16_0 fw_16_0 hm_16_0; exfalso; omega
    | succ n ih_16_0 =>
      intro p16_0 h16_0 gh_16_0 q0_16_0 q1_16_0 n_Mw_16_0 n_Mw3_16_0 n_Rws_16_0 fc_16_0 c1_16_0 lk_16_0 wk_16_0 sh_16_0 fw_16_0 hm_16_0
      have J27_0 : ∀ (n : Nat) (p27_0 p27_1 : Int) (h27_0 : my_H), my_fr [(10, 27), (10, 32), (10, 33), (10, 37), (73, -1), (74, -1), (75, -1), (76, -1), (77, -1), (78, -1), (79, -1), (80, -1), (81, -1), (82, -1), (83, -1), (84, -1), (85, -1), (86, -1)] h h27_0 → p16_0 ≤ 5 → 0 ≤ p27_0 → p27_0 ≤ 6 → 1 ≤ p27_1 → p27_1 ≤ 6 → p16_0 ≤ (p27_1 - 1) → h27_0 151 32 = p27_1 → Mw h27_0 → Mw3 h27_0 → Rws h27_0 → Fc h h27_0 (h27_0 151 32) (-1) x2 → 1 ≤ h27_0 151 32 → p16_0 < h27_0 151 32 → h27_0 151 27 = mwf h (h27_0 177 p16_0) (mst h W (h27_0 177 p16_0)) p27_0.toNat → p27_0 ≤ h 167 (h27_0 177 p16_0) → Shn h27_0 0 (h27_0 151 37) (h27_0 151 27) (vb (h27_0 151 37)) → FwW h27_0 (h27_0 151 27) → 7 - p27_0 ≤ (n : Int) → wp l rho (d + 3) 194 27 [(2, 151), (0, x1), (0, x2), (0, p16_0), (0, p27_0), (9, 0), (9, 0), (9, 0)] [] h27_0 Q := by
        intro n
        induction n with
        | zero => intro p27_0 p27_1 h27_0 gh_27_0 q0_27_0 q1_27_0 q2_27_0 q3_27_0 q4_27_0 q5_27_0 c151_32_27_0 n_Mw_27_0 n_Mw3_27_0 n_Rws_27_0 fc_27_0 c1_27_0 lk_27_0 wp_27_0 lp_27_0 sh_27_0 fw_27_0 hm_27_0; exfalso; omega
        | succ n ih_27_0 =>
          intro p27_0 p27_1 h27_0 gh_27_0 q0_27_0 q1_27_0 q2_27_0 q3_27_0 q4_27_0 q5_27_0 c151_32_27_0 n_Mw_27_0 n_Mw3_27_0 n_Rws_27_0 fc_27_0 c1_27_0 lk_27_0 wp_27_0 lp_27_0 sh_27_0 fw_27_0 hm_27_0
          refine v_know (x := 151) (j := 37) (b := 37) rfl is_151 rd_10 rfl (fun k37 ek37 pk37 qk37 => ?_)
          have qr := fc_27_0.2.2.2.2.2 p16_0 (by omega) lk_27_0
          have f167 : ∀ j : Int, h27_0 167 j = h 167 j := fun j => my_fr.at gh_27_0 is_167 rfl
          have J63_0 : ∀ (n : Nat) (p63_0 p63_1 p63_2 : Int) (h63_0 : my_H), my_fr [(10, 27), (10, 32), (10, 33), (10, 37), (73, -1), (74, -1), (75, -1), (76, -1), (77, -1), (78, -1), (79, -1), (80, -1), (81, -1), (82, -1), (83, -1), (84, -1), (85, -1), (86, -1)] h h63_0 → p27_0 ≤ 5 → 0 ≤ p63_0 → p63_0 ≤ 41 → 0 ≤ p63_1 → p63_1 ≤ 10 → 0 ≤ p63_2 → p63_2 ≤ 10 → p63_1 ≤ p63_2 → p16_0 ≤ (p27_1 - 1) → h63_0 151 32 = p27_1 → Mw h63_0 → Mw3 h63_0 → Rws h63_0 → Fc h h63_0 (h63_0 151 32) (-1) x2 → 1 ≤ h63_0 151 32 → p16_0 < h63_0 151 32 → h63_0 151 27 = mwf h (h63_0 177 p16_0) (mst h W (h63_0 177 p16_0)) p27_0.toNat → p27_0 < h 167 (h63_0 177 p16_0) → p63_0 = 6 * (h63_0 177 p16_0) + p27_0 → Shn h63_0 0 p63_1 (wl h p63_0 (h63_0 151 27)) (vb (h63_0 151 37)) → Shn h63_0 p63_2 (h63_0 151 37) (h63_0 151 27) (vb (h63_0 151 37)) → p63_1 ≤ p63_2 → p63_2 ≤ h63_0 151 37 → FwW h63_0 (h63_0 151 27) → 11 - p63_2 ≤ (n : Int) → wp l rho (d + 3) 194 63 [(2, 151), (0, x1), (0, x2), (0, p16_0), (0, p27_0), (0, p63_0), (0, p63_1), (0, p63_2)] [] h63_0 Q := by
            intro n
            induction n with
            | zero => intro p63_0 p63_1 p63_2 h63_0 gh_63_0 q0_63_0 q1_63_0 q2_63_0 q3_63_0 q4_63_0 q5_63_0 q6_63_0 q7_63_0 q8_63_0 c151_32_63_0 n_Mw_63_0 n_Mw3_63_0 n_Rws_63_0 fc_63_0 c1_63_0 lk_63_0 wp_63_0 lp_63_0 ep_63_0 sl_63_0 su_63_0 ll_63_0 lm_63_0 fw_63_0 hm_63_0; exfalso; omega
            | succ n ih_63_0 =>
              intro p63_0 p63_1 p63_2 h63_0 gh_63_0 q0_63_0 q1_63_0 q2_63_0 q3_63_0 q4_63_0 q5_63_0 q6_63_0 q7_63_0 q8_63_0 c151_32_63_0 n_Mw_63_0 n_Mw3_63_0 n_Rws_63_0 fc_63_0 c1_63_0 lk_63_0 wp_63_0 lp_63_0 ep_63_0 sl_63_0 su_63_0 ll_63_0 lm_63_0 fw_63_0 hm_63_0
              have qr := Fc_told (by omega) tx (by omega) fc_63_0 (by omega : 0 ≤ p16_0) lk_63_0
              have pn := Pane_at hM3 (by omega) tx (by omega) fc_63_0 (by omega : 0 ≤ p16_0) lk_63_0 (s := p27_0) (by omega) lp_63_0 (fun j => my_fr.at gh_63_0 is_157 rfl) (fun j => my_fr.at gh_63_0 is_168 rfl) (fun j => my_fr.at gh_63_0 is_169 rfl) (fun j => my_fr.at gh_63_0 is_170 rfl) (fun j => my_fr.at gh_63_0 is_171 rfl) (fun j => my_fr.at gh_63_0 is_172 rfl) wp_63_0 ep_63_0
              refine v_know (x := 151) (j := 27) (b := 27) rfl is_151 rd_10 rfl (fun k27 ek27 pk27 qk27 => ?_)
              refine v_know (x := 151) (j := 37) (b := 37) rfl is_151 rd_10 rfl (fun k37 ek37 pk37 qk37 => ?_)
              have w8 : wl h p63_0 (h63_0 151 27) ≤ 8 := wl_8 (by omega) pn.2.2.2.2.1 (k171 p63_0 (by omega) (by omega)).2
              have V19 := (vb_bd (m := h63_0 151 37) (by omega) (by omega)).1
              refine w_iload gz_194_63 rfl ?_
              refine w_aload_n gz_194_65 rfl ?_
              refine v_getI (j := 37) gz_194_66 rfl is_151 rd_10 rfl (fun v1 ev1 pv1 qv1 => ?_)
              refine w_icge (t := 101) gz_194_69 rfl (fun u2 => ?_) (fun u2 => ?_)
              ·
                refine w_aload_n gz_194_101 rfl ?_
                refine w_iload gz_194_102 rfl ?_
                refine v_putI (j := 37) gz_194_104 rfl is_151 rd_10 rfl (by omega) (by omega) rfl (fun h3 fh3 => ?_)
                have gh3 : my_fr [(10, 27), (10, 32), (10, 33), (10, 37), (73, -1), (74, -1), (75, -1), (76, -1), (77, -1), (78, -1), (79, -1), (80, -1), (81, -1), (82, -1), (83, -1), (84, -1), (85, -1), (86, -1)] h h3 := my_fr.up gh_63_0 is_151 fh3 rfl
                have Mw_h3 : Mw h3 := Mw_ag (my_ag.up fh3 is_151 rfl) n_Mw_63_0
                have Mw3_h3 : Mw3 h3 := Mw3_ag (my_ag.up fh3 is_151 rfl) n_Mw3_63_0
                have Rws_h3 : Rws h3 := Rws_ag (my_ag.up fh3 is_151 rfl) n_Rws_63_0
                refine w_aload_n gz_194_107 rfl ?_
                refine w_getX (v := 168) gz_194_108 is_151 rd_10 rfl (by decide) rfl ?_
                refine w_iload gz_194_111 rfl ?_
                refine w_iald gz_194_113 is_168 rd_67 (by omega) (by omega) (fun v5 ev5 pv5 qv5 => ?_)
                refine w_iconst gz_194_114 (by decide) ?_
                refine w_icne (t := 124) gz_194_115 rfl (fun u6 => ?_) (fun u6 => ?_)
                ·
                  refine w_aload_n gz_194_124 rfl ?_
                  refine w_iload gz_194_125 rfl ?_
                  refine v_know (x := 151) (j := 37) (b := 37) rfl is_151 rd_10 rfl (fun k37b ek37b pk37b qk37b => ?_)
                  have cb : ∀ j : Int, h3 177 j = h63_0 177 j := fun j => ((my_up_role fh3 is_177 is_151 rfl).trans (rfl : h63_0 177 j = h63_0 177 j))
                  have ce7 : h3 151 27 = h63_0 151 27 := ((my_up_fld fh3 (by decide)).trans (rfl : h63_0 151 27 = h63_0 151 27))
                  have ce8 : h3 151 32 = p27_1 := ((my_up_fld fh3 (by decide)).trans c151_32_63_0)
                  have ce9 : h3 151 33 = h63_0 151 33 := ((my_up_fld fh3 (by decide)).trans (rfl : h63_0 151 33 = h63_0 151 33))
                  have ce10 : h3 151 37 = p63_1 := (my_up_self fh3)
                  have e174 : ∀ j : Int, h3 174 j = h63_0 174 j := fun j => ((my_up_role fh3 is_174 is_151 rfl).trans (rfl : h63_0 174 j = h63_0 174 j))
                  have e175 : ∀ j : Int, h3 175 j = h63_0 175 j := fun j => ((my_up_role fh3 is_175 is_151 rfl).trans (rfl : h63_0 175 j = h63_0 175 j))
                  have fwx : FwW h3 (h3 151 27) := FwW_w (FwW_eq e174 e175 fw_63_0) (by omega)
                  have e168 : h3 168 p63_0 = h 168 p63_0 := my_fr.at gh3 is_168 rfl
                  have fcx : Fc h h3 (h63_0 151 32) (-1) x2 := Fc_cg cb (by omega) fc_63_0
                  have pn2 := Pane_at hM3 (by omega) tx (by omega) fcx (by omega : 0 ≤ p16_0) lk_63_0 (s := p27_0) (wd := h3 151 27) (q := p63_0) (by omega) (by rw [cb]; exact lp_63_0) (fun j => my_fr.at gh3 is_157 rfl) (fun j => my_fr.at gh3 is_168 rfl) (fun j => my_fr.at gh3 is_169 rfl) (fun j => my_fr.at gh3 is_170 rfl) (fun j => my_fr.at gh3 is_171 rfl) (fun j => my_fr.at gh3 is_172 rfl) (by rw [cb]; omega) (by rw [cb]; exact ep_63_0)
                  refine w_inv (k := 1) (as := [(0, p63_0)]) (r := []) (x := 151) (ls0 := [(2, 151), (0, p63_0), (9, 0)]) gz_194_127 gm_182 rfl is_151 rd_10 rfl rfl rfl rfl rfl (c_Model_pane2 (d := (d + 2)) (x1 := p63_0) (by omega) (by omega) (pn2.2.1) (fun h11 frh11 xp12 xp13 => ?_))
                  have gh11 : my_fr [(10, 27), (10, 32), (10, 33), (10, 37), (73, -1), (74, -1), (75, -1), (76, -1), (77, -1), (78, -1), (79, -1), (80, -1), (81, -1), (82, -1), (83, -1), (84, -1), (85, -1), (86, -1)] h h11 := my_fr.tr gh3 (frh11.mo rfl)
                  have Mw_h11 : Mw h11 := Mw_ag (my_ag.fr frh11 rfl) Mw_h3
                  have Mw3_h11 : Mw3 h11 := Mw3_ag (my_ag.fr frh11 rfl) Mw3_h3
                  have Rws_h11 : Rws h11 := Rws_ag (my_ag.fr frh11 rfl) Rws_h3
                  show wp l rho (d + 3) 194 130 [(2, 151), (0, x1), (0, x2), (0, p16_0), (0, p27_0), (0, p63_0), (0, p63_1), (0, p63_2)] [] h11 Q
                  have xw := xp12
                  have xf := xp13 ⟨fwx, pn2.1⟩
                  obtain ⟨wdx, ewdx⟩ : ∃ wdx : Int, wdx = h3 151 27 := ⟨_, rfl⟩
                  rw [← ewdx] at xw
                  refine w_iinc (ls' := [(2, 151), (0, x1), (0, x2), (0, p16_0), (0, (p27_0 + 1)), (0, p63_0), (0, p63_1), (0, p63_2)]) gz_194_130 rfl gm_194 rfl rfl rfl ⟨by omega, by omega⟩ ?_
                  refine w_goto (t := 27) gz_194_133 rfl ?_
                  have ca : ∀ j : Int, h11 177 j = h63_0 177 j := fun j => ((my_fr.at frh11 is_177 rfl).trans ((my_up_role fh3 is_177 is_151 rfl).trans (rfl : h63_0 177 j = h63_0 177 j)))
                  have ce14 : h11 151 32 = p27_1 := ((my_fr.at frh11 is_151 rfl).trans ((my_up_fld fh3 (by decide)).trans c151_32_63_0))
                  have ce15 : h11 151 33 = h63_0 151 33 := ((my_fr.at frh11 is_151 rfl).trans ((my_up_fld fh3 (by decide)).trans (rfl : h63_0 151 33 = h63_0 151 33)))
                  have ce16 : h11 151 37 = p63_1 := ((my_fr.at frh11 is_151 rfl).trans (my_up_self fh3))
                  have a182 : ∀ j : Int, h11 182 j = h63_0 182 j := fun j => ((my_fr.at frh11 is_182 rfl).trans ((my_up_role fh3 is_182 is_151 rfl).trans (rfl : h63_0 182 j = h63_0 182 j)))
                  have a174 : ∀ j : Int, h11 174 j = h11 174 j := fun j => rfl
                  have a175 : ∀ j : Int, h11 175 j = h11 175 j := fun j => rfl
                  refine w_weak (ls' := [(2, 151), (0, x1), (0, x2), (0, p16_0), (0, (p27_0 + 1)), (9, 0), (9, 0), (9, 0)]) (wk_e (wk_e (wk_e (wk_e (wk_e (wk_9 (wk_9 (wk_9 wk_n)))))))) ?_
                  exact ih_27_0 ((p27_0 + 1)) (p27_1) h11 (gh11) (by omega) (by omega) (by omega) (by omega) (by omega) (by omega) (((my_fr.at frh11 is_151 rfl).trans ((my_up_fld fh3 (by decide)).trans c151_32_63_0)).trans (by omega)) Mw_h11 Mw3_h11 Rws_h11 (by first | (rw [show h11 151 32 = h63_0 151 32 by omega]; exact Fc_cg ca (by omega) fc_63_0) | (rw [show h11 151 32 = h27_0 151 32 by omega]; exact Fc_cg ca (by omega) fc_27_0) | (rw [show h11 151 32 = h16_0 151 32 by omega]; exact Fc_cg ca (by omega) fc_16_0) | (rw [show h11 151 32 = h 151 32 by omega]; exact Fc_cg ca (by omega) fc0) | omega) (by omega) (by omega) (by first | exact wp_27_0 | exact wk_16_0 (by omega) | (rw [ca]; exact wk_16_0 (by omega)) | (rw [ca]; omega) | (rw [ca]; have z := pn2.2.2.1; rw [cb, ← ewdx] at z; omega) | omega) (by first | omega | (rw [ca]; omega) | omega) (by first | exact Shn_V xb (by omega) (by omega) (by omega) (by have z := (vb_bd (m := h11 151 37) (by omega) (by omega)).1; omega) | exact sh_16_0 | exact sh_27_0 | exact Shn_V (Shn_eq a182 xs) (by omega) (by omega) (by have z := pn2.2.2.2.2.2.2 (by omega); rw [← ewdx] at z; omega) (by rw [show h11 151 37 = xsm by omega]; exact Int.le_refl _) | exact Shn_V (Shn_eq a182 sl_63_0) (by omega) (by omega) (by have z := pn2.2.2.2.2.2.1 (by omega); rw [← ewdx, show wdx = h63_0 151 27 by omega] at z; rw [show wdx = h63_0 151 27 by omega] at xw; omega) (vb_mono (m := h63_0 151 37) (n := h11 151 37) (by omega) (by omega) (by omega)).1 | omega) (by first | exact FwW_w (FwW_eq a174 a175 x6f) (by omega) | exact xf | exact FwW_w (FwW_eq a174 a175 fw_63_0) (by omega) | exact FwW_w (FwW_eq a174 a175 fw_27_0) (by omega) | exact FwW_w (FwW_eq a174 a175 fw_16_0) (by omega) | omega) (by omega)
                ·
                  refine w_aload_n gz_194_118 rfl ?_
                  refine w_iload gz_194_119 rfl ?_
                  refine v_know (x := 151) (j := 37) (b := 37) rfl is_151 rd_10 rfl (fun k37c ek37c pk37c qk37c => ?_)
                  have d182 : ∀ j : Int, h3 182 j = h63_0 182 j := fun j => ((my_up_role fh3 is_182 is_151 rfl).trans (rfl : h63_0 182 j = h63_0 182 j))
                  have k5 : h3 168 p63_0 = 5 := by omega
                  have h5 : h 168 p63_0 = 5 := by have z : h3 168 p63_0 = h 168 p63_0 := my_fr.at gh3 is_168 rfl; omega
                  have cc5 : ∀ j : Int, h3 177 j = h63_0 177 j := fun j => ((my_up_role fh3 is_177 is_151 rfl).trans (rfl : h63_0 177 j = h63_0 177 j))
                  have ce17 : h3 151 27 = h63_0 151 27 := ((my_up_fld fh3 (by decide)).trans (rfl : h63_0 151 27 = h63_0 151 27))
                  have ce18 : h3 151 32 = p27_1 := ((my_up_fld fh3 (by decide)).trans c151_32_63_0)
                  have ce19 : h3 151 33 = h63_0 151 33 := ((my_up_fld fh3 (by decide)).trans (rfl : h63_0 151 33 = h63_0 151 33))
                  have ce20 : h3 151 37 = p63_1 := (my_up_self fh3)
                  have fc5 : Fc h h3 (h63_0 151 32) (-1) x2 := Fc_cg cc5 (by omega) fc_63_0
                  have pn5 := Pane_at hM3 (by omega) tx (by omega) fc5 (by omega : 0 ≤ p16_0) lk_63_0 (s := p27_0) (wd := h3 151 27) (q := p63_0) (by omega) (by rw [cc5]; exact lp_63_0) (fun j => my_fr.at gh3 is_157 rfl) (fun j => my_fr.at gh3 is_168 rfl) (fun j => my_fr.at gh3 is_169 rfl) (fun j => my_fr.at gh3 is_170 rfl) (fun j => my_fr.at gh3 is_171 rfl) (fun j => my_fr.at gh3 is_172 rfl) (by rw [cc5]; omega) (by rw [cc5]; exact ep_63_0)
                  have sh5 : Shn h3 0 (h3 151 37) (h3 151 27) (vb (h3 151 37)) := Shn_V (Shn_eq d182 sl_63_0) (by omega) (by omega) (by rw [wl_5 h5]; omega) (vb_mono (m := h63_0 151 37) (n := h3 151 37) (by omega) (by omega) (by omega)).1
                  refine w_inv (k := 4) (as := [(0, p63_0)]) (r := []) (x := 151) (ls0 := [(2, 151), (0, p63_0), (9, 0), (9, 0), (9, 0), (9, 0)]) gz_194_121 gm_198 rfl is_151 rd_10 rfl rfl rfl rfl rfl (c_Model_sums (d := (d + 2)) (x1 := p63_0) (by omega) (by omega) (k5) (pn5.1) (sh5) (fun h21 frh21 xp22 xp23 => ?_))
                  have gh21 : my_fr [(10, 27), (10, 32), (10, 33), (10, 37), (73, -1), (74, -1), (75, -1), (76, -1), (77, -1), (78, -1), (79, -1), (80, -1), (81, -1), (82, -1), (83, -1), (84, -1), (85, -1), (86, -1)] h h21 := my_fr.tr gh3 (frh21.mo rfl)
                  have Mw_h21 : Mw h21 := Mw_ag (my_ag.fr frh21 rfl) Mw_h3
                  have Mw3_h21 : Mw3 h21 := Mw3_ag (my_ag.fr frh21 rfl) Mw3_h3
                  have Rws_h21 : Rws h21 := Rws_ag (my_ag.fr frh21 rfl) Rws_h3
                  show wp l rho (d + 3) 194 124 [(2, 151), (0, x1), (0, x2), (0, p16_0), (0, p27_0), (0, p63_0), (0, p63_1), (0, p63_2)] [] h21 Q
                  have xm := xp22
                  have xs := xp23
                  obtain ⟨xsm, exsm⟩ : ∃ xsm : Int, xsm = h21 151 37 := ⟨_, rfl⟩
                  rw [← exsm] at xs xm
                  have isum : h 168 p63_0 = 5 := h5
                  refine w_aload_n gz_194_124 rfl ?_
                  refine w_iload gz_194_125 rfl ?_
                  refine v_know (x := 151) (j := 37) (b := 37) rfl is_151 rd_10 rfl (fun k37b ek37b pk37b qk37b => ?_)
                  have cb : ∀ j : Int, h21 177 j = h63_0 177 j := fun j => ((my_fr.at frh21 is_177 rfl).trans ((my_up_role fh3 is_177 is_151 rfl).trans (rfl : h63_0 177 j = h63_0 177 j)))
                  have ce24 : h21 151 27 = h63_0 151 27 := ((my_fr.at frh21 is_151 rfl).trans ((my_up_fld fh3 (by decide)).trans (rfl : h63_0 151 27 = h63_0 151 27)))
                  have ce25 : h21 151 32 = p27_1 := ((my_fr.at frh21 is_151 rfl).trans ((my_up_fld fh3 (by decide)).trans c151_32_63_0))
                  have ce26 : h21 151 33 = h63_0 151 33 := ((my_fr.at frh21 is_151 rfl).trans ((my_up_fld fh3 (by decide)).trans (rfl : h63_0 151 33 = h63_0 151 33)))
                  have e174 : ∀ j : Int, h21 174 j = h63_0 174 j := fun j => ((my_fr.at frh21 is_174 rfl).trans ((my_up_role fh3 is_174 is_151 rfl).trans (rfl : h63_0 174 j = h63_0 174 j)))
                  have e175 : ∀ j : Int, h21 175 j = h63_0 175 j := fun j => ((my_fr.at frh21 is_175 rfl).trans ((my_up_role fh3 is_175 is_151 rfl).trans (rfl : h63_0 175 j = h63_0 175 j)))
                  have fwx : FwW h21 (h21 151 27) := FwW_w (FwW_eq e174 e175 fw_63_0) (by omega)
                  have e168 : h21 168 p63_0 = h 168 p63_0 := my_fr.at gh21 is_168 rfl
                  have fcx : Fc h h21 (h63_0 151 32) (-1) x2 := Fc_cg cb (by omega) fc_63_0
                  have pn2 := Pane_at hM3 (by omega) tx (by omega) fcx (by omega : 0 ≤ p16_0) lk_63_0 (s := p27_0) (wd := h21 151 27) (q := p63_0) (by omega) (by rw [cb]; exact lp_63_0) (fun j => my_fr.at gh21 is_157 rfl) (fun j => my_fr.at gh21 is_168 rfl) (fun j => my_fr.at gh21 is_169 rfl) (fun j => my_fr.at gh21 is_170 rfl) (fun j => my_fr.at gh21 is_171 rfl) (fun j => my_fr.at gh21 is_172 rfl) (by rw [cb]; omega) (by rw [cb]; exact ep_63_0)
                  refine w_inv (k := 1) (as := [(0, p63_0)]) (r := []) (x := 151) (ls0 := [(2, 151), (0, p63_0), (9, 0)]) gz_194_127 gm_182 rfl is_151 rd_10 rfl rfl rfl rfl rfl (c_Model_pane2 (d := (d + 2)) (x1 := p63_0) (by omega) (by omega) (pn2.2.1) (fun h27 frh27 xp28 xp29 => ?_))
                  have gh27 : my_fr [(10, 27), (10, 32), (10, 33), (10, 37), (73, -1), (74, -1), (75, -1), (76, -1), (77, -1), (78, -1), (79, -1), (80, -1), (81, -1), (82, -1), (83, -1), (84, -1), (85, -1), (86, -1)] h h27 := my_fr.tr gh21 (frh27.mo rfl)
                  have Mw_h27 : Mw h27 := Mw_ag (my_ag.fr frh27 rfl) Mw_h21
                  have Mw3_h27 : Mw3 h27 := Mw3_ag (my_ag.fr frh27 rfl) Mw3_h21
                  have Rws_h27 : Rws h27 := Rws_ag (my_ag.fr frh27 rfl) Rws_h21
                  show wp l rho (d + 3) 194 130 [(2, 151), (0, x1), (0, x2), (0, p16_0), (0, p27_0), (0, p63_0), (0, p63_1), (0, p63_2)] [] h27 Q
                  have xw := xp28
                  have xf := xp29 ⟨fwx, pn2.1⟩
                  obtain ⟨wdx, ewdx⟩ : ∃ wdx : Int, wdx = h21 151 27 := ⟨_, rfl⟩
                  rw [← ewdx] at xw
                  refine w_iinc (ls' := [(2, 151), (0, x1), (0, x2), (0, p16_0), (0, (p27_0 + 1)), (0, p63_0), (0, p63_1), (0, p63_2)]) gz_194_130 rfl gm_194 rfl rfl rfl ⟨by omega, by omega⟩ ?_
                  refine w_goto (t := 27) gz_194_133 rfl ?_
                  have ca : ∀ j : Int, h27 177 j = h63_0 177 j := fun j => ((my_fr.at frh27 is_177 rfl).trans ((my_fr.at frh21 is_177 rfl).trans ((my_up_role fh3 is_177 is_151 rfl).trans (rfl : h63_0 177 j = h63_0 177 j))))
                  have ce30 : h27 151 32 = p27_1 := ((my_fr.at frh27 is_151 rfl).trans ((my_fr.at frh21 is_151 rfl).trans ((my_up_fld fh3 (by decide)).trans c151_32_63_0)))
                  have ce31 : h27 151 33 = h63_0 151 33 := ((my_fr.at frh27 is_151 rfl).trans ((my_fr.at frh21 is_151 rfl).trans ((my_up_fld fh3 (by decide)).trans (rfl : h63_0 151 33 = h63_0 151 33))))
                  have ce32 : h27 151 37 = h21 151 37 := ((my_fr.at frh27 is_151 rfl).trans (rfl : h21 151 37 = h21 151 37))
                  have a182 : ∀ j : Int, h27 182 j = h21 182 j := fun j => ((my_fr.at frh27 is_182 rfl).trans (rfl : h21 182 j = h21 182 j))
                  have a174 : ∀ j : Int, h27 174 j = h27 174 j := fun j => rfl
                  have a175 : ∀ j : Int, h27 175 j = h27 175 j := fun j => rfl
                  refine w_weak (ls' := [(2, 151), (0, x1), (0, x2), (0, p16_0), (0, (p27_0 + 1)), (9, 0), (9, 0), (9, 0)]) (wk_e (wk_e (wk_e (wk_e (wk_e (wk_9 (wk_9 (wk_9 wk_n)))))))) ?_
                  exact ih_27_0 ((p27_0 + 1)) (p27_1) h27 (gh27) (by omega) (by omega) (by omega) (by omega) (by omega) (by omega) (((my_fr.at frh27 is_151 rfl).trans ((my_fr.at frh21 is_151 rfl).trans ((my_up_fld fh3 (by decide)).trans c151_32_63_0))).trans (by omega)) Mw_h27 Mw3_h27 Rws_h27 (by first | (rw [show h27 151 32 = h63_0 151 32 by omega]; exact Fc_cg ca (by omega) fc_63_0) | (rw [show h27 151 32 = h27_0 151 32 by omega]; exact Fc_cg ca (by omega) fc_27_0) | (rw [show h27 151 32 = h16_0 151 32 by omega]; exact Fc_cg ca (by omega) fc_16_0) | (rw [show h27 151 32 = h 151 32 by omega]; exact Fc_cg ca (by omega) fc0) | omega) (by omega) (by omega) (by first | exact wp_27_0 | exact wk_16_0 (by omega) | (rw [ca]; exact wk_16_0 (by omega)) | (rw [ca]; omega) | (rw [ca]; have z := pn2.2.2.1; rw [cb, ← ewdx] at z; omega) | omega) (by first | omega | (rw [ca]; omega) | omega) (by first | exact Shn_V xb (by omega) (by omega) (by omega) (by have z := (vb_bd (m := h27 151 37) (by omega) (by omega)).1; omega) | exact sh_16_0 | exact sh_27_0 | exact Shn_V (Shn_eq a182 xs) (by omega) (by omega) (by have z := pn2.2.2.2.2.2.2 (by omega); rw [← ewdx] at z; omega) (by rw [show h27 151 37 = xsm by omega]; exact Int.le_refl _) | exact Shn_V (Shn_eq a182 sl_63_0) (by omega) (by omega) (by have z := pn2.2.2.2.2.2.1 (by omega); rw [← ewdx, show wdx = h63_0 151 27 by omega] at z; rw [show wdx = h63_0 151 27 by omega] at xw; omega) (vb_mono (m := h63_0 151 37) (n := h27 151 37) (by omega) (by omega) (by omega)).1 | omega) (by first | exact FwW_w (FwW_eq a174 a175 x6f) (by omega) | exact xf | exact FwW_w (FwW_eq a174 a175 fw_63_0) (by omega) | exact FwW_w (FwW_eq a174 a175 fw_27_0) (by omega) | exact FwW_w (FwW_eq a174 a175 fw_16_0) (by omega) | omega) (by omega)
              ·
                refine w_aload_n gz_194_72 rfl ?_
                refine w_iload_n gz_194_73 rfl ?_
                refine w_iload gz_194_74 rfl ?_
                refine w_iload gz_194_76 rfl ?_
                refine w_inv (k := 2) (as := [(0, p63_2), (0, p63_0), (0, x1)]) (r := []) (x := 151) (ls0 := [(2, 151), (0, x1), (0, p63_0), (0, p63_2), (9, 0), (9, 0)]) gz_194_78 gm_196 rfl is_151 rd_10 rfl rfl rfl rfl rfl (c_Model_isLeft (d := d) (x1 := x1) (x2 := p63_0) (x3 := p63_2) (by omega) (by omega) (by omega) (by omega) (by omega) (by omega) (pn.1) (pn.2.1) (fun h33 frh33 xp34 => ?_) (fun h35 frh35 xp36 xp37 => ?_))
                ·
                  have gh33 : my_fr [(10, 27), (10, 32), (10, 33), (10, 37), (73, -1), (74, -1), (75, -1), (76, -1), (77, -1), (78, -1), (79, -1), (80, -1), (81, -1), (82, -1), (83, -1), (84, -1), (85, -1), (86, -1)] h h33 := my_fr.tr gh_63_0 (frh33.mo rfl)
                  have Mw_h33 : Mw h33 := Mw_ag (my_ag.fr frh33 rfl) n_Mw_63_0
                  have Mw3_h33 : Mw3 h33 := Mw3_ag (my_ag.fr frh33 rfl) n_Mw3_63_0
                  have Rws_h33 : Rws h33 := Rws_ag (my_ag.fr frh33 rfl) n_Rws_63_0
                  show wp l rho (d + 3) 194 81 [(2, 151), (0, x1), (0, x2), (0, p16_0), (0, p27_0), (0, p63_0), (0, p63_1), (0, p63_2)] [(0, 0)] h33 Q
                  have rn := xp34
                  refine w_ifeq (t := 95) gz_194_81 rfl (fun u38 => ?_) (fun u38 => by exfalso; omega)
                  refine w_iinc (ls' := [(2, 151), (0, x1), (0, x2), (0, p16_0), (0, p27_0), (0, p63_0), (0, p63_1), (0, (p63_2 + 1))]) gz_194_95 rfl gm_194 rfl rfl rfl ⟨by omega, by omega⟩ ?_
                  refine w_goto (t := 63) gz_194_98 rfl ?_
                  have ca : ∀ j : Int, h33 177 j = h63_0 177 j := fun j => ((my_fr.at frh33 is_177 rfl).trans (rfl : h63_0 177 j = h63_0 177 j))
                  have ce39 : h33 151 27 = h63_0 151 27 := ((my_fr.at frh33 is_151 rfl).trans (rfl : h63_0 151 27 = h63_0 151 27))
                  have ce40 : h33 151 32 = p27_1 := ((my_fr.at frh33 is_151 rfl).trans c151_32_63_0)
                  have ce41 : h33 151 33 = h63_0 151 33 := ((my_fr.at frh33 is_151 rfl).trans (rfl : h63_0 151 33 = h63_0 151 33))
                  have ce42 : h33 151 37 = v1 := ((my_fr.at frh33 is_151 rfl).trans ev1.symm)
                  have a182 : ∀ j : Int, h33 182 j = h33 182 j := fun j => rfl
                  have a174 : ∀ j : Int, h33 174 j = h63_0 174 j := fun j => ((my_fr.at frh33 is_174 rfl).trans (rfl : h63_0 174 j = h63_0 174 j))
                  have a175 : ∀ j : Int, h33 175 j = h63_0 175 j := fun j => ((my_fr.at frh33 is_175 rfl).trans (rfl : h63_0 175 j = h63_0 175 j))
                  exact ih_63_0 (p63_0) (p63_1) ((p63_2 + 1)) h33 (gh33) (by omega) (by omega) (by omega) (by omega) (by omega) (by omega) (by omega) (by omega) (by omega) (((my_fr.at frh33 is_151 rfl).trans c151_32_63_0).trans (by omega)) Mw_h33 Mw3_h33 Rws_h33 (by first | (rw [show h33 151 32 = h63_0 151 32 by omega]; exact Fc_cg ca (by omega) fc_63_0) | (rw [show h33 151 32 = h27_0 151 32 by omega]; exact Fc_cg ca (by omega) fc_27_0) | (rw [show h33 151 32 = h16_0 151 32 by omega]; exact Fc_cg ca (by omega) fc_16_0) | (rw [show h33 151 32 = h 151 32 by omega]; exact Fc_cg ca (by omega) fc0) | omega) (by omega) (by omega) (by first | exact wp_27_0 | exact wk_16_0 (by omega) | (rw [ca]; exact wk_16_0 (by omega)) | (rw [ca]; omega) | (rw [ca]; have z := pn2.2.2.1; rw [cb, ← ewdx] at z; omega) | omega) (by first | omega | (rw [ca]; omega) | omega) (by first | omega | (rw [ca]; exact ep_63_0) | omega) (by first | (intro i c a b; exfalso; omega) | (rw [show h33 151 27 = h63_0 151 27 by omega, show h33 151 37 = h63_0 151 37 by omega]; first | exact SL.1 | exact Shn_eq a182 SL.1 | exact (Shn_gone sl_63_0 su_63_0 ll_63_0 w8 (by omega) rn).1 | exact Shn_eq a182 (Shn_gone sl_63_0 su_63_0 ll_63_0 w8 (by omega) rn).1) | omega) (by first | exact sh_27_0 | exact Shn_eq a182 sh_27_0 | (rw [show h33 151 27 = h63_0 151 27 by omega, show h33 151 37 = h63_0 151 37 by omega]; first | exact SL.2 | exact Shn_eq a182 SL.2 | exact (Shn_gone sl_63_0 su_63_0 ll_63_0 w8 (by omega) rn).2 | exact Shn_eq a182 (Shn_gone sl_63_0 su_63_0 ll_63_0 w8 (by omega) rn).2) | omega) (by omega) (by omega) (by first | exact FwW_w (FwW_eq a174 a175 x6f) (by omega) | exact xf | exact FwW_w (FwW_eq a174 a175 fw_63_0) (by omega) | exact FwW_w (FwW_eq a174 a175 fw_27_0) (by omega) | exact FwW_w (FwW_eq a174 a175 fw_16_0) (by omega) | omega) (by omega)
                ·
                  have gh35 : my_fr [(10, 27), (10, 32), (10, 33), (10, 37), (73, -1), (74, -1), (75, -1), (76, -1), (77, -1), (78, -1), (79, -1), (80, -1), (81, -1), (82, -1), (83, -1), (84, -1), (85, -1), (86, -1)] h h35 := my_fr.tr gh_63_0 (frh35.mo rfl)
                  have Mw_h35 : Mw h35 := Mw_ag (my_ag.fr frh35 rfl) n_Mw_63_0
                  have Mw3_h35 : Mw3 h35 := Mw3_ag (my_ag.fr frh35 rfl) n_Mw3_63_0
                  have Rws_h35 : Rws h35 := Rws_ag (my_ag.fr frh35 rfl) n_Rws_63_0
                  show wp l rho (d + 3) 194 81 [(2, 151), (0, x1), (0, x2), (0, p16_0), (0, p27_0), (0, p63_0), (0, p63_1), (0, p63_2)] [(0, 1)] h35 Q
                  have rn := xp36
                  have ro := xp37
                  refine w_ifeq (t := 95) gz_194_81 rfl (fun u43 => by exfalso; omega) (fun u43 => ?_)
                  refine w_aload_n gz_194_84 rfl ?_
                  refine w_iload gz_194_85 rfl ?_
                  refine w_iload gz_194_87 rfl ?_
                  refine w_inv (k := 1) (as := [(0, p63_1), (0, p63_2)]) (r := []) (x := 151) (ls0 := [(2, 151), (0, p63_2), (0, p63_1), (9, 0)]) gz_194_89 gm_197 rfl is_151 rd_10 rfl rfl rfl rfl rfl (c_Model_shifts2 (d := (d + 2)) (x1 := p63_2) (x2 := p63_1) (by omega) (by omega) (by omega) (by omega) (fun h44 frh44 xp45 xp46 => ?_))
                  have gh44 : my_fr [(10, 27), (10, 32), (10, 33), (10, 37), (73, -1), (74, -1), (75, -1), (76, -1), (77, -1), (78, -1), (79, -1), (80, -1), (81, -1), (82, -1), (83, -1), (84, -1), (85, -1), (86, -1)] h h44 := my_fr.tr gh35 (frh44.mo rfl)
                  have Mw_h44 : Mw h44 := Mw_ag (my_ag.fr frh44 rfl) Mw_h35
                  have Mw3_h44 : Mw3 h44 := Mw3_ag (my_ag.fr frh44 rfl) Mw3_h35
                  have Rws_h44 : Rws h44 := Rws_ag (my_ag.fr frh44 rfl) Rws_h35
                  show wp l rho (d + 3) 194 92 [(2, 151), (0, x1), (0, x2), (0, p16_0), (0, p27_0), (0, p63_0), (0, p63_1), (0, p63_2)] [] h44 Q
                  have SL := Shn_left sl_63_0 su_63_0 V19 (by omega) ll_63_0 (by omega) w8 (by omega) (by have z := rn; rw [pn.2.2.2.1] at z; exact z) ro xp45 xp46
                  refine w_iinc (ls' := [(2, 151), (0, x1), (0, x2), (0, p16_0), (0, p27_0), (0, p63_0), (0, (p63_1 + 1)), (0, p63_2)]) gz_194_92 rfl gm_194 rfl rfl rfl ⟨by omega, by omega⟩ ?_
                  refine w_iinc (ls' := [(2, 151), (0, x1), (0, x2), (0, p16_0), (0, p27_0), (0, p63_0), (0, (p63_1 + 1)), (0, (p63_2 + 1))]) gz_194_95 rfl gm_194 rfl rfl rfl ⟨by omega, by omega⟩ ?_
                  refine w_goto (t := 63) gz_194_98 rfl ?_
                  have ca : ∀ j : Int, h44 177 j = h63_0 177 j := fun j => ((my_fr.at frh44 is_177 rfl).trans ((my_fr.at frh35 is_177 rfl).trans (rfl : h63_0 177 j = h63_0 177 j)))
                  have ce47 : h44 151 27 = h63_0 151 27 := ((my_fr.at frh44 is_151 rfl).trans ((my_fr.at frh35 is_151 rfl).trans (rfl : h63_0 151 27 = h63_0 151 27)))
                  have ce48 : h44 151 32 = p27_1 := ((my_fr.at frh44 is_151 rfl).trans ((my_fr.at frh35 is_151 rfl).trans c151_32_63_0))
                  have ce49 : h44 151 33 = h63_0 151 33 := ((my_fr.at frh44 is_151 rfl).trans ((my_fr.at frh35 is_151 rfl).trans (rfl : h63_0 151 33 = h63_0 151 33)))
                  have ce50 : h44 151 37 = v1 := ((my_fr.at frh44 is_151 rfl).trans ((my_fr.at frh35 is_151 rfl).trans ev1.symm))
                  have a182 : ∀ j : Int, h44 182 j = h44 182 j := fun j => rfl
                  have a174 : ∀ j : Int, h44 174 j = h63_0 174 j := fun j => ((my_fr.at frh44 is_174 rfl).trans ((my_fr.at frh35 is_174 rfl).trans (rfl : h63_0 174 j = h63_0 174 j)))
                  have a175 : ∀ j : Int, h44 175 j = h63_0 175 j := fun j => ((my_fr.at frh44 is_175 rfl).trans ((my_fr.at frh35 is_175 rfl).trans (rfl : h63_0 175 j = h63_0 175 j)))
                  exact ih_63_0 (p63_0) ((p63_1 + 1)) ((p63_2 + 1)) h44 (gh44) (by omega) (by omega) (by omega) (by omega) (by omega) (by omega) (by omega) (by omega) (by omega) (((my_fr.at frh44 is_151 rfl).trans ((my_fr.at frh35 is_151 rfl).trans c151_32_63_0)).trans (by omega)) Mw_h44 Mw3_h44 Rws_h44 (by first | (rw [show h44 151 32 = h63_0 151 32 by omega]; exact Fc_cg ca (by omega) fc_63_0) | (rw [show h44 151 32 = h27_0 151 32 by omega]; exact Fc_cg ca (by omega) fc_27_0) | (rw [show h44 151 32 = h16_0 151 32 by omega]; exact Fc_cg ca (by omega) fc_16_0) | (rw [show h44 151 32 = h 151 32 by omega]; exact Fc_cg ca (by omega) fc0) | omega) (by omega) (by omega) (by first | exact wp_27_0 | exact wk_16_0 (by omega) | (rw [ca]; exact wk_16_0 (by omega)) | (rw [ca]; omega) | (rw [ca]; have z := pn2.2.2.1; rw [cb, ← ewdx] at z; omega) | omega) (by first | omega | (rw [ca]; omega) | omega) (by first | omega | (rw [ca]; exact ep_63_0) | omega) (by first | (intro i c a b; exfalso; omega) | (rw [show h44 151 27 = h63_0 151 27 by omega, show h44 151 37 = h63_0 151 37 by omega]; first | exact SL.1 | exact Shn_eq a182 SL.1 | exact (Shn_gone sl_63_0 su_63_0 ll_63_0 w8 (by omega) rn).1 | exact Shn_eq a182 (Shn_gone sl_63_0 su_63_0 ll_63_0 w8 (by omega) rn).1) | omega) (by first | exact sh_27_0 | exact Shn_eq a182 sh_27_0 | (rw [show h44 151 27 = h63_0 151 27 by omega, show h44 151 37 = h63_0 151 37 by omega]; first | exact SL.2 | exact Shn_eq a182 SL.2 | exact (Shn_gone sl_63_0 su_63_0 ll_63_0 w8 (by omega) rn).2 | exact Shn_eq a182 (Shn_gone sl_63_0 su_63_0 ll_63_0 w8 (by omega) rn).2) | omega) (by omega) (by omega) (by first | exact FwW_w (FwW_eq a174 a175 x6f) (by omega) | exact xf | exact FwW_w (FwW_eq a174 a175 fw_63_0) (by omega) | exact FwW_w (FwW_eq a174 a175 fw_27_0) (by omega) | exact FwW_w (FwW_eq a174 a175 fw_16_0) (by omega) | omega) (by omega)
          refine w_iload gz_194_27 rfl ?_
          refine w_aload_n gz_194_29 rfl ?_
          refine w_getX (v := 167) gz_194_30 is_151 rd_10 rfl (by decide) rfl ?_
          refine w_aload_n gz_194_33 rfl ?_
          refine w_getX (v := 177) gz_194_34 is_151 rd_10 rfl (by decide) rfl ?_
          refine w_iload_n gz_194_37 rfl ?_
          refine w_iald gz_194_38 is_177 rd_76 (by omega) (by omega) (fun v53 ev53 pv53 qv53 => ?_)
          have e32 : v53 = h27_0 177 p16_0 := by omega
          have f32 := f167 v53
          refine w_iald gz_194_39 is_167 rd_66 (by omega) (by omega) (fun v54 ev54 pv54 qv54 => ?_)
          have e33b : v54 = h 167 (h27_0 177 p16_0) := by rw [← e32]; omega
          refine w_icge (t := 136) gz_194_40 rfl (fun u55 => ?_) (fun u55 => ?_)
          ·
            have e57 : h 167 (h27_0 177 p16_0) = p27_0 := by omega
            refine w_iinc (ls' := [(2, 151), (0, x1), (0, x2), (0, (p16_0 + 1)), (0, p27_0), (9, 0), (9, 0), (9, 0)]) gz_194_136 rfl gm_194 rfl rfl rfl ⟨by omega, by omega⟩ ?_
            refine w_goto (t := 16) gz_194_139 rfl ?_
            have ca : ∀ j : Int, h27_0 177 j = h27_0 177 j := fun _ => rfl
            have ce56 : h27_0 151 32 = p27_1 := c151_32_27_0
            have a182 : ∀ j : Int, h27_0 182 j = h27_0 182 j := fun _ => rfl
            have a174 : ∀ j : Int, h27_0 174 j = h27_0 174 j := fun _ => rfl
            have a175 : ∀ j : Int, h27_0 175 j = h27_0 175 j := fun _ => rfl
            refine w_weak (ls' := [(2, 151), (0, x1), (0, x2), (0, (p16_0 + 1)), (9, 0), (9, 0), (9, 0), (9, 0)]) (wk_e (wk_e (wk_e (wk_e (wk_9 (wk_9 (wk_9 (wk_9 wk_n)))))))) ?_
            exact ih_16_0 ((p16_0 + 1)) h27_0 (gh_27_0) (by omega) (by omega) n_Mw_27_0 n_Mw3_27_0 n_Rws_27_0 (by first | (rw [show h27_0 151 32 = h63_0 151 32 by omega]; exact Fc_cg ca (by omega) fc_63_0) | (rw [show h27_0 151 32 = h27_0 151 32 by omega]; exact Fc_cg ca (by omega) fc_27_0) | (rw [show h27_0 151 32 = h16_0 151 32 by omega]; exact Fc_cg ca (by omega) fc_16_0) | (rw [show h27_0 151 32 = h 151 32 by omega]; exact Fc_cg ca (by omega) fc0) | omega) (by omega) (by omega) (by first | (intro q; exfalso; omega) | (intro q; rw [ca, Fc_first (W := W) fc0 (by omega)]; omega) | (intro q; rw [ca, Fc_next hW fc_27_0 (by omega) (by omega), e57]; omega) | omega) (by first | exact Shn_V xb (by omega) (by omega) (by omega) (by have z := (vb_bd (m := h27_0 151 37) (by omega) (by omega)).1; omega) | exact sh_16_0 | exact sh_27_0 | exact Shn_V (Shn_eq a182 xs) (by omega) (by omega) (by have z := pn2.2.2.2.2.2.2 (by omega); rw [← ewdx] at z; omega) (by rw [show h27_0 151 37 = xsm by omega]; exact Int.le_refl _) | exact Shn_V (Shn_eq a182 sl_63_0) (by omega) (by omega) (by have z := pn2.2.2.2.2.2.1 (by omega); rw [← ewdx, show wdx = h63_0 151 27 by omega] at z; rw [show wdx = h63_0 151 27 by omega] at xw; omega) (vb_mono (m := h63_0 151 37) (n := h27_0 151 37) (by omega) (by omega) (by omega)).1 | omega) (by first | exact FwW_w (FwW_eq a174 a175 x6f) (by omega) | exact xf | exact FwW_w (FwW_eq a174 a175 fw_63_0) (by omega) | exact FwW_w (FwW_eq a174 a175 fw_27_0) (by omega) | exact FwW_w (FwW_eq a174 a175 fw_16_0) (by omega) | omega) (by omega)
          ·
            refine w_bipush gz_194_43 (by decide) ?_
            refine w_aload_n gz_194_45 rfl ?_
            refine w_getX (v := 177) gz_194_46 is_151 rd_10 rfl (by decide) rfl ?_
            refine w_iload_n gz_194_49 rfl ?_
            refine w_iald gz_194_50 is_177 rd_76 (by omega) (by omega) (fun v58 ev58 pv58 qv58 => ?_)
            have zv58 := ev58.trans ev53.symm
            refine w_imul gz_194_51 ⟨by omega, by omega⟩ ?_
            refine w_iload gz_194_52 rfl ?_
            refine w_iadd gz_194_54 ⟨by omega, by omega⟩ ?_
            refine w_istore (ls' := [(2, 151), (0, x1), (0, x2), (0, p16_0), (0, p27_0), (0, ((6 * v58) + p27_0)), (9, 0), (9, 0)]) gz_194_55 gm_194 rfl rfl rfl ?_
            refine w_iconst gz_194_57 (by decide) ?_
            refine w_istore (ls' := [(2, 151), (0, x1), (0, x2), (0, p16_0), (0, p27_0), (0, ((6 * v58) + p27_0)), (0, 0), (9, 0)]) gz_194_58 gm_194 rfl rfl rfl ?_
            refine w_iconst gz_194_60 (by decide) ?_
            refine w_istore (ls' := [(2, 151), (0, x1), (0, x2), (0, p16_0), (0, p27_0), (0, ((6 * v58) + p27_0)), (0, 0), (0, 0)]) gz_194_61 gm_194 rfl rfl rfl ?_
            have ca : ∀ j : Int, h27_0 177 j = h27_0 177 j := fun _ => rfl
            have ce59 : h27_0 151 32 = p27_1 := c151_32_27_0
            have a182 : ∀ j : Int, h27_0 182 j = h27_0 182 j := fun _ => rfl
            have a174 : ∀ j : Int, h27_0 174 j = h27_0 174 j := fun _ => rfl
            have a175 : ∀ j : Int, h27_0 175 j = h27_0 175 j := fun _ => rfl
            exact J63_0 11 (((6 * v58) + p27_0)) (0) (0) h27_0 (gh_27_0) (by omega) (by omega) (by omega) (by omega) (by omega) (by omega) (by omega) (by omega) (by omega) (c151_32_27_0.trans (by omega)) n_Mw_27_0 n_Mw3_27_0 n_Rws_27_0 (by first | (rw [show h27_0 151 32 = h63_0 151 32 by omega]; exact Fc_cg ca (by omega) fc_63_0) | (rw [show h27_0 151 32 = h27_0 151 32 by omega]; exact Fc_cg ca (by omega) fc_27_0) | (rw [show h27_0 151 32 = h16_0 151 32 by omega]; exact Fc_cg ca (by omega) fc_16_0) | (rw [show h27_0 151 32 = h 151 32 by omega]; exact Fc_cg ca (by omega) fc0) | omega) (by omega) (by omega) (by first | exact wp_27_0 | exact wk_16_0 (by omega) | (rw [ca]; exact wk_16_0 (by omega)) | (rw [ca]; omega) | (rw [ca]; have z := pn2.2.2.1; rw [cb, ← ewdx] at z; omega) | omega) (by first | omega | (rw [ca]; omega) | omega) (by first | omega | (rw [ca]; exact ep_63_0) | omega) (by first | (intro i c a b; exfalso; omega) | (rw [show h27_0 151 27 = h63_0 151 27 by omega, show h27_0 151 37 = h63_0 151 37 by omega]; first | exact SL.1 | exact Shn_eq a182 SL.1 | exact (Shn_gone sl_63_0 su_63_0 ll_63_0 w8 (by omega) rn).1 | exact Shn_eq a182 (Shn_gone sl_63_0 su_63_0 ll_63_0 w8 (by omega) rn).1) | omega) (by first | exact sh_27_0 | exact Shn_eq a182 sh_27_0 | (rw [show h27_0 151 27 = h63_0 151 27 by omega, show h27_0 151 37 = h63_0 151 37 by omega]; first | exact SL.2 | exact Shn_eq a182 SL.2 | exact (Shn_gone sl_63_0 su_63_0 ll_63_0 w8 (by omega) rn).2 | exact Shn_eq a182 (Shn_gone sl_63_0 su_63_0 ll_63_0 w8 (by omega) rn).2) | omega) (by omega) (by omega) (by first | exact FwW_w (FwW_eq a174 a175 x6f) (by omega) | exact xf | exact FwW_w (FwW_eq a174 a175 fw_63_0) (by omega) | exact FwW_w (FwW_eq a174 a175 fw_27_0) (by omega) | exact FwW_w (FwW_eq a174 a175 fw_16_0) (by omega) | omega) (by omega)
      refine w_iload_n gz_194_16 rfl ?_
      refine w_aload_n gz_194_17 rfl ?_
      refine v_getI (j := 32) gz_194_18 rfl is_151 rd_10 rfl (fun v60 ev60 pv60 qv60 => ?_)
      refine w_icge (t := 142) gz_194_21 rfl (fun u61 => ?_) (fun u61 => ?_)
      ·
        refine w_aload_n gz_194_142 rfl ?_
        refine w_inv (k := 2) (as := []) (r := []) (x := 151) (ls0 := [(2, 151), (9, 0), (9, 0)]) gz_194_143 gm_199 rfl is_151 rd_10 rfl rfl rfl rfl rfl (c_Model_sortShown (d := (d + 1))   (fun h62 frh62 => ?_))
        have gh62 : my_fr [(10, 27), (10, 32), (10, 33), (10, 37), (73, -1), (74, -1), (75, -1), (76, -1), (77, -1), (78, -1), (79, -1), (80, -1), (81, -1), (82, -1), (83, -1), (84, -1), (85, -1), (86, -1)] h h62 := my_fr.tr gh_16_0 (frh62.mo rfl)
        have Mw_h62 : Mw h62 := Mw_ag (my_ag.fr frh62 rfl) n_Mw_16_0
        have Mw3_h62 : Mw3 h62 := Mw3_ag (my_ag.fr frh62 rfl) n_Mw3_16_0
        have Rws_h62 : Rws h62 := Rws_ag (my_ag.fr frh62 rfl) n_Rws_16_0
        show wp l rho (d + 3) 194 146 [(2, 151), (0, x1), (0, x2), (0, p16_0), (9, 0), (9, 0), (9, 0), (9, 0)] [] h62 Q
        have ce63 : h62 151 27 = h16_0 151 27 := ((my_fr.at frh62 is_151 rfl).trans (rfl : h16_0 151 27 = h16_0 151 27))
        have a174 : ∀ j : Int, h62 174 j = h16_0 174 j := fun j => ((my_fr.at frh62 is_174 rfl).trans (rfl : h16_0 174 j = h16_0 174 j))
        have a175 : ∀ j : Int, h62 175 j = h16_0 175 j := fun j => ((my_fr.at frh62 is_175 rfl).trans (rfl : h16_0 175 j = h16_0 175 j))
        exact w_vret gz_194_146 gm_194 (k0 h62 (gh62) (FwW_w (FwW_eq a174 a175 fw_16_0) (by omega)))
      ·
        have qr0 := fc_16_0.2.2.2.2.2 p16_0 (by omega) (by omega)
        refine v_knowA (x := 167) is_167 rd_66 (fun kP => ?_)
        have kq := kP (h16_0 177 p16_0) (by omega) (by omega)
        have k7 : h16_0 167 (h16_0 177 p16_0) = h 167 (h16_0 177 p16_0) := my_fr.at gh_16_0 is_167 rfl
        refine w_iconst gz_194_24 (by decide) ?_
        refine w_istore (ls' := [(2, 151), (0, x1), (0, x2), (0, p16_0), (0, 0), (9, 0), (9, 0), (9, 0)]) gz_194_25 gm_194 rfl rfl rfl ?_
        have ca : ∀ j : Int, h16_0 177 j = h16_0 177 j := fun _ => rfl
        have ce64 : h16_0 151 32 = v60 := ev60.symm
        have a182 : ∀ j : Int, h16_0 182 j = h16_0 182 j := fun _ => rfl
        have a174 : ∀ j : Int, h16_0 174 j = h16_0 174 j := fun _ => rfl
        have a175 : ∀ j : Int, h16_0 175 j = h16_0 175 j := fun _ => rfl
        exact J27_0 7 (0) (v60) h16_0 (gh_16_0) (by omega) (by omega) (by omega) (by omega) (by omega) (by omega) (ev60.symm.trans (by omega)) n_Mw_16_0 n_Mw3_16_0 n_Rws_16_0 (by first | (rw [show h16_0 151 32 = h63_0 151 32 by omega]; exact Fc_cg ca (by omega) fc_63_0) | (rw [show h16_0 151 32 = h27_0 151 32 by omega]; exact Fc_cg ca (by omega) fc_27_0) | (rw [show h16_0 151 32 = h16_0 151 32 by omega]; exact Fc_cg ca (by omega) fc_16_0) | (rw [show h16_0 151 32 = h 151 32 by omega]; exact Fc_cg ca (by omega) fc0) | omega) (by omega) (by omega) (by first | exact wp_27_0 | exact wk_16_0 (by omega) | (rw [ca]; exact wk_16_0 (by omega)) | (rw [ca]; omega) | (rw [ca]; have z := pn2.2.2.1; rw [cb, ← ewdx] at z; omega) | omega) (by first | omega | (rw [ca]; omega) | omega) (by first | exact Shn_V xb (by omega) (by omega) (by omega) (by have z := (vb_bd (m := h16_0 151 37) (by omega) (by omega)).1; omega) | exact sh_16_0 | exact sh_27_0 | exact Shn_V (Shn_eq a182 xs) (by omega) (by omega) (by have z := pn2.2.2.2.2.2.2 (by omega); rw [← ewdx] at z; omega) (by rw [show h16_0 151 37 = xsm by omega]; exact Int.le_refl _) | exact Shn_V (Shn_eq a182 sl_63_0) (by omega) (by omega) (by have z := pn2.2.2.2.2.2.1 (by omega); rw [← ewdx, show wdx = h63_0 151 27 by omega] at z; rw [show wdx = h63_0 151 27 by omega] at xw; omega) (vb_mono (m := h63_0 151 37) (n := h16_0 151 37) (by omega) (by omega) (by omega)).1 | omega) (by first | exact FwW_w (FwW_eq a174 a175 x6f) (by omega) | exact xf | exact FwW_w (FwW_eq a174 a175 fw_63_0) (by omega) | exact FwW_w (FwW_eq a174 a175 fw_27_0) (by omega) | exact FwW_w (FwW_eq a174 a175 fw_16_0) (by omega) | omega) (by omega)
  refine w_aload_n gz_194_0 rfl ?_
  refine w_iload_n gz_194_1 rfl ?_
  refine w_inv (k := 2) (as := [(0, x2)]) (r := []) (x := 151) (ls0 := [(2, 151), (0, x2), (9, 0), (9, 0)]) gz_194_2 gm_180 rfl is_151 rd_10 rfl rfl rfl rfl rfl (c_Model_findChain (d := (d + 2)) (x1 := x2) (by omega) (by omega) n_Mw (by first | assumption | exact no_such_saying | exact Fp_told (by omega) (by omega) | omega | (subst_vars; omega) | omega) (fun h65 frh65 xp66 xp67 xp68 => ?_))
  have gh65 : my_fr [(10, 27), (10, 32), (10, 33), (10, 37), (73, -1), (74, -1), (75, -1), (76, -1), (77, -1), (78, -1), (79, -1), (80, -1), (81, -1), (82, -1), (83, -1), (84, -1), (85, -1), (86, -1)] h h65 := my_fr.tr my_fr.rf (frh65.mo rfl)
  have Mw_h65 : Mw h65 := Mw_ag (my_ag.fr frh65 rfl) n_Mw
  have Mw3_h65 : Mw3 h65 := Mw3_ag (my_ag.fr frh65 rfl) n_Mw3
  have Rws_h65 : Rws h65 := Rws_ag (my_ag.fr frh65 rfl) n_Rws
  show wp l rho (d + 3) 194 5 [(2, 151), (0, x1), (0, x2), (9, 0), (9, 0), (9, 0), (9, 0), (9, 0)] [] h65 Q
  have fc0 := xp66
  have fc1 := xp67
  have fc2 := xp68
  have b157 : h65 157 (h65 151 33) = h 157 (h65 151 33) := my_fr.at gh65 is_157 rfl
  refine w_aload_n gz_194_5 rfl ?_
  refine w_inv (k := 1) (as := []) (r := []) (x := 151) (ls0 := [(2, 151), (9, 0)]) gz_194_6 gm_181 rfl is_151 rd_10 rfl rfl rfl rfl rfl (c_Model_beginsColumns3 (d := (d + 2))   (fun h69 frh69 w70 w71 xp72 xp73 => ?_))
  have gh69 : my_fr [(10, 27), (10, 32), (10, 33), (10, 37), (73, -1), (74, -1), (75, -1), (76, -1), (77, -1), (78, -1), (79, -1), (80, -1), (81, -1), (82, -1), (83, -1), (84, -1), (85, -1), (86, -1)] h h69 := my_fr.tr gh65 (frh69.mo rfl)
  have Mw_h69 : Mw h69 := Mw_ag (my_ag.fr frh69 rfl) Mw_h65
  have Mw3_h69 : Mw3 h69 := Mw3_ag (my_ag.fr frh69 rfl) Mw3_h65
  have Rws_h69 : Rws h69 := Rws_ag (my_ag.fr frh69 rfl) Rws_h65
  show wp l rho (d + 3) 194 9 [(2, 151), (0, x1), (0, x2), (9, 0), (9, 0), (9, 0), (9, 0), (9, 0)] [] h69 Q
  have x6 := xp72
  have x6f := xp73
  have e33 : h69 151 33 = h65 151 33 := my_fr.at frh69 is_151 rfl
  have e57a : ∀ j : Int, h69 157 j = h65 157 j := fun j => my_fr.at frh69 is_157 rfl
  have e27 : h69 151 27 = h69 157 (h69 151 33) := by rw [e57a, e33]; exact x6
  refine w_aload_n gz_194_9 rfl ?_
  refine w_iload_n gz_194_10 rfl ?_
  refine w_inv (k := 2) (as := [(0, x1)]) (r := []) (x := 151) (ls0 := [(2, 151), (0, x1), (9, 0), (9, 0)]) gz_194_11 gm_195 rfl is_151 rd_10 rfl rfl rfl rfl rfl (c_Model_begins2 (d := d) (x1 := x1) (by omega) (by omega) Rws_h69 (fun h74 frh74 xp75 => ?_))
  have gh74 : my_fr [(10, 27), (10, 32), (10, 33), (10, 37), (73, -1), (74, -1), (75, -1), (76, -1), (77, -1), (78, -1), (79, -1), (80, -1), (81, -1), (82, -1), (83, -1), (84, -1), (85, -1), (86, -1)] h h74 := my_fr.tr gh69 (frh74.mo rfl)
  have Mw_h74 : Mw h74 := Mw_ag (my_ag.fr frh74 rfl) Mw_h69
  have Mw3_h74 : Mw3 h74 := Mw3_ag (my_ag.fr frh74 rfl) Mw3_h69
  have Rws_h74 : Rws h74 := Rws_ag (my_ag.fr frh74 rfl) Rws_h69
  show wp l rho (d + 3) 194 14 [(2, 151), (0, x1), (0, x2), (9, 0), (9, 0), (9, 0), (9, 0), (9, 0)] [] h74 Q
  have xb := xp75
  refine v_know (x := 151) (j := 37) (b := 37) rfl is_151 rd_10 rfl (fun k37 ek37 pk37 qk37 => ?_)
  refine w_iconst gz_194_14 (by decide) ?_
  refine w_istore_n (ls' := [(2, 151), (0, x1), (0, x2), (0, 0), (9, 0), (9, 0), (9, 0), (9, 0)]) gz_194_15 gm_194 rfl rfl rfl ?_
  have ca : ∀ j : Int, h74 177 j = h65 177 j := fun j => ((my_fr.at frh74 is_177 rfl).trans ((my_fr.at frh69 is_177 rfl).trans (rfl : h65 177 j = h65 177 j)))
  have ce76 : h74 151 27 = (h69 151 27) := ((my_fr.at frh74 is_151 rfl).trans (rfl : h69 151 27 = h69 151 27))
  have ce77 : h74 151 32 = h65 151 32 := ((my_fr.at frh74 is_151 rfl).trans ((my_fr.at frh69 is_151 rfl).trans (rfl : h65 151 32 = h65 151 32)))
  have ce78 : h74 151 33 = h65 151 33 := ((my_fr.at frh74 is_151 rfl).trans ((my_fr.at frh69 is_151 rfl).trans (rfl : h65 151 33 = h65 151 33)))
  have a182 : ∀ j : Int, h74 182 j = h74 182 j := fun j => rfl
  have a174 : ∀ j : Int, h74 174 j = h69 174 j := fun j => ((my_fr.at frh74 is_174 rfl).trans (rfl : h69 174 j = h69 174 j))
  have a175 : ∀ j : Int, h74 175 j = h69 175 j := fun j => ((my_fr.at frh74 is_175 rfl).trans (rfl : h69 175 j = h69 175 j))
  exact J16_0 7 (0) h74 (gh74) (by omega) (by omega) Mw_h74 Mw3_h74 Rws_h74 (by first | (rw [show h74 151 32 = h63_0 151 32 by omega]; exact Fc_cg ca (by omega) fc_63_0) | (rw [show h74 151 32 = h27_0 151 32 by omega]; exact Fc_cg ca (by omega) fc_27_0) | (rw [show h74 151 32 = h16_0 151 32 by omega]; exact Fc_cg ca (by omega) fc_16_0) | (rw [show h74 151 32 = h65 151 32 by omega]; exact Fc_cg ca (by omega) fc0) | omega) (by omega) (by omega) (by first | (intro q; exfalso; omega) | (intro q; rw [ca, Fc_first (W := W) fc0 (by omega)]; omega) | (intro q; rw [ca, Fc_next hW fc_27_0 (by omega) (by omega), e57]; omega) | omega) (by first | exact Shn_V xb (by omega) (by omega) (by omega) (by have z := (vb_bd (m := h74 151 37) (by omega) (by omega)).1; omega) | exact sh_16_0 | exact sh_27_0 | exact Shn_V (Shn_eq a182 xs) (by omega) (by omega) (by have z := pn2.2.2.2.2.2.2 (by omega); rw [← ewdx] at z; omega) (by rw [show h74 151 37 = xsm by omega]; exact Int.le_refl _) | exact Shn_V (Shn_eq a182 sl_63_0) (by omega) (by omega) (by have z := pn2.2.2.2.2.2.1 (by omega); rw [← ewdx, show wdx = h63_0 151 27 by omega] at z; rw [show wdx = h63_0 151 27 by omega] at xw; omega) (vb_mono (m := h63_0 151 37) (n := h74 151 37) (by omega) (by omega) (by omega)).1 | omega) (by first | exact FwW_w (FwW_eq a174 a175 x6f) (by omega) | exact xf | exact FwW_w (FwW_eq a174 a175 fw_63_0) (by omega) | exact FwW_w (FwW_eq a174 a175 fw_27_0) (by omega) | exact FwW_w (FwW_eq a174 a175 fw_16_0) (by omega) | omega) (by omega)
theorem c_Model_source {l : Launch} {rho : Nat → Int32} {d : Nat} {h : my_H} {Q : my_H → my_V → Prop} {x1 x2 x3 x4 : Int} (n_Mw : Mw h) (n_Mw3 : Mw3 h) (n_Rws : Rws h) (k0 : ∀ (h' : my_H), my_fr [(10, 0), (10, 27), (10, 32), (10, 33), (10, 37), (73, -1), (74, -1), (75, -1), (76, -1), (77, -1), (78, -1), (79, -1), (80, -1), (81, -1), (82, -1), (83, -1), (84, -1), (85, -1), (86, -1)] h h' → h' 151 0 = 0 → Q h' (0, (-1))) (k1 : ∀ (h' : my_H) (y : Int), my_fr [(10, 0), (10, 27), (10, 32), (10, 33), (10, 37), (73, -1), (74, -1), (75, -1), (76, -1), (77, -1), (78, -1), (79, -1), (80, -1), (81, -1), (82, -1), (83, -1), (84, -1), (85, -1), (86, -1)] h h' → (-1) ≤ y → y ≤ 19 → 0 ≤ x1 → x1 ≤ 5 → 0 ≤ x2 → x2 ≤ 9 → 0 ≤ x3 → x3 ≤ 7 → 0 ≤ x4 → x4 ≤ 2 → h' 151 0 = 0 → 1 ≤ h' 151 27 → h' 151 27 ≤ 8 → 1 ≤ h' 151 37 → h' 151 37 ≤ 10 → Q h' (0, y)) : wp l rho (d + 4) 202 0 [(2, 151), (0, x1), (0, x2), (0, x3), (0, x4)] [] h Q := by
  refine w_aload_n gz_202_0 rfl ?_
  refine w_iconst gz_202_1 (by decide) ?_
  refine v_putI (j := 0) gz_202_2 rfl is_151 rd_10 rfl (by omega) (by omega) rfl (fun h1 fh1 => ?_)
  have gh1 : my_fr [(10, 0), (10, 27), (10, 32), (10, 33), (10, 37), (73, -1), (74, -1), (75, -1), (76, -1), (77, -1), (78, -1), (79, -1), (80, -1), (81, -1), (82, -1), (83, -1), (84, -1), (85, -1), (86, -1)] h h1 := my_fr.up my_fr.rf is_151 fh1 rfl
  have Mw_h1 : Mw h1 := Mw_ag (my_ag.up fh1 is_151 rfl) n_Mw
  have Mw3_h1 : Mw3 h1 := Mw3_ag (my_ag.up fh1 is_151 rfl) n_Mw3
  have Rws_h1 : Rws h1 := Rws_ag (my_ag.up fh1 is_151 rfl) n_Rws
  refine w_aload_n gz_202_5 rfl ?_
  refine w_iload_n gz_202_6 rfl ?_
  refine w_inv (k := 0) (as := [(0, x1)]) (r := []) (x := 151) (ls0 := [(2, 151), (0, x1)]) gz_202_7 gm_193 rfl is_151 rd_10 rfl rfl rfl rfl rfl ?_
  refine w_iload_n gz_193_0 rfl ?_
  refine w_iflt (t := 23) gz_193_1 rfl (fun u2 => ?_) (fun u2 => ?_)
  ·
    refine w_iconst gz_193_23 (by decide) ?_
    refine w_bret gz_193_24 gm_193 (by omega) (by omega) ?_
    show wp l rho (d + 4) 202 10 [(2, 151), (0, x1), (0, x2), (0, x3), (0, x4)] [(0, 0)] h1 Q
    refine w_ifeq (t := 23) gz_202_10 rfl (fun u3 => ?_) (fun u3 => by exfalso; omega)
    refine w_iconst gz_202_23 (by decide) ?_
    have c4 := (my_up_self fh1)
    exact w_iret gz_202_24 gm_202 (k0 h1 (gh1) (by omega))
  ·
    refine w_iload_n gz_193_4 rfl ?_
    refine w_bipush gz_193_5 (by decide) ?_
    refine w_icge (t := 23) gz_193_7 rfl (fun u5 => ?_) (fun u5 => ?_)
    ·
      refine w_iconst gz_193_23 (by decide) ?_
      refine w_bret gz_193_24 gm_193 (by omega) (by omega) ?_
      show wp l rho (d + 4) 202 10 [(2, 151), (0, x1), (0, x2), (0, x3), (0, x4)] [(0, 0)] h1 Q
      refine w_ifeq (t := 23) gz_202_10 rfl (fun u6 => ?_) (fun u6 => by exfalso; omega)
      refine w_iconst gz_202_23 (by decide) ?_
      have c7 := (my_up_self fh1)
      exact w_iret gz_202_24 gm_202 (k0 h1 (gh1) (by omega))
    ·
      refine w_aload_n gz_193_10 rfl ?_
      refine w_getX (v := 164) gz_193_11 is_151 rd_10 rfl (by decide) rfl ?_
      refine w_iload_n gz_193_14 rfl ?_
      refine w_bald gz_193_15 is_164 rd_63 (by omega) (by omega) (fun v9 ev9 pv9 qv9 => ?_)
      refine w_ifeq (t := 23) gz_193_16 rfl (fun u10 => ?_) (fun u10 => ?_)
      ·
        refine w_iconst gz_193_23 (by decide) ?_
        refine w_bret gz_193_24 gm_193 (by omega) (by omega) ?_
        show wp l rho (d + 4) 202 10 [(2, 151), (0, x1), (0, x2), (0, x3), (0, x4)] [(0, 0)] h1 Q
        refine w_ifeq (t := 23) gz_202_10 rfl (fun u11 => ?_) (fun u11 => by exfalso; omega)
        refine w_iconst gz_202_23 (by decide) ?_
        have c12 := (my_up_self fh1)
        exact w_iret gz_202_24 gm_202 (k0 h1 (gh1) (by omega))
      ·
        refine w_iconst gz_193_19 (by decide) ?_
        refine w_goto (t := 24) gz_193_20 rfl ?_
        refine w_bret gz_193_24 gm_193 (by omega) (by omega) ?_
        show wp l rho (d + 4) 202 10 [(2, 151), (0, x1), (0, x2), (0, x3), (0, x4)] [(0, 1)] h1 Q
        refine w_ifeq (t := 23) gz_202_10 rfl (fun u13 => by exfalso; omega) (fun u13 => ?_)
        refine w_iload gz_202_13 rfl ?_
        refine w_iconst gz_202_15 (by decide) ?_
        refine w_iconst gz_202_16 (by decide) ?_
        refine w_inS (k := 0) (as := [(0, 2), (0, 0), (0, x4)]) (r := []) (ls0 := [(0, x4), (0, 0), (0, 2)]) gz_202_17 gm_147 rfl rfl rfl rfl rfl rfl ?_
        refine w_iload_n gz_147_0 rfl ?_
        refine w_iload_n gz_147_1 rfl ?_
        refine w_iclt (t := 14) gz_147_2 rfl (fun u14 => ?_) (fun u14 => ?_)
        ·
          refine w_iconst gz_147_14 (by decide) ?_
          refine w_bret gz_147_15 gm_147 (by omega) (by omega) ?_
          show wp l rho (d + 4) 202 20 [(2, 151), (0, x1), (0, x2), (0, x3), (0, x4)] [(0, 0)] h1 Q
          refine w_ifne (t := 25) gz_202_20 rfl (fun u15 => by exfalso; omega) (fun u15 => ?_)
          refine w_iconst gz_202_23 (by decide) ?_
          have c16 := (my_up_self fh1)
          exact w_iret gz_202_24 gm_202 (k0 h1 (gh1) (by omega))
        ·
          refine w_iload_n gz_147_5 rfl ?_
          refine w_iload_n gz_147_6 rfl ?_
          refine w_icgt (t := 14) gz_147_7 rfl (fun u17 => ?_) (fun u17 => ?_)
          ·
            refine w_iconst gz_147_14 (by decide) ?_
            refine w_bret gz_147_15 gm_147 (by omega) (by omega) ?_
            show wp l rho (d + 4) 202 20 [(2, 151), (0, x1), (0, x2), (0, x3), (0, x4)] [(0, 0)] h1 Q
            refine w_ifne (t := 25) gz_202_20 rfl (fun u18 => by exfalso; omega) (fun u18 => ?_)
            refine w_iconst gz_202_23 (by decide) ?_
            have c19 := (my_up_self fh1)
            exact w_iret gz_202_24 gm_202 (k0 h1 (gh1) (by omega))
          ·
            refine w_iconst gz_147_10 (by decide) ?_
            refine w_goto (t := 15) gz_147_11 rfl ?_
            refine w_bret gz_147_15 gm_147 (by omega) (by omega) ?_
            show wp l rho (d + 4) 202 20 [(2, 151), (0, x1), (0, x2), (0, x3), (0, x4)] [(0, 1)] h1 Q
            refine w_ifne (t := 25) gz_202_20 rfl (fun u20 => ?_) (fun u20 => by exfalso; omega)
            refine w_aload_n gz_202_25 rfl ?_
            refine w_iconst gz_202_26 (by decide) ?_
            refine w_iload_n gz_202_27 rfl ?_
            have Fp_h1t21 : Fp h1 x1 := Fp_told (by omega) (by omega)
            refine w_inv (k := 5) (as := [(0, x1), (0, 0)]) (r := []) (x := 151) (ls0 := [(2, 151), (0, 0), (0, x1), (9, 0), (9, 0), (9, 0), (9, 0), (9, 0)]) gz_202_28 gm_194 rfl is_151 rd_10 rfl rfl rfl rfl rfl (c_Model_shows (d := d) (x1 := 0) (x2 := x1) (by omega) (by omega) (by omega) (by omega) Mw_h1 Mw3_h1 Rws_h1 (by first | assumption | exact Fp_h1t21 | exact Fp_told (by omega) (by omega) | omega | (subst_vars; omega) | omega) (fun h22 frh22 xp23 => ?_))
            have gh22 : my_fr [(10, 0), (10, 27), (10, 32), (10, 33), (10, 37), (73, -1), (74, -1), (75, -1), (76, -1), (77, -1), (78, -1), (79, -1), (80, -1), (81, -1), (82, -1), (83, -1), (84, -1), (85, -1), (86, -1)] h h22 := my_fr.tr gh1 (frh22.mo rfl)
            have Mw_h22 : Mw h22 := Mw_ag (my_ag.fr frh22 rfl) Mw_h1
            have Mw3_h22 : Mw3 h22 := Mw3_ag (my_ag.fr frh22 rfl) Mw3_h1
            have Rws_h22 : Rws h22 := Rws_ag (my_ag.fr frh22 rfl) Rws_h1
            have Fp_h22 : Fp h22 x1 := Fp_ag (my_ag.fr frh22 rfl) Fp_h1t21
            show wp l rho (d + 4) 202 31 [(2, 151), (0, x1), (0, x2), (0, x3), (0, x4)] [] h22 Q
            refine w_iload_n gz_202_31 rfl ?_
            refine w_iconst gz_202_32 (by decide) ?_
            refine w_aload_n gz_202_33 rfl ?_
            refine v_getI (j := 37) gz_202_34 rfl is_151 rd_10 rfl (fun v24 ev24 pv24 qv24 => ?_)
            refine w_iconst gz_202_37 (by decide) ?_
            refine w_isub gz_202_38 ⟨by omega, by omega⟩ ?_
            refine w_inS (k := 0) (as := [(0, (v24 - 1)), (0, 0), (0, x2)]) (r := []) (ls0 := [(0, x2), (0, 0), (0, (v24 - 1))]) gz_202_39 gm_147 rfl rfl rfl rfl rfl rfl ?_
            refine w_iload_n gz_147_0 rfl ?_
            refine w_iload_n gz_147_1 rfl ?_
            refine w_iclt (t := 14) gz_147_2 rfl (fun u25 => ?_) (fun u25 => ?_)
            ·
              refine w_iconst gz_147_14 (by decide) ?_
              refine w_bret gz_147_15 gm_147 (by omega) (by omega) ?_
              show wp l rho (d + 4) 202 42 [(2, 151), (0, x1), (0, x2), (0, x3), (0, x4)] [(0, 0)] h22 Q
              refine w_ifeq (t := 59) gz_202_42 rfl (fun u26 => ?_) (fun u26 => by exfalso; omega)
              refine w_iconst gz_202_59 (by decide) ?_
              have c27 := ((my_fr.at frh22 is_151 rfl).trans (my_up_self fh1))
              exact w_iret gz_202_60 gm_202 (k0 h22 (gh22) (by omega))
            ·
              refine w_iload_n gz_147_5 rfl ?_
              refine w_iload_n gz_147_6 rfl ?_
              refine w_icgt (t := 14) gz_147_7 rfl (fun u28 => ?_) (fun u28 => ?_)
              ·
                refine w_iconst gz_147_14 (by decide) ?_
                refine w_bret gz_147_15 gm_147 (by omega) (by omega) ?_
                show wp l rho (d + 4) 202 42 [(2, 151), (0, x1), (0, x2), (0, x3), (0, x4)] [(0, 0)] h22 Q
                refine w_ifeq (t := 59) gz_202_42 rfl (fun u29 => ?_) (fun u29 => by exfalso; omega)
                refine w_iconst gz_202_59 (by decide) ?_
                have c30 := ((my_fr.at frh22 is_151 rfl).trans (my_up_self fh1))
                exact w_iret gz_202_60 gm_202 (k0 h22 (gh22) (by omega))
              ·
                refine w_iconst gz_147_10 (by decide) ?_
                refine w_goto (t := 15) gz_147_11 rfl ?_
                refine w_bret gz_147_15 gm_147 (by omega) (by omega) ?_
                show wp l rho (d + 4) 202 42 [(2, 151), (0, x1), (0, x2), (0, x3), (0, x4)] [(0, 1)] h22 Q
                refine w_ifeq (t := 59) gz_202_42 rfl (fun u31 => by exfalso; omega) (fun u31 => ?_)
                refine w_iload_n gz_202_45 rfl ?_
                refine w_iconst gz_202_46 (by decide) ?_
                refine w_aload_n gz_202_47 rfl ?_
                refine v_getI (j := 27) gz_202_48 rfl is_151 rd_10 rfl (fun v32 ev32 pv32 qv32 => ?_)
                refine w_iconst gz_202_51 (by decide) ?_
                refine w_isub gz_202_52 ⟨by omega, by omega⟩ ?_
                refine w_inS (k := 0) (as := [(0, (v32 - 1)), (0, 0), (0, x3)]) (r := []) (ls0 := [(0, x3), (0, 0), (0, (v32 - 1))]) gz_202_53 gm_147 rfl rfl rfl rfl rfl rfl ?_
                refine w_iload_n gz_147_0 rfl ?_
                refine w_iload_n gz_147_1 rfl ?_
                refine w_iclt (t := 14) gz_147_2 rfl (fun u33 => ?_) (fun u33 => ?_)
                ·
                  refine w_iconst gz_147_14 (by decide) ?_
                  refine w_bret gz_147_15 gm_147 (by omega) (by omega) ?_
                  show wp l rho (d + 4) 202 56 [(2, 151), (0, x1), (0, x2), (0, x3), (0, x4)] [(0, 0)] h22 Q
                  refine w_ifne (t := 61) gz_202_56 rfl (fun u34 => by exfalso; omega) (fun u34 => ?_)
                  refine w_iconst gz_202_59 (by decide) ?_
                  have c35 := ((my_fr.at frh22 is_151 rfl).trans (my_up_self fh1))
                  exact w_iret gz_202_60 gm_202 (k0 h22 (gh22) (by omega))
                ·
                  refine w_iload_n gz_147_5 rfl ?_
                  refine w_iload_n gz_147_6 rfl ?_
                  refine w_icgt (t := 14) gz_147_7 rfl (fun u36 => ?_) (fun u36 => ?_)
                  ·
                    refine w_iconst gz_147_14 (by decide) ?_
                    refine w_bret gz_147_15 gm_147 (by omega) (by omega) ?_
                    show wp l rho (d + 4) 202 56 [(2, 151), (0, x1), (0, x2), (0, x3), (0, x4)] [(0, 0)] h22 Q
                    refine w_ifne (t := 61) gz_202_56 rfl (fun u37 => by exfalso; omega) (fun u37 => ?_)
                    refine w_iconst gz_202_59 (by decide) ?_
                    have c38 := ((my_fr.at frh22 is_151 rfl).trans (my_up_self fh1))
                    exact w_iret gz_202_60 gm_202 (k0 h22 (gh22) (by omega))
                  ·
                    refine w_iconst gz_147_10 (by decide) ?_
                    refine w_goto (t := 15) gz_147_11 rfl ?_
                    refine w_bret gz_147_15 gm_147 (by omega) (by omega) ?_
                    show wp l rho (d + 4) 202 56 [(2, 151), (0, x1), (0, x2), (0, x3), (0, x4)] [(0, 1)] h22 Q
                    refine w_ifne (t := 61) gz_202_56 rfl (fun u39 => ?_) (fun u39 => by exfalso; omega)
                    refine w_iload gz_202_61 rfl ?_
                    refine w_ifeq (t := 75) gz_202_63 rfl (fun u40 => ?_) (fun u40 => ?_)
                    ·
                      refine w_aload_n gz_202_75 rfl ?_
                      refine w_getX (v := 174) gz_202_76 is_151 rd_10 rfl (by decide) rfl ?_
                      refine w_iload_n gz_202_79 rfl ?_
                      refine w_iald gz_202_80 is_174 rd_73 (by omega) (by omega) (fun v42 ev42 pv42 qv42 => ?_)
                      refine w_goto (t := 110) gz_202_81 rfl ?_
                      have c43 := ((my_fr.at frh22 is_151 rfl).trans (my_up_self fh1))
                      have c44 := ev32.symm
                      have c45 := ev24.symm
                      exact w_iret gz_202_110 gm_202 (k1 h22 (v42) (gh22) (by omega) (by omega) (by omega) (by omega) (by omega) (by omega) (by omega) (by omega) (by omega) (by omega) (by omega) (by omega) (by omega) (by omega) (by omega))
                    ·
                      refine w_aload_n gz_202_66 rfl ?_
                      refine w_getX (v := 174) gz_202_67 is_151 rd_10 rfl (by decide) rfl ?_
                      refine w_iload_n gz_202_70 rfl ?_
                      refine w_iald gz_202_71 is_174 rd_73 (by omega) (by omega) (fun v47 ev47 pv47 qv47 => ?_)
                      refine w_ifge (t := 84) gz_202_72 rfl (fun u48 => ?_) (fun u48 => ?_)
                      ·
                        refine w_iload gz_202_84 rfl ?_
                        refine w_iconst gz_202_86 (by decide) ?_
                        refine w_icne (t := 104) gz_202_87 rfl (fun u49 => ?_) (fun u49 => ?_)
                        ·
                          refine w_aload_n gz_202_104 rfl ?_
                          refine w_getX (v := 175) gz_202_105 is_151 rd_10 rfl (by decide) rfl ?_
                          refine w_iload_n gz_202_108 rfl ?_
                          refine w_iald gz_202_109 is_175 rd_74 (by omega) (by omega) (fun v51 ev51 pv51 qv51 => ?_)
                          have c52 := ((my_fr.at frh22 is_151 rfl).trans (my_up_self fh1))
                          have c53 := ev32.symm
                          have c54 := ev24.symm
                          exact w_iret gz_202_110 gm_202 (k1 h22 (v51) (gh22) (by omega) (by omega) (by omega) (by omega) (by omega) (by omega) (by omega) (by omega) (by omega) (by omega) (by omega) (by omega) (by omega) (by omega) (by omega))
                        ·
                          refine w_aload_n gz_202_90 rfl ?_
                          refine w_getX (v := 183) gz_202_91 is_151 rd_10 rfl (by decide) rfl ?_
                          refine w_bipush gz_202_94 (by decide) ?_
                          refine w_iload_n gz_202_96 rfl ?_
                          refine w_imul gz_202_97 ⟨by omega, by omega⟩ ?_
                          refine w_iload_n gz_202_98 rfl ?_
                          refine w_iadd gz_202_99 ⟨by omega, by omega⟩ ?_
                          refine w_iald gz_202_100 is_183 rd_82 (by omega) (by omega) (fun v56 ev56 pv56 qv56 => ?_)
                          refine w_goto (t := 110) gz_202_101 rfl ?_
                          have c57 := ((my_fr.at frh22 is_151 rfl).trans (my_up_self fh1))
                          have c58 := ev32.symm
                          have c59 := ev24.symm
                          exact w_iret gz_202_110 gm_202 (k1 h22 (v56) (gh22) (by omega) (by omega) (by omega) (by omega) (by omega) (by omega) (by omega) (by omega) (by omega) (by omega) (by omega) (by omega) (by omega) (by omega) (by omega))
                      ·
                        refine w_aload_n gz_202_75 rfl ?_
                        refine w_getX (v := 174) gz_202_76 is_151 rd_10 rfl (by decide) rfl ?_
                        refine w_iload_n gz_202_79 rfl ?_
                        refine w_iald gz_202_80 is_174 rd_73 (by omega) (by omega) (fun v61 ev61 pv61 qv61 => ?_)
                        have zv61 := ev61.trans ev47.symm
                        refine w_goto (t := 110) gz_202_81 rfl ?_
                        have c62 := ((my_fr.at frh22 is_151 rfl).trans (my_up_self fh1))
                        have c63 := ev32.symm
                        have c64 := ev24.symm
                        exact w_iret gz_202_110 gm_202 (k1 h22 (v61) (gh22) (by omega) (by omega) (by omega) (by omega) (by omega) (by omega) (by omega) (by omega) (by omega) (by omega) (by omega) (by omega) (by omega) (by omega) (by omega))
theorem c_Model_look {l : Launch} {rho : Nat → Int32} {d : Nat} {h : my_H} {Q : my_H → my_V → Prop} {x1 x2 : Int} (n_Mw : Mw h) (n_Mw3 : Mw3 h) (n_Rws : Rws h) (k0 : ∀ (h' : my_H), my_fr [(10, 0), (10, 27), (10, 32), (10, 33), (10, 37), (73, -1), (74, -1), (75, -1), (76, -1), (77, -1), (78, -1), (79, -1), (80, -1), (81, -1), (82, -1), (83, -1), (84, -1), (85, -1), (86, -1)] h h' → h' 151 0 = 0 → Q h' (0, (-1))) (k1 : ∀ (h' : my_H) (y : Int), my_fr [(10, 0), (10, 27), (10, 32), (10, 33), (10, 37), (73, -1), (74, -1), (75, -1), (76, -1), (77, -1), (78, -1), (79, -1), (80, -1), (81, -1), (82, -1), (83, -1), (84, -1), (85, -1), (86, -1)] h h' → 0 ≤ x1 → x1 ≤ 5 → 0 ≤ x2 → x2 ≤ 4 → h' 151 0 = 0 → Q h' (0, y)) : wp l rho (d + 4) 203 0 [(2, 151), (0, x1), (0, x2)] [] h Q := by
  refine w_aload_n gz_203_0 rfl ?_
  refine w_iconst gz_203_1 (by decide) ?_
  refine v_putI (j := 0) gz_203_2 rfl is_151 rd_10 rfl (by omega) (by omega) rfl (fun h1 fh1 => ?_)
  have gh1 : my_fr [(10, 0), (10, 27), (10, 32), (10, 33), (10, 37), (73, -1), (74, -1), (75, -1), (76, -1), (77, -1), (78, -1), (79, -1), (80, -1), (81, -1), (82, -1), (83, -1), (84, -1), (85, -1), (86, -1)] h h1 := my_fr.up my_fr.rf is_151 fh1 rfl
  have Mw_h1 : Mw h1 := Mw_ag (my_ag.up fh1 is_151 rfl) n_Mw
  have Mw3_h1 : Mw3 h1 := Mw3_ag (my_ag.up fh1 is_151 rfl) n_Mw3
  have Rws_h1 : Rws h1 := Rws_ag (my_ag.up fh1 is_151 rfl) n_Rws
  refine w_aload_n gz_203_5 rfl ?_
  refine w_iload_n gz_203_6 rfl ?_
  refine w_inv (k := 0) (as := [(0, x1)]) (r := []) (x := 151) (ls0 := [(2, 151), (0, x1)]) gz_203_7 gm_193 rfl is_151 rd_10 rfl rfl rfl rfl rfl ?_
  refine w_iload_n gz_193_0 rfl ?_
  refine w_iflt (t := 23) gz_193_1 rfl (fun u2 => ?_) (fun u2 => ?_)
  ·
    refine w_iconst gz_193_23 (by decide) ?_
    refine w_bret gz_193_24 gm_193 (by omega) (by omega) ?_
    show wp l rho (d + 4) 203 10 [(2, 151), (0, x1), (0, x2)] [(0, 0)] h1 Q
    refine w_ifeq (t := 22) gz_203_10 rfl (fun u3 => ?_) (fun u3 => by exfalso; omega)
    refine w_iconst gz_203_22 (by decide) ?_
    have c4 := (my_up_self fh1)
    exact w_iret gz_203_23 gm_203 (k0 h1 (gh1) (by omega))
  ·
    refine w_iload_n gz_193_4 rfl ?_
    refine w_bipush gz_193_5 (by decide) ?_
    refine w_icge (t := 23) gz_193_7 rfl (fun u5 => ?_) (fun u5 => ?_)
    ·
      refine w_iconst gz_193_23 (by decide) ?_
      refine w_bret gz_193_24 gm_193 (by omega) (by omega) ?_
      show wp l rho (d + 4) 203 10 [(2, 151), (0, x1), (0, x2)] [(0, 0)] h1 Q
      refine w_ifeq (t := 22) gz_203_10 rfl (fun u6 => ?_) (fun u6 => by exfalso; omega)
      refine w_iconst gz_203_22 (by decide) ?_
      have c7 := (my_up_self fh1)
      exact w_iret gz_203_23 gm_203 (k0 h1 (gh1) (by omega))
    ·
      refine w_aload_n gz_193_10 rfl ?_
      refine w_getX (v := 164) gz_193_11 is_151 rd_10 rfl (by decide) rfl ?_
      refine w_iload_n gz_193_14 rfl ?_
      refine w_bald gz_193_15 is_164 rd_63 (by omega) (by omega) (fun v9 ev9 pv9 qv9 => ?_)
      refine w_ifeq (t := 23) gz_193_16 rfl (fun u10 => ?_) (fun u10 => ?_)
      ·
        refine w_iconst gz_193_23 (by decide) ?_
        refine w_bret gz_193_24 gm_193 (by omega) (by omega) ?_
        show wp l rho (d + 4) 203 10 [(2, 151), (0, x1), (0, x2)] [(0, 0)] h1 Q
        refine w_ifeq (t := 22) gz_203_10 rfl (fun u11 => ?_) (fun u11 => by exfalso; omega)
        refine w_iconst gz_203_22 (by decide) ?_
        have c12 := (my_up_self fh1)
        exact w_iret gz_203_23 gm_203 (k0 h1 (gh1) (by omega))
      ·
        refine w_iconst gz_193_19 (by decide) ?_
        refine w_goto (t := 24) gz_193_20 rfl ?_
        refine w_bret gz_193_24 gm_193 (by omega) (by omega) ?_
        show wp l rho (d + 4) 203 10 [(2, 151), (0, x1), (0, x2)] [(0, 1)] h1 Q
        refine w_ifeq (t := 22) gz_203_10 rfl (fun u13 => by exfalso; omega) (fun u13 => ?_)
        refine w_iload_n gz_203_13 rfl ?_
        refine w_iconst gz_203_14 (by decide) ?_
        refine w_iconst gz_203_15 (by decide) ?_
        refine w_inS (k := 0) (as := [(0, 4), (0, 0), (0, x2)]) (r := []) (ls0 := [(0, x2), (0, 0), (0, 4)]) gz_203_16 gm_147 rfl rfl rfl rfl rfl rfl ?_
        refine w_iload_n gz_147_0 rfl ?_
        refine w_iload_n gz_147_1 rfl ?_
        refine w_iclt (t := 14) gz_147_2 rfl (fun u14 => ?_) (fun u14 => ?_)
        ·
          refine w_iconst gz_147_14 (by decide) ?_
          refine w_bret gz_147_15 gm_147 (by omega) (by omega) ?_
          show wp l rho (d + 4) 203 19 [(2, 151), (0, x1), (0, x2)] [(0, 0)] h1 Q
          refine w_ifne (t := 24) gz_203_19 rfl (fun u15 => by exfalso; omega) (fun u15 => ?_)
          refine w_iconst gz_203_22 (by decide) ?_
          have c16 := (my_up_self fh1)
          exact w_iret gz_203_23 gm_203 (k0 h1 (gh1) (by omega))
        ·
          refine w_iload_n gz_147_5 rfl ?_
          refine w_iload_n gz_147_6 rfl ?_
          refine w_icgt (t := 14) gz_147_7 rfl (fun u17 => ?_) (fun u17 => ?_)
          ·
            refine w_iconst gz_147_14 (by decide) ?_
            refine w_bret gz_147_15 gm_147 (by omega) (by omega) ?_
            show wp l rho (d + 4) 203 19 [(2, 151), (0, x1), (0, x2)] [(0, 0)] h1 Q
            refine w_ifne (t := 24) gz_203_19 rfl (fun u18 => by exfalso; omega) (fun u18 => ?_)
            refine w_iconst gz_203_22 (by decide) ?_
            have c19 := (my_up_self fh1)
            exact w_iret gz_203_23 gm_203 (k0 h1 (gh1) (by omega))
          ·
            refine w_iconst gz_147_10 (by decide) ?_
            refine w_goto (t := 15) gz_147_11 rfl ?_
            refine w_bret gz_147_15 gm_147 (by omega) (by omega) ?_
            show wp l rho (d + 4) 203 19 [(2, 151), (0, x1), (0, x2)] [(0, 1)] h1 Q
            refine w_ifne (t := 24) gz_203_19 rfl (fun u20 => ?_) (fun u20 => by exfalso; omega)
            refine w_aload_n gz_203_24 rfl ?_
            refine w_iconst gz_203_25 (by decide) ?_
            refine w_iload_n gz_203_26 rfl ?_
            have Fp_h1t21 : Fp h1 x1 := Fp_told (by omega) (by omega)
            refine w_inv (k := 5) (as := [(0, x1), (0, 0)]) (r := []) (x := 151) (ls0 := [(2, 151), (0, 0), (0, x1), (9, 0), (9, 0), (9, 0), (9, 0), (9, 0)]) gz_203_27 gm_194 rfl is_151 rd_10 rfl rfl rfl rfl rfl (c_Model_shows (d := d) (x1 := 0) (x2 := x1) (by omega) (by omega) (by omega) (by omega) Mw_h1 Mw3_h1 Rws_h1 (by first | assumption | exact Fp_h1t21 | exact Fp_told (by omega) (by omega) | omega | (subst_vars; omega) | omega) (fun h22 frh22 xp23 => ?_))
            have gh22 : my_fr [(10, 0), (10, 27), (10, 32), (10, 33), (10, 37), (73, -1), (74, -1), (75, -1), (76, -1), (77, -1), (78, -1), (79, -1), (80, -1), (81, -1), (82, -1), (83, -1), (84, -1), (85, -1), (86, -1)] h h22 := my_fr.tr gh1 (frh22.mo rfl)
            have Mw_h22 : Mw h22 := Mw_ag (my_ag.fr frh22 rfl) Mw_h1
            have Mw3_h22 : Mw3 h22 := Mw3_ag (my_ag.fr frh22 rfl) Mw3_h1
            have Rws_h22 : Rws h22 := Rws_ag (my_ag.fr frh22 rfl) Rws_h1
            have Fp_h22 : Fp h22 x1 := Fp_ag (my_ag.fr frh22 rfl) Fp_h1t21
            show wp l rho (d + 4) 203 30 [(2, 151), (0, x1), (0, x2)] [] h22 Q
            refine w_iload_n gz_203_30 rfl ?_
            by_cases u24 : x2 = 0
            ·
              refine w_tswE (t := 60) gz_203_31 u24 (by decide) (by decide) rfl rfl ?_
              refine w_aload_n gz_203_60 rfl ?_
              refine v_getI (j := 37) gz_203_61 rfl is_151 rd_10 rfl (fun v25 ev25 pv25 qv25 => ?_)
              have c26 := ((my_fr.at frh22 is_151 rfl).trans (my_up_self fh1))
              exact w_iret gz_203_64 gm_203 (k1 h22 (v25) (gh22) (by omega) (by omega) (by omega) (by omega) (by omega))
            ·
              by_cases u27 : x2 = 1
              ·
                refine w_tswE (t := 65) gz_203_31 u27 (by decide) (by decide) rfl rfl ?_
                refine w_aload_n gz_203_65 rfl ?_
                refine v_getI (j := 27) gz_203_66 rfl is_151 rd_10 rfl (fun v28 ev28 pv28 qv28 => ?_)
                have c29 := ((my_fr.at frh22 is_151 rfl).trans (my_up_self fh1))
                exact w_iret gz_203_69 gm_203 (k1 h22 (v28) (gh22) (by omega) (by omega) (by omega) (by omega) (by omega))
              ·
                by_cases u30 : x2 = 2
                ·
                  refine w_tswE (t := 70) gz_203_31 u30 (by decide) (by decide) rfl rfl ?_
                  refine w_aload_n gz_203_70 rfl ?_
                  refine w_iload_n gz_203_71 rfl ?_
                  refine w_inv (k := 2) (as := [(0, x1)]) (r := []) (x := 151) (ls0 := [(2, 151), (0, x1), (9, 0), (9, 0)]) gz_203_72 gm_204 rfl is_151 rd_10 rfl rfl rfl rfl rfl (c_Model_panesOf (d := (d + 2)) (x1 := x1) (by omega) (by omega) Mw_h22 (by first | assumption | exact Fp_h22 | exact Fp_told (by omega) (by omega) | omega | (subst_vars; omega) | omega) (fun h31 v32 frh31 => ?_))
                  have gh31 : my_fr [(10, 0), (10, 27), (10, 32), (10, 33), (10, 37), (73, -1), (74, -1), (75, -1), (76, -1), (77, -1), (78, -1), (79, -1), (80, -1), (81, -1), (82, -1), (83, -1), (84, -1), (85, -1), (86, -1)] h h31 := my_fr.tr gh22 (frh31.mo rfl)
                  have Mw_h31 : Mw h31 := Mw_ag (my_ag.fr frh31 rfl) Mw_h22
                  have Mw3_h31 : Mw3 h31 := Mw3_ag (my_ag.fr frh31 rfl) Mw3_h22
                  have Rws_h31 : Rws h31 := Rws_ag (my_ag.fr frh31 rfl) Rws_h22
                  have Fp_h31 : Fp h31 x1 := Fp_ag (my_ag.fr frh31 rfl) Fp_h22
                  show wp l rho (d + 4) 203 75 [(2, 151), (0, x1), (0, x2)] [(0, v32)] h31 Q
                  have c33 := ((my_fr.at frh31 is_151 rfl).trans ((my_fr.at frh22 is_151 rfl).trans (my_up_self fh1)))
                  exact w_iret gz_203_75 gm_203 (k1 h31 (v32) (gh31) (by omega) (by omega) (by omega) (by omega) (by omega))
                ·
                  by_cases u34 : x2 = 3
                  ·
                    refine w_tswE (t := 76) gz_203_31 u34 (by decide) (by decide) rfl rfl ?_
                    refine w_aload_n gz_203_76 rfl ?_
                    refine v_getI (j := 33) gz_203_77 rfl is_151 rd_10 rfl (fun v35 ev35 pv35 qv35 => ?_)
                    have c36 := ((my_fr.at frh22 is_151 rfl).trans (my_up_self fh1))
                    exact w_iret gz_203_80 gm_203 (k1 h22 (v35) (gh22) (by omega) (by omega) (by omega) (by omega) (by omega))
                  ·
                    refine w_tswD (t := 81) gz_203_31 (by omega) rfl ?_
                    refine w_aload_n gz_203_81 rfl ?_
                    refine w_iload_n gz_203_82 rfl ?_
                    refine w_inv (k := 4) (as := [(0, x1)]) (r := []) (x := 151) (ls0 := [(2, 151), (0, x1), (9, 0), (9, 0), (9, 0), (9, 0)]) gz_203_83 gm_205 rfl is_151 rd_10 rfl rfl rfl rfl rfl (c_Model_wallsUnder (d := (d + 2)) (x1 := x1) (by omega) (by omega) Mw_h22 (by first | assumption | exact Fp_h22 | exact Fp_told (by omega) (by omega) | omega | (subst_vars; omega) | omega) (fun h37 v38 frh37 => ?_))
                    have gh37 : my_fr [(10, 0), (10, 27), (10, 32), (10, 33), (10, 37), (73, -1), (74, -1), (75, -1), (76, -1), (77, -1), (78, -1), (79, -1), (80, -1), (81, -1), (82, -1), (83, -1), (84, -1), (85, -1), (86, -1)] h h37 := my_fr.tr gh22 (frh37.mo rfl)
                    have Mw_h37 : Mw h37 := Mw_ag (my_ag.fr frh37 rfl) Mw_h22
                    have Mw3_h37 : Mw3 h37 := Mw3_ag (my_ag.fr frh37 rfl) Mw3_h22
                    have Rws_h37 : Rws h37 := Rws_ag (my_ag.fr frh37 rfl) Rws_h22
                    have Fp_h37 : Fp h37 x1 := Fp_ag (my_ag.fr frh37 rfl) Fp_h22
                    show wp l rho (d + 4) 203 86 [(2, 151), (0, x1), (0, x2)] [(0, v38)] h37 Q
                    have c39 := ((my_fr.at frh37 is_151 rfl).trans ((my_fr.at frh22 is_151 rfl).trans (my_up_self fh1)))
                    exact w_iret gz_203_86 gm_203 (k1 h37 (v38) (gh37) (by omega) (by omega) (by omega) (by omega) (by omega))
theorem c_Model_isEdit {l : Launch} {rho : Nat → Int32} {d : Nat} {h : my_H} {Q : my_H → my_V → Prop} {x1 x2 x3 x4 x5 x6 : Int} (a1 : 0 ≤ x1) (b1 : x1 ≤ 15) (n_Mw : Mw h) (n_Mw3 : Mw3 h) (n_Rws : Rws h) (k0 : ∀ (h' : my_H), my_fr [(10, 27), (10, 32), (10, 33), (10, 37), (73, -1), (74, -1), (75, -1), (76, -1), (77, -1), (78, -1), (79, -1), (80, -1), (81, -1), (82, -1), (83, -1), (84, -1), (85, -1), (86, -1)] h h' → Q h' (0, 0)) (k1 : ∀ (h' : my_H), my_fr [(10, 27), (10, 32), (10, 33), (10, 37), (73, -1), (74, -1), (75, -1), (76, -1), (77, -1), (78, -1), (79, -1), (80, -1), (81, -1), (82, -1), (83, -1), (84, -1), (85, -1), (86, -1)] h h' → 0 ≤ x2 → x2 ≤ 5 → 0 ≤ x3 → x3 ≤ 2 → 0 ≤ x2 → x2 ≤ 5 → Fp h' x2 → 0 ≤ x3 → x3 ≤ 2 → (x3 ≠ 2 → 0 ≤ x4 ∧ x4 < h' 151 37) → (x3 = 0 → 0 ≤ x5 ∧ x5 < h' 151 27 ∧ 0 ≤ x6 ∧ x6 ≤ 199) → FwW h' (h' 151 27) → Q h' (0, 1)) : wp l rho (d + 4) 208 0 [(2, 151), (0, x1), (0, x2), (0, x3), (0, x4), (0, x5), (0, x6), (9, 0)] [] h Q := by
  refine w_aload_n gz_208_0 rfl ?_
  refine w_iload_n gz_208_1 rfl ?_
  refine w_inv (k := 0) (as := [(0, x2)]) (r := []) (x := 151) (ls0 := [(2, 151), (0, x2)]) gz_208_2 gm_193 rfl is_151 rd_10 rfl rfl rfl rfl rfl ?_
  refine w_iload_n gz_193_0 rfl ?_
  refine w_iflt (t := 23) gz_193_1 rfl (fun u1 => ?_) (fun u1 => ?_)
  ·
    refine w_iconst gz_193_23 (by decide) ?_
    refine w_bret gz_193_24 gm_193 (by omega) (by omega) ?_
    show wp l rho (d + 4) 208 5 [(2, 151), (0, x1), (0, x2), (0, x3), (0, x4), (0, x5), (0, x6), (9, 0)] [(0, 0)] h Q
    refine w_ifeq (t := 17) gz_208_5 rfl (fun u2 => ?_) (fun u2 => by exfalso; omega)
    refine w_iconst gz_208_17 (by decide) ?_
    exact w_bret gz_208_18 gm_208 (by omega) (by omega) (k0 h (my_fr.rf))
  ·
    refine w_iload_n gz_193_4 rfl ?_
    refine w_bipush gz_193_5 (by decide) ?_
    refine w_icge (t := 23) gz_193_7 rfl (fun u3 => ?_) (fun u3 => ?_)
    ·
      refine w_iconst gz_193_23 (by decide) ?_
      refine w_bret gz_193_24 gm_193 (by omega) (by omega) ?_
      show wp l rho (d + 4) 208 5 [(2, 151), (0, x1), (0, x2), (0, x3), (0, x4), (0, x5), (0, x6), (9, 0)] [(0, 0)] h Q
      refine w_ifeq (t := 17) gz_208_5 rfl (fun u4 => ?_) (fun u4 => by exfalso; omega)
      refine w_iconst gz_208_17 (by decide) ?_
      exact w_bret gz_208_18 gm_208 (by omega) (by omega) (k0 h (my_fr.rf))
    ·
      refine w_aload_n gz_193_10 rfl ?_
      refine w_getX (v := 164) gz_193_11 is_151 rd_10 rfl (by decide) rfl ?_
      refine w_iload_n gz_193_14 rfl ?_
      refine w_bald gz_193_15 is_164 rd_63 (by omega) (by omega) (fun v6 ev6 pv6 qv6 => ?_)
      refine w_ifeq (t := 23) gz_193_16 rfl (fun u7 => ?_) (fun u7 => ?_)
      ·
        refine w_iconst gz_193_23 (by decide) ?_
        refine w_bret gz_193_24 gm_193 (by omega) (by omega) ?_
        show wp l rho (d + 4) 208 5 [(2, 151), (0, x1), (0, x2), (0, x3), (0, x4), (0, x5), (0, x6), (9, 0)] [(0, 0)] h Q
        refine w_ifeq (t := 17) gz_208_5 rfl (fun u8 => ?_) (fun u8 => by exfalso; omega)
        refine w_iconst gz_208_17 (by decide) ?_
        exact w_bret gz_208_18 gm_208 (by omega) (by omega) (k0 h (my_fr.rf))
      ·
        refine w_iconst gz_193_19 (by decide) ?_
        refine w_goto (t := 24) gz_193_20 rfl ?_
        refine w_bret gz_193_24 gm_193 (by omega) (by omega) ?_
        show wp l rho (d + 4) 208 5 [(2, 151), (0, x1), (0, x2), (0, x3), (0, x4), (0, x5), (0, x6), (9, 0)] [(0, 1)] h Q
        refine w_ifeq (t := 17) gz_208_5 rfl (fun u9 => by exfalso; omega) (fun u9 => ?_)
        refine w_iload_n gz_208_8 rfl ?_
        refine w_iconst gz_208_9 (by decide) ?_
        refine w_iconst gz_208_10 (by decide) ?_
        refine w_inS (k := 0) (as := [(0, 2), (0, 0), (0, x3)]) (r := []) (ls0 := [(0, x3), (0, 0), (0, 2)]) gz_208_11 gm_147 rfl rfl rfl rfl rfl rfl ?_
        refine w_iload_n gz_147_0 rfl ?_
        refine w_iload_n gz_147_1 rfl ?_
        refine w_iclt (t := 14) gz_147_2 rfl (fun u10 => ?_) (fun u10 => ?_)
        ·
          refine w_iconst gz_147_14 (by decide) ?_
          refine w_bret gz_147_15 gm_147 (by omega) (by omega) ?_
          show wp l rho (d + 4) 208 14 [(2, 151), (0, x1), (0, x2), (0, x3), (0, x4), (0, x5), (0, x6), (9, 0)] [(0, 0)] h Q
          refine w_ifne (t := 19) gz_208_14 rfl (fun u11 => by exfalso; omega) (fun u11 => ?_)
          refine w_iconst gz_208_17 (by decide) ?_
          exact w_bret gz_208_18 gm_208 (by omega) (by omega) (k0 h (my_fr.rf))
        ·
          refine w_iload_n gz_147_5 rfl ?_
          refine w_iload_n gz_147_6 rfl ?_
          refine w_icgt (t := 14) gz_147_7 rfl (fun u12 => ?_) (fun u12 => ?_)
          ·
            refine w_iconst gz_147_14 (by decide) ?_
            refine w_bret gz_147_15 gm_147 (by omega) (by omega) ?_
            show wp l rho (d + 4) 208 14 [(2, 151), (0, x1), (0, x2), (0, x3), (0, x4), (0, x5), (0, x6), (9, 0)] [(0, 0)] h Q
            refine w_ifne (t := 19) gz_208_14 rfl (fun u13 => by exfalso; omega) (fun u13 => ?_)
            refine w_iconst gz_208_17 (by decide) ?_
            exact w_bret gz_208_18 gm_208 (by omega) (by omega) (k0 h (my_fr.rf))
          ·
            refine w_iconst gz_147_10 (by decide) ?_
            refine w_goto (t := 15) gz_147_11 rfl ?_
            refine w_bret gz_147_15 gm_147 (by omega) (by omega) ?_
            show wp l rho (d + 4) 208 14 [(2, 151), (0, x1), (0, x2), (0, x3), (0, x4), (0, x5), (0, x6), (9, 0)] [(0, 1)] h Q
            refine w_ifne (t := 19) gz_208_14 rfl (fun u14 => ?_) (fun u14 => by exfalso; omega)
            refine w_aload_n gz_208_19 rfl ?_
            refine w_iload_n gz_208_20 rfl ?_
            refine w_iload_n gz_208_21 rfl ?_
            have Fp_ht15 : Fp h x2 := Fp_told (by omega) (by omega)
            refine w_inv (k := 5) (as := [(0, x2), (0, x1)]) (r := []) (x := 151) (ls0 := [(2, 151), (0, x1), (0, x2), (9, 0), (9, 0), (9, 0), (9, 0), (9, 0)]) gz_208_22 gm_194 rfl is_151 rd_10 rfl rfl rfl rfl rfl (c_Model_shows (d := d) (x1 := x1) (x2 := x2) (by omega) (by omega) (by omega) (by omega) n_Mw n_Mw3 n_Rws (by first | assumption | exact Fp_ht15 | exact Fp_told (by omega) (by omega) | omega | (subst_vars; omega) | omega) (fun h16 frh16 xp17 => ?_))
            have gh16 : my_fr [(10, 27), (10, 32), (10, 33), (10, 37), (73, -1), (74, -1), (75, -1), (76, -1), (77, -1), (78, -1), (79, -1), (80, -1), (81, -1), (82, -1), (83, -1), (84, -1), (85, -1), (86, -1)] h h16 := my_fr.tr my_fr.rf (frh16.mo rfl)
            have Mw_h16 : Mw h16 := Mw_ag (my_ag.fr frh16 rfl) n_Mw
            have Mw3_h16 : Mw3 h16 := Mw3_ag (my_ag.fr frh16 rfl) n_Mw3
            have Rws_h16 : Rws h16 := Rws_ag (my_ag.fr frh16 rfl) n_Rws
            have Fp_h16 : Fp h16 x2 := Fp_ag (my_ag.fr frh16 rfl) Fp_ht15
            show wp l rho (d + 4) 208 25 [(2, 151), (0, x1), (0, x2), (0, x3), (0, x4), (0, x5), (0, x6), (9, 0)] [] h16 Q
            have fwz := xp17
            refine w_iload_n gz_208_25 rfl ?_
            refine w_iconst gz_208_26 (by decide) ?_
            refine w_iceq (t := 45) gz_208_27 rfl (fun u18 => ?_) (fun u18 => ?_)
            ·
              refine w_iconst gz_208_45 (by decide) ?_
              refine w_goto (t := 50) gz_208_46 rfl ?_
              refine w_istore (ls' := [(2, 151), (0, x1), (0, x2), (0, x3), (0, x4), (0, x5), (0, x6), (0, 1)]) gz_208_50 gm_208 rfl rfl rfl ?_
              refine w_iload gz_208_52 rfl ?_
              refine w_ifeq (t := 92) gz_208_54 rfl (fun u19 => by exfalso; omega) (fun u19 => ?_)
              refine w_iload_n gz_208_57 rfl ?_
              refine w_ifgt (t := 88) gz_208_58 rfl (fun u20 => ?_) (fun u20 => by exfalso; omega)
              refine w_iconst gz_208_88 (by decide) ?_
              refine w_goto (t := 93) gz_208_89 rfl ?_
              exact w_bret gz_208_93 gm_208 (by omega) (by omega) (k1 h16 (gh16) (by omega) (by omega) (by omega) (by omega) (by first | omega | exact Fp_h16 | exact fwz | omega) (by first | omega | exact Fp_h16 | exact fwz | omega) (by first | omega | exact Fp_h16 | exact fwz | omega) (by first | omega | exact Fp_h16 | exact fwz | omega) (by first | omega | exact Fp_h16 | exact fwz | omega) (by first | omega | exact Fp_h16 | exact fwz | omega) (by first | omega | exact Fp_h16 | exact fwz | omega) (by first | omega | exact Fp_h16 | exact fwz | omega))
            ·
              refine w_iload gz_208_30 rfl ?_
              refine w_iconst gz_208_32 (by decide) ?_
              refine w_aload_n gz_208_33 rfl ?_
              refine v_getI (j := 37) gz_208_34 rfl is_151 rd_10 rfl (fun v21 ev21 pv21 qv21 => ?_)
              refine w_iconst gz_208_37 (by decide) ?_
              refine w_isub gz_208_38 ⟨by omega, by omega⟩ ?_
              refine w_inS (k := 0) (as := [(0, (v21 - 1)), (0, 0), (0, x4)]) (r := []) (ls0 := [(0, x4), (0, 0), (0, (v21 - 1))]) gz_208_39 gm_147 rfl rfl rfl rfl rfl rfl ?_
              refine w_iload_n gz_147_0 rfl ?_
              refine w_iload_n gz_147_1 rfl ?_
              refine w_iclt (t := 14) gz_147_2 rfl (fun u22 => ?_) (fun u22 => ?_)
              ·
                refine w_iconst gz_147_14 (by decide) ?_
                refine w_bret gz_147_15 gm_147 (by omega) (by omega) ?_
                show wp l rho (d + 4) 208 42 [(2, 151), (0, x1), (0, x2), (0, x3), (0, x4), (0, x5), (0, x6), (9, 0)] [(0, 0)] h16 Q
                refine w_ifeq (t := 49) gz_208_42 rfl (fun u23 => ?_) (fun u23 => by exfalso; omega)
                refine w_iconst gz_208_49 (by decide) ?_
                refine w_istore (ls' := [(2, 151), (0, x1), (0, x2), (0, x3), (0, x4), (0, x5), (0, x6), (0, 0)]) gz_208_50 gm_208 rfl rfl rfl ?_
                refine w_iload gz_208_52 rfl ?_
                refine w_ifeq (t := 92) gz_208_54 rfl (fun u24 => ?_) (fun u24 => by exfalso; omega)
                refine w_iconst gz_208_92 (by decide) ?_
                exact w_bret gz_208_93 gm_208 (by omega) (by omega) (k0 h16 (gh16))
              ·
                refine w_iload_n gz_147_5 rfl ?_
                refine w_iload_n gz_147_6 rfl ?_
                refine w_icgt (t := 14) gz_147_7 rfl (fun u25 => ?_) (fun u25 => ?_)
                ·
                  refine w_iconst gz_147_14 (by decide) ?_
                  refine w_bret gz_147_15 gm_147 (by omega) (by omega) ?_
                  show wp l rho (d + 4) 208 42 [(2, 151), (0, x1), (0, x2), (0, x3), (0, x4), (0, x5), (0, x6), (9, 0)] [(0, 0)] h16 Q
                  refine w_ifeq (t := 49) gz_208_42 rfl (fun u26 => ?_) (fun u26 => by exfalso; omega)
                  refine w_iconst gz_208_49 (by decide) ?_
                  refine w_istore (ls' := [(2, 151), (0, x1), (0, x2), (0, x3), (0, x4), (0, x5), (0, x6), (0, 0)]) gz_208_50 gm_208 rfl rfl rfl ?_
                  refine w_iload gz_208_52 rfl ?_
                  refine w_ifeq (t := 92) gz_208_54 rfl (fun u27 => ?_) (fun u27 => by exfalso; omega)
                  refine w_iconst gz_208_92 (by decide) ?_
                  exact w_bret gz_208_93 gm_208 (by omega) (by omega) (k0 h16 (gh16))
                ·
                  refine w_iconst gz_147_10 (by decide) ?_
                  refine w_goto (t := 15) gz_147_11 rfl ?_
                  refine w_bret gz_147_15 gm_147 (by omega) (by omega) ?_
                  show wp l rho (d + 4) 208 42 [(2, 151), (0, x1), (0, x2), (0, x3), (0, x4), (0, x5), (0, x6), (9, 0)] [(0, 1)] h16 Q
                  refine w_ifeq (t := 49) gz_208_42 rfl (fun u28 => by exfalso; omega) (fun u28 => ?_)
                  refine w_iconst gz_208_45 (by decide) ?_
                  refine w_goto (t := 50) gz_208_46 rfl ?_
                  refine w_istore (ls' := [(2, 151), (0, x1), (0, x2), (0, x3), (0, x4), (0, x5), (0, x6), (0, 1)]) gz_208_50 gm_208 rfl rfl rfl ?_
                  refine w_iload gz_208_52 rfl ?_
                  refine w_ifeq (t := 92) gz_208_54 rfl (fun u29 => by exfalso; omega) (fun u29 => ?_)
                  refine w_iload_n gz_208_57 rfl ?_
                  refine w_ifgt (t := 88) gz_208_58 rfl (fun u30 => ?_) (fun u30 => ?_)
                  ·
                    refine w_iconst gz_208_88 (by decide) ?_
                    refine w_goto (t := 93) gz_208_89 rfl ?_
                    exact w_bret gz_208_93 gm_208 (by omega) (by omega) (k1 h16 (gh16) (by omega) (by omega) (by omega) (by omega) (by first | omega | exact Fp_h16 | exact fwz | omega) (by first | omega | exact Fp_h16 | exact fwz | omega) (by first | omega | exact Fp_h16 | exact fwz | omega) (by first | omega | exact Fp_h16 | exact fwz | omega) (by first | omega | exact Fp_h16 | exact fwz | omega) (by first | omega | exact Fp_h16 | exact fwz | omega) (by first | omega | exact Fp_h16 | exact fwz | omega) (by first | omega | exact Fp_h16 | exact fwz | omega))
                  ·
                    refine w_iload gz_208_61 rfl ?_
                    refine w_iconst gz_208_63 (by decide) ?_
                    refine w_aload_n gz_208_64 rfl ?_
                    refine v_getI (j := 27) gz_208_65 rfl is_151 rd_10 rfl (fun v31 ev31 pv31 qv31 => ?_)
                    refine w_iconst gz_208_68 (by decide) ?_
                    refine w_isub gz_208_69 ⟨by omega, by omega⟩ ?_
                    refine w_inS (k := 0) (as := [(0, (v31 - 1)), (0, 0), (0, x5)]) (r := []) (ls0 := [(0, x5), (0, 0), (0, (v31 - 1))]) gz_208_70 gm_147 rfl rfl rfl rfl rfl rfl ?_
                    refine w_iload_n gz_147_0 rfl ?_
                    refine w_iload_n gz_147_1 rfl ?_
                    refine w_iclt (t := 14) gz_147_2 rfl (fun u32 => ?_) (fun u32 => ?_)
                    ·
                      refine w_iconst gz_147_14 (by decide) ?_
                      refine w_bret gz_147_15 gm_147 (by omega) (by omega) ?_
                      show wp l rho (d + 4) 208 73 [(2, 151), (0, x1), (0, x2), (0, x3), (0, x4), (0, x5), (0, x6), (0, 1)] [(0, 0)] h16 Q
                      refine w_ifeq (t := 92) gz_208_73 rfl (fun u33 => ?_) (fun u33 => by exfalso; omega)
                      refine w_iconst gz_208_92 (by decide) ?_
                      exact w_bret gz_208_93 gm_208 (by omega) (by omega) (k0 h16 (gh16))
                    ·
                      refine w_iload_n gz_147_5 rfl ?_
                      refine w_iload_n gz_147_6 rfl ?_
                      refine w_icgt (t := 14) gz_147_7 rfl (fun u34 => ?_) (fun u34 => ?_)
                      ·
                        refine w_iconst gz_147_14 (by decide) ?_
                        refine w_bret gz_147_15 gm_147 (by omega) (by omega) ?_
                        show wp l rho (d + 4) 208 73 [(2, 151), (0, x1), (0, x2), (0, x3), (0, x4), (0, x5), (0, x6), (0, 1)] [(0, 0)] h16 Q
                        refine w_ifeq (t := 92) gz_208_73 rfl (fun u35 => ?_) (fun u35 => by exfalso; omega)
                        refine w_iconst gz_208_92 (by decide) ?_
                        exact w_bret gz_208_93 gm_208 (by omega) (by omega) (k0 h16 (gh16))
                      ·
                        refine w_iconst gz_147_10 (by decide) ?_
                        refine w_goto (t := 15) gz_147_11 rfl ?_
                        refine w_bret gz_147_15 gm_147 (by omega) (by omega) ?_
                        show wp l rho (d + 4) 208 73 [(2, 151), (0, x1), (0, x2), (0, x3), (0, x4), (0, x5), (0, x6), (0, 1)] [(0, 1)] h16 Q
                        refine w_ifeq (t := 92) gz_208_73 rfl (fun u36 => by exfalso; omega) (fun u36 => ?_)
                        refine w_iload gz_208_76 rfl ?_
                        refine w_iconst gz_208_78 (by decide) ?_
                        refine w_sipush gz_208_79 (by decide) ?_
                        refine w_inS (k := 0) (as := [(0, 199), (0, 0), (0, x6)]) (r := []) (ls0 := [(0, x6), (0, 0), (0, 199)]) gz_208_82 gm_147 rfl rfl rfl rfl rfl rfl ?_
                        refine w_iload_n gz_147_0 rfl ?_
                        refine w_iload_n gz_147_1 rfl ?_
                        refine w_iclt (t := 14) gz_147_2 rfl (fun u37 => ?_) (fun u37 => ?_)
                        ·
                          refine w_iconst gz_147_14 (by decide) ?_
                          refine w_bret gz_147_15 gm_147 (by omega) (by omega) ?_
                          show wp l rho (d + 4) 208 85 [(2, 151), (0, x1), (0, x2), (0, x3), (0, x4), (0, x5), (0, x6), (0, 1)] [(0, 0)] h16 Q
                          refine w_ifeq (t := 92) gz_208_85 rfl (fun u38 => ?_) (fun u38 => by exfalso; omega)
                          refine w_iconst gz_208_92 (by decide) ?_
                          exact w_bret gz_208_93 gm_208 (by omega) (by omega) (k0 h16 (gh16))
                        ·
                          refine w_iload_n gz_147_5 rfl ?_
                          refine w_iload_n gz_147_6 rfl ?_
                          refine w_icgt (t := 14) gz_147_7 rfl (fun u39 => ?_) (fun u39 => ?_)
                          ·
                            refine w_iconst gz_147_14 (by decide) ?_
                            refine w_bret gz_147_15 gm_147 (by omega) (by omega) ?_
                            show wp l rho (d + 4) 208 85 [(2, 151), (0, x1), (0, x2), (0, x3), (0, x4), (0, x5), (0, x6), (0, 1)] [(0, 0)] h16 Q
                            refine w_ifeq (t := 92) gz_208_85 rfl (fun u40 => ?_) (fun u40 => by exfalso; omega)
                            refine w_iconst gz_208_92 (by decide) ?_
                            exact w_bret gz_208_93 gm_208 (by omega) (by omega) (k0 h16 (gh16))
                          ·
                            refine w_iconst gz_147_10 (by decide) ?_
                            refine w_goto (t := 15) gz_147_11 rfl ?_
                            refine w_bret gz_147_15 gm_147 (by omega) (by omega) ?_
                            show wp l rho (d + 4) 208 85 [(2, 151), (0, x1), (0, x2), (0, x3), (0, x4), (0, x5), (0, x6), (0, 1)] [(0, 1)] h16 Q
                            refine w_ifeq (t := 92) gz_208_85 rfl (fun u41 => by exfalso; omega) (fun u41 => ?_)
                            refine w_iconst gz_208_88 (by decide) ?_
                            refine w_goto (t := 93) gz_208_89 rfl ?_
                            exact w_bret gz_208_93 gm_208 (by omega) (by omega) (k1 h16 (gh16) (by omega) (by omega) (by omega) (by omega) (by first | omega | exact Fp_h16 | exact fwz | omega) (by first | omega | exact Fp_h16 | exact fwz | omega) (by first | omega | exact Fp_h16 | exact fwz | omega) (by first | omega | exact Fp_h16 | exact fwz | omega) (by first | omega | exact Fp_h16 | exact fwz | omega) (by first | omega | exact Fp_h16 | exact fwz | omega) (by first | omega | exact Fp_h16 | exact fwz | omega) (by first | omega | exact Fp_h16 | exact fwz | omega))
theorem c_Model_isWanted {l : Launch} {rho : Nat → Int32} {d : Nat} {h : my_H} {Q : my_H → my_V → Prop} {x1 x2 : Int} (a1 : 0 ≤ x1) (b1 : x1 ≤ 15) (a2 : 0 ≤ x2) (b2 : x2 ≤ 5) (n_Mw : Mw h) (n_Mw3 : Mw3 h) (n_Rws : Rws h) (n_Fp : Fp h x2) (k0 : ∀ (h' : my_H) (y : Int), my_fr [(10, 27), (10, 32), (10, 33), (10, 37), (73, -1), (74, -1), (75, -1), (76, -1), (77, -1), (78, -1), (79, -1), (80, -1), (81, -1), (82, -1), (83, -1), (84, -1), (85, -1), (86, -1)] h h' → 0 ≤ y → y ≤ 1 → Q h' (0, y)) : wp l rho (d + 4) 213 0 [(2, 151), (0, x1), (0, x2), (9, 0), (9, 0), (9, 0)] [] h Q := by
  have J26_0 : ∀ (n : Nat) (p26_0 p26_1 p26_2 p26_3 : Int) (h26_0 : my_H), my_fr [(10, 27), (10, 32), (10, 33), (10, 37), (73, -1), (74, -1), (75, -1), (76, -1), (77, -1), (78, -1), (79, -1), (80, -1), (81, -1), (82, -1), (83, -1), (84, -1), (85, -1), (86, -1)] h h26_0 → 0 ≤ p26_0 → p26_0 ≤ 1 → 0 ≤ p26_1 → p26_1 ≤ 10 → 0 ≤ p26_2 → p26_2 ≤ 10 → 0 ≤ p26_3 → p26_3 ≤ 11 → p26_1 ≤ p26_2 → h26_0 151 37 = p26_2 → h26_0 151 46 = p26_3 → Mw h26_0 → Mw3 h26_0 → Rws h26_0 → Fp h26_0 x2 → 11 - p26_1 ≤ (n : Int) → wp l rho (d + 4) 213 26 [(2, 151), (0, x1), (0, x2), (0, p26_0), (0, p26_1), (9, 0)] [] h26_0 Q := by
    intro n
    induction n with
    | zero => intro p26_0 p26_1 p26_2 p26_3 h26_0 gh_26_0 q0_26_0 q1_26_0 q2_26_0 q3_26_0 q4_26_0 q5_26_0 q6_26_0 q7_26_0 q8_26_0 c151_37_26_0 c151_46_26_0 n_Mw_26_0 n_Mw3_26_0 n_Rws_26_0 n_Fp_26_0 hm_26_0; exfalso; omega
    | succ n ih_26_0 =>
      intro p26_0 p26_1 p26_2 p26_3 h26_0 gh_26_0 q0_26_0 q1_26_0 q2_26_0 q3_26_0 q4_26_0 q5_26_0 q6_26_0 q7_26_0 q8_26_0 c151_37_26_0 c151_46_26_0 n_Mw_26_0 n_Mw3_26_0 n_Rws_26_0 n_Fp_26_0 hm_26_0
      have J42_0 : ∀ (n : Nat) (p42_0 p42_1 : Int) (h42_0 : my_H), my_fr [(10, 27), (10, 32), (10, 33), (10, 37), (73, -1), (74, -1), (75, -1), (76, -1), (77, -1), (78, -1), (79, -1), (80, -1), (81, -1), (82, -1), (83, -1), (84, -1), (85, -1), (86, -1)] h h42_0 → 0 ≤ p42_0 → p42_0 ≤ 1 → p26_1 ≤ 9 → 0 ≤ p42_1 → p42_1 ≤ 8 → 1 ≤ p26_2 → 1 ≤ p26_0 → p26_1 ≤ (p26_2 - 1) → h42_0 151 37 = p26_2 → h42_0 151 46 = p26_3 → Mw h42_0 → Mw3 h42_0 → Rws h42_0 → Fp h42_0 x2 → 9 - p42_1 ≤ (n : Int) → wp l rho (d + 4) 213 42 [(2, 151), (0, x1), (0, x2), (0, p42_0), (0, p26_1), (0, p42_1)] [] h42_0 Q := by
        intro n
        induction n with
        | zero => intro p42_0 p42_1 h42_0 gh_42_0 q0_42_0 q1_42_0 q2_42_0 q3_42_0 q4_42_0 q5_42_0 q6_42_0 q7_42_0 c151_37_42_0 c151_46_42_0 n_Mw_42_0 n_Mw3_42_0 n_Rws_42_0 n_Fp_42_0 hm_42_0; exfalso; omega
        | succ n ih_42_0 =>
          intro p42_0 p42_1 h42_0 gh_42_0 q0_42_0 q1_42_0 q2_42_0 q3_42_0 q4_42_0 q5_42_0 q6_42_0 q7_42_0 c151_37_42_0 c151_46_42_0 n_Mw_42_0 n_Mw3_42_0 n_Rws_42_0 n_Fp_42_0 hm_42_0
          have J88_0 : ∀ (p88_0 p88_1 : Int) (h88_0 : my_H), my_fr [(10, 27), (10, 32), (10, 33), (10, 37), (73, -1), (74, -1), (75, -1), (76, -1), (77, -1), (78, -1), (79, -1), (80, -1), (81, -1), (82, -1), (83, -1), (84, -1), (85, -1), (86, -1)] h h88_0 → 0 ≤ p88_0 → p88_0 ≤ 1 → p42_1 ≤ 7 → 1 ≤ p88_1 → p88_1 ≤ 8 → p88_0 ≤ p42_0 → p26_1 ≤ (p26_2 - 1) → p42_1 ≤ (p88_1 - 1) → p42_0 ≤ p88_0 → h88_0 151 27 = p88_1 → h88_0 151 37 = p26_2 → h88_0 151 46 = p26_3 → Mw h88_0 → Mw3 h88_0 → Rws h88_0 → Fp h88_0 x2 → wp l rho (d + 4) 213 88 [(2, 151), (0, x1), (0, x2), (0, p88_0), (0, p26_1), (0, p42_1)] [] h88_0 Q := by
            intro p88_0 p88_1 h88_0 gh_88_0 q0_88_0 q1_88_0 q2_88_0 q3_88_0 q4_88_0 q5_88_0 q6_88_0 q7_88_0 q8_88_0 c151_27_88_0 c151_37_88_0 c151_46_88_0 n_Mw_88_0 n_Mw3_88_0 n_Rws_88_0 n_Fp_88_0
            refine w_iconst gz_213_88 (by decide) ?_
            refine w_istore_n (ls' := [(2, 151), (0, x1), (0, x2), (0, 0), (0, p26_1), (0, p42_1)]) gz_213_89 gm_213 rfl rfl rfl ?_
            refine w_iinc (ls' := [(2, 151), (0, x1), (0, x2), (0, 0), (0, p26_1), (0, (p42_1 + 1))]) gz_213_90 rfl gm_213 rfl rfl rfl ⟨by omega, by omega⟩ ?_
            refine w_goto (t := 42) gz_213_93 rfl ?_
            exact ih_42_0 (0) ((p42_1 + 1)) h88_0 (gh_88_0) (by omega) (by omega) (by omega) (by omega) (by omega) (by omega) (by omega) (by omega) (c151_37_88_0.trans (by omega)) (c151_46_88_0.trans (by omega)) n_Mw_88_0 n_Mw3_88_0 n_Rws_88_0 n_Fp_88_0 (by omega)
          refine w_iload gz_213_42 rfl ?_
          refine w_aload_n gz_213_44 rfl ?_
          refine v_getI (j := 27) gz_213_45 rfl is_151 rd_10 rfl (fun v1 ev1 pv1 qv1 => ?_)
          refine w_icge (t := 96) gz_213_48 rfl (fun u2 => ?_) (fun u2 => ?_)
          ·
            refine w_iinc (ls' := [(2, 151), (0, x1), (0, x2), (0, p42_0), (0, (p26_1 + 1)), (0, p42_1)]) gz_213_96 rfl gm_213 rfl rfl rfl ⟨by omega, by omega⟩ ?_
            refine w_goto (t := 26) gz_213_99 rfl ?_
            refine w_weak (ls' := [(2, 151), (0, x1), (0, x2), (0, p42_0), (0, (p26_1 + 1)), (9, 0)]) (wk_e (wk_e (wk_e (wk_e (wk_e (wk_9 wk_n)))))) ?_
            exact ih_26_0 (p42_0) ((p26_1 + 1)) (p26_2) (p26_3) h42_0 (gh_42_0) (by omega) (by omega) (by omega) (by omega) (by omega) (by omega) (by omega) (by omega) (by omega) (c151_37_42_0.trans (by omega)) (c151_46_42_0.trans (by omega)) n_Mw_42_0 n_Mw3_42_0 n_Rws_42_0 n_Fp_42_0 (by omega)
          ·
            refine w_iload_n gz_213_51 rfl ?_
            refine w_ifeq (t := 88) gz_213_52 rfl (fun u3 => ?_) (fun u3 => ?_)
            ·
              exact J88_0 (p42_0) (v1) h42_0 (gh_42_0) (by omega) (by omega) (by omega) (by omega) (by omega) (by omega) (by omega) (by omega) (by omega) (ev1.symm.trans (by omega)) (c151_37_42_0.trans (by omega)) (c151_46_42_0.trans (by omega)) n_Mw_42_0 n_Mw3_42_0 n_Rws_42_0 n_Fp_42_0
            ·
              refine w_aload_n gz_213_55 rfl ?_
              refine w_getX (v := 182) gz_213_56 is_151 rd_10 rfl (by decide) rfl ?_
              refine w_bipush gz_213_59 (by decide) ?_
              refine w_iload gz_213_61 rfl ?_
              refine w_imul gz_213_63 ⟨by omega, by omega⟩ ?_
              refine w_iload gz_213_64 rfl ?_
              refine w_iadd gz_213_66 ⟨by omega, by omega⟩ ?_
              refine w_iald gz_213_67 is_182 rd_81 (by omega) (by omega) (fun v5 ev5 pv5 qv5 => ?_)
              refine w_aload_n gz_213_68 rfl ?_
              refine w_getX (v := 189) gz_213_69 is_151 rd_10 rfl (by decide) rfl ?_
              refine w_bipush gz_213_72 (by decide) ?_
              refine w_iload gz_213_74 rfl ?_
              refine w_imul gz_213_76 ⟨by omega, by omega⟩ ?_
              refine w_iload gz_213_77 rfl ?_
              refine w_iadd gz_213_79 ⟨by omega, by omega⟩ ?_
              refine w_iald gz_213_80 is_189 rd_88 (by omega) (by omega) (fun v7 ev7 pv7 qv7 => ?_)
              refine w_icne (t := 88) gz_213_81 rfl (fun u8 => ?_) (fun u8 => ?_)
              ·
                exact J88_0 (p42_0) (v1) h42_0 (gh_42_0) (by omega) (by omega) (by omega) (by omega) (by omega) (by omega) (by omega) (by omega) (by omega) (ev1.symm.trans (by omega)) (c151_37_42_0.trans (by omega)) (c151_46_42_0.trans (by omega)) n_Mw_42_0 n_Mw3_42_0 n_Rws_42_0 n_Fp_42_0
              ·
                refine w_iconst gz_213_84 (by decide) ?_
                refine w_goto (t := 89) gz_213_85 rfl ?_
                refine w_istore_n (ls' := [(2, 151), (0, x1), (0, x2), (0, 1), (0, p26_1), (0, p42_1)]) gz_213_89 gm_213 rfl rfl rfl ?_
                refine w_iinc (ls' := [(2, 151), (0, x1), (0, x2), (0, 1), (0, p26_1), (0, (p42_1 + 1))]) gz_213_90 rfl gm_213 rfl rfl rfl ⟨by omega, by omega⟩ ?_
                refine w_goto (t := 42) gz_213_93 rfl ?_
                exact ih_42_0 (1) ((p42_1 + 1)) h42_0 (gh_42_0) (by omega) (by omega) (by omega) (by omega) (by omega) (by omega) (by omega) (by omega) (c151_37_42_0.trans (by omega)) (c151_46_42_0.trans (by omega)) n_Mw_42_0 n_Mw3_42_0 n_Rws_42_0 n_Fp_42_0 (by omega)
      refine w_iload gz_213_26 rfl ?_
      refine w_aload_n gz_213_28 rfl ?_
      refine v_getI (j := 37) gz_213_29 rfl is_151 rd_10 rfl (fun v9 ev9 pv9 qv9 => ?_)
      have zv9 := ev9.trans c151_37_26_0
      refine w_icge (t := 102) gz_213_32 rfl (fun u10 => ?_) (fun u10 => ?_)
      ·
        refine w_iload_n gz_213_102 rfl ?_
        exact w_bret gz_213_103 gm_213 (by omega) (by omega) (k0 h26_0 (p26_0) (gh_26_0) (by omega) (by omega))
      ·
        refine w_iload_n gz_213_35 rfl ?_
        refine w_ifeq (t := 102) gz_213_36 rfl (fun u11 => ?_) (fun u11 => ?_)
        ·
          refine w_iload_n gz_213_102 rfl ?_
          exact w_bret gz_213_103 gm_213 (by omega) (by omega) (k0 h26_0 (p26_0) (gh_26_0) (by omega) (by omega))
        ·
          refine w_iconst gz_213_39 (by decide) ?_
          refine w_istore (ls' := [(2, 151), (0, x1), (0, x2), (0, p26_0), (0, p26_1), (0, 0)]) gz_213_40 gm_213 rfl rfl rfl ?_
          exact J42_0 9 (p26_0) (0) h26_0 (gh_26_0) (by omega) (by omega) (by omega) (by omega) (by omega) (by omega) (by omega) (by omega) (ev9.symm.trans (by omega)) (c151_46_26_0.trans (by omega)) n_Mw_26_0 n_Mw3_26_0 n_Rws_26_0 n_Fp_26_0 (by omega)
  refine w_aload_n gz_213_0 rfl ?_
  refine w_iload_n gz_213_1 rfl ?_
  refine w_iload_n gz_213_2 rfl ?_
  refine w_inv (k := 5) (as := [(0, x2), (0, x1)]) (r := []) (x := 151) (ls0 := [(2, 151), (0, x1), (0, x2), (9, 0), (9, 0), (9, 0), (9, 0), (9, 0)]) gz_213_3 gm_194 rfl is_151 rd_10 rfl rfl rfl rfl rfl (c_Model_shows (d := d) (x1 := x1) (x2 := x2) (by omega) (by omega) (by omega) (by omega) n_Mw n_Mw3 n_Rws (by first | assumption | exact n_Fp | exact Fp_told (by omega) (by omega) | omega | (subst_vars; omega) | omega) (fun h12 frh12 xp13 => ?_))
  have gh12 : my_fr [(10, 27), (10, 32), (10, 33), (10, 37), (73, -1), (74, -1), (75, -1), (76, -1), (77, -1), (78, -1), (79, -1), (80, -1), (81, -1), (82, -1), (83, -1), (84, -1), (85, -1), (86, -1)] h h12 := my_fr.tr my_fr.rf (frh12.mo rfl)
  have Mw_h12 : Mw h12 := Mw_ag (my_ag.fr frh12 rfl) n_Mw
  have Mw3_h12 : Mw3 h12 := Mw3_ag (my_ag.fr frh12 rfl) n_Mw3
  have Rws_h12 : Rws h12 := Rws_ag (my_ag.fr frh12 rfl) n_Rws
  have Fp_h12 : Fp h12 x2 := Fp_ag (my_ag.fr frh12 rfl) n_Fp
  show wp l rho (d + 4) 213 6 [(2, 151), (0, x1), (0, x2), (9, 0), (9, 0), (9, 0)] [] h12 Q
  refine w_aload_n gz_213_6 rfl ?_
  refine v_getI (j := 37) gz_213_7 rfl is_151 rd_10 rfl (fun v14 ev14 pv14 qv14 => ?_)
  refine w_aload_n gz_213_10 rfl ?_
  refine v_getI (j := 46) gz_213_11 rfl is_151 rd_10 rfl (fun v15 ev15 pv15 qv15 => ?_)
  refine w_icne (t := 21) gz_213_14 rfl (fun u16 => ?_) (fun u16 => ?_)
  ·
    refine w_iconst gz_213_21 (by decide) ?_
    refine w_istore_n (ls' := [(2, 151), (0, x1), (0, x2), (0, 0), (9, 0), (9, 0)]) gz_213_22 gm_213 rfl rfl rfl ?_
    refine w_iconst gz_213_23 (by decide) ?_
    refine w_istore (ls' := [(2, 151), (0, x1), (0, x2), (0, 0), (0, 0), (9, 0)]) gz_213_24 gm_213 rfl rfl rfl ?_
    exact J26_0 11 (0) (0) (v14) (v15) h12 (gh12) (by omega) (by omega) (by omega) (by omega) (by omega) (by omega) (by omega) (by omega) (by omega) (ev14.symm.trans (by omega)) (ev15.symm.trans (by omega)) Mw_h12 Mw3_h12 Rws_h12 Fp_h12 (by omega)
  ·
    refine w_iconst gz_213_17 (by decide) ?_
    refine w_goto (t := 22) gz_213_18 rfl ?_
    refine w_istore_n (ls' := [(2, 151), (0, x1), (0, x2), (0, 1), (9, 0), (9, 0)]) gz_213_22 gm_213 rfl rfl rfl ?_
    refine w_iconst gz_213_23 (by decide) ?_
    refine w_istore (ls' := [(2, 151), (0, x1), (0, x2), (0, 1), (0, 0), (9, 0)]) gz_213_24 gm_213 rfl rfl rfl ?_
    exact J26_0 11 (1) (0) (v14) (v15) h12 (gh12) (by omega) (by omega) (by omega) (by omega) (by omega) (by omega) (by omega) (by omega) (by omega) (ev14.symm.trans (by omega)) (ev15.symm.trans (by omega)) Mw_h12 Mw3_h12 Rws_h12 Fp_h12 (by omega)
theorem c_Model_findValues {l : Launch} {rho : Nat → Int32} {d : Nat} {h : my_H} {Q : my_H → my_V → Prop} {x1 x2 x3 : Int} (a1 : 0 ≤ x1) (b1 : x1 ≤ 5) (a2 : 0 ≤ x2) (b2 : x2 ≤ 59) (a3 : 1 ≤ x3) (b3 : x3 ≤ 3) (n_Mw : Mw h) (n_Mw3 : Mw3 h) (n_Rws : Rws h) (n_Fp : Fp h x1) (n_Wys : Wys h) (hw : h 151 48 ≤ 1780) (k0 : ∀ (h' : my_H), my_fr [(10, 27), (10, 32), (10, 33), (10, 37), (10, 48), (62, -1), (73, -1), (74, -1), (75, -1), (76, -1), (77, -1), (78, -1), (79, -1), (80, -1), (81, -1), (82, -1), (83, -1), (84, -1), (85, -1), (86, -1), (89, -1), (90, -1), (91, -1), (92, -1), (93, -1)] h h' → h' 151 48 ≤ h 151 48 + 19 → Wys h' → Q h' (9, 0)) : wp l rho (d + 5) 215 0 [(2, 151), (0, x1), (0, x2), (0, x3), (9, 0), (9, 0), (9, 0)] [] h Q := by
  refine v_know (x := 151) (j := 48) (b := 48) rfl is_151 rd_10 rfl (fun k151_48 ek151_48 pk151_48 qk151_48 => ?_)
  have J23_0 : ∀ (n : Nat) (p23_0 p23_1 p23_2 p23_3 : Int) (h23_0 : my_H), my_fr [(10, 27), (10, 32), (10, 33), (10, 37), (10, 48), (62, -1), (73, -1), (74, -1), (75, -1), (76, -1), (77, -1), (78, -1), (79, -1), (80, -1), (81, -1), (82, -1), (83, -1), (84, -1), (85, -1), (86, -1), (89, -1), (90, -1), (91, -1), (92, -1), (93, -1)] h h23_0 → 1921 ≤ p23_0 → p23_0 ≤ 2159 → 0 ≤ p23_1 → p23_1 ≤ 19 → 0 ≤ p23_2 → p23_2 ≤ 20 → 0 ≤ p23_3 → p23_3 ≤ 1800 → h23_0 151 48 = p23_3 → Mw h23_0 → Mw3 h23_0 → Rws h23_0 → Fp h23_0 x1 → Wys h23_0 → h23_0 151 48 ≤ h 151 48 + p23_2 → (p23_1 < p23_2 → h23_0 151 48 + 1 ≤ h 151 48 + p23_2) → 21 - p23_2 ≤ (n : Int) → wp l rho (d + 5) 215 23 [(2, 151), (0, x1), (0, x2), (0, x3), (0, p23_0), (0, p23_1), (0, p23_2)] [] h23_0 Q := by
    intro n
    induction n with
    | zero => intro p23_0 p23_1 p23_2 p23_3 h23_0 gh_23_0 q0_23_0 q1_23_0 q2_23_0 q3_23_0 q4_23_0 q5_23_0 q6_23_0 q7_23_0 c151_48_23_0 n_Mw_23_0 n_Mw3_23_0 n_Rws_23_0 n_Fp_23_0 n_Wys_23_0 wb_23_0 wc_23_0 hm_23_0; exfalso; omega
    | succ n ih_23_0 =>
      intro p23_0 p23_1 p23_2 p23_3 h23_0 gh_23_0 q0_23_0 q1_23_0 q2_23_0 q3_23_0 q4_23_0 q5_23_0 q6_23_0 q7_23_0 c151_48_23_0 n_Mw_23_0 n_Mw3_23_0 n_Rws_23_0 n_Fp_23_0 n_Wys_23_0 wb_23_0 wc_23_0 hm_23_0
      refine w_iload gz_215_23 rfl ?_
      refine w_bipush gz_215_25 (by decide) ?_
      refine w_icge (t := 87) gz_215_27 rfl (fun u1 => ?_) (fun u1 => ?_)
      ·
        refine w_aload_n gz_215_87 rfl ?_
        refine w_getX (v := 163) gz_215_88 is_151 rd_10 rfl (by decide) rfl ?_
        refine w_iload gz_215_91 rfl ?_
        refine w_iload gz_215_93 rfl ?_
        refine w_iast gz_215_95 is_163 rd_62 (by omega) (by omega) (by omega) (by omega) (fun h3 fh3 => ?_)
        have gh3 : my_fr [(10, 27), (10, 32), (10, 33), (10, 37), (10, 48), (62, -1), (73, -1), (74, -1), (75, -1), (76, -1), (77, -1), (78, -1), (79, -1), (80, -1), (81, -1), (82, -1), (83, -1), (84, -1), (85, -1), (86, -1), (89, -1), (90, -1), (91, -1), (92, -1), (93, -1)] h h3 := my_fr.up gh_23_0 is_163 fh3 rfl
        have Mw_h3 : Mw h3 := Mw_ag (my_ag.up fh3 is_163 rfl) n_Mw_23_0
        have Mw3_h3 : Mw3 h3 := Mw3_ag (my_ag.up fh3 is_163 rfl) n_Mw3_23_0
        have Rws_h3 : Rws h3 := Rws_ag (my_ag.up fh3 is_163 rfl) n_Rws_23_0
        have Fp_h3 : Fp h3 x1 := Fp_ag (my_ag.up fh3 is_163 rfl) n_Fp_23_0
        have Wys_h3 : Wys h3 := Wys_ag (my_ag.up fh3 is_163 rfl) n_Wys_23_0
        have ce4 : h3 151 48 = p23_3 := ((my_up_role fh3 is_151 is_163 rfl).trans c151_48_23_0)
        exact w_vret gz_215_96 gm_215 (k0 h3 (gh3) (by first | assumption | omega | (subst_vars; omega) | omega) Wys_h3)
      ·
        refine w_aload_n gz_215_30 rfl ?_
        refine w_getX (v := 163) gz_215_31 is_151 rd_10 rfl (by decide) rfl ?_
        refine w_iload gz_215_34 rfl ?_
        refine w_iload gz_215_36 rfl ?_
        refine w_iast gz_215_38 is_163 rd_62 (by omega) (by omega) (by omega) (by omega) (fun h6 fh6 => ?_)
        have gh6 : my_fr [(10, 27), (10, 32), (10, 33), (10, 37), (10, 48), (62, -1), (73, -1), (74, -1), (75, -1), (76, -1), (77, -1), (78, -1), (79, -1), (80, -1), (81, -1), (82, -1), (83, -1), (84, -1), (85, -1), (86, -1), (89, -1), (90, -1), (91, -1), (92, -1), (93, -1)] h h6 := my_fr.up gh_23_0 is_163 fh6 rfl
        have Mw_h6 : Mw h6 := Mw_ag (my_ag.up fh6 is_163 rfl) n_Mw_23_0
        have Mw3_h6 : Mw3 h6 := Mw3_ag (my_ag.up fh6 is_163 rfl) n_Mw3_23_0
        have Rws_h6 : Rws h6 := Rws_ag (my_ag.up fh6 is_163 rfl) n_Rws_23_0
        have Fp_h6 : Fp h6 x1 := Fp_ag (my_ag.up fh6 is_163 rfl) n_Fp_23_0
        have Wys_h6 : Wys h6 := Wys_ag (my_ag.up fh6 is_163 rfl) n_Wys_23_0
        refine w_iload gz_215_39 rfl ?_
        refine w_iload gz_215_41 rfl ?_
        refine w_iceq (t := 81) gz_215_43 rfl (fun u7 => ?_) (fun u7 => ?_)
        ·
          refine w_iinc (ls' := [(2, 151), (0, x1), (0, x2), (0, x3), (0, p23_0), (0, p23_1), (0, (p23_2 + 1))]) gz_215_81 rfl gm_215 rfl rfl rfl ⟨by omega, by omega⟩ ?_
          refine w_goto (t := 23) gz_215_84 rfl ?_
          have ce8 : h6 151 48 = p23_3 := ((my_up_role fh6 is_151 is_163 rfl).trans c151_48_23_0)
          exact ih_23_0 (p23_0) (p23_1) ((p23_2 + 1)) (p23_3) h6 (gh6) (by omega) (by omega) (by omega) (by omega) (by omega) (by omega) (by omega) (by omega) (((my_up_role fh6 is_151 is_163 rfl).trans c151_48_23_0).trans (by omega)) Mw_h6 Mw3_h6 Rws_h6 Fp_h6 Wys_h6 (by first | assumption | omega | (subst_vars; omega) | omega) (by first | assumption | omega | (subst_vars; omega) | omega) (by omega)
        ·
          refine w_aload_n gz_215_46 rfl ?_
          refine w_bipush gz_215_47 (by decide) ?_
          refine w_inv (k := 2) (as := [(0, 8)]) (r := []) (x := 151) (ls0 := [(2, 151), (0, 8), (9, 0), (9, 0)]) gz_215_49 gm_155 rfl is_151 rd_10 rfl rfl rfl rfl rfl (c_Model_isLawful (d := (d + 1)) (x1 := 8) (by omega) (by omega) ?_ ?_)
          ·
            show wp l rho (d + 5) 215 52 [(2, 151), (0, x1), (0, x2), (0, x3), (0, p23_0), (0, p23_1), (0, p23_2)] [(0, 0)] h6 Q
            refine w_ifeq (t := 81) gz_215_52 rfl (fun u9 => ?_) (fun u9 => by exfalso; omega)
            refine w_iinc (ls' := [(2, 151), (0, x1), (0, x2), (0, x3), (0, p23_0), (0, p23_1), (0, (p23_2 + 1))]) gz_215_81 rfl gm_215 rfl rfl rfl ⟨by omega, by omega⟩ ?_
            refine w_goto (t := 23) gz_215_84 rfl ?_
            have ce10 : h6 151 48 = p23_3 := ((my_up_role fh6 is_151 is_163 rfl).trans c151_48_23_0)
            exact ih_23_0 (p23_0) (p23_1) ((p23_2 + 1)) (p23_3) h6 (gh6) (by omega) (by omega) (by omega) (by omega) (by omega) (by omega) (by omega) (by omega) (((my_up_role fh6 is_151 is_163 rfl).trans c151_48_23_0).trans (by omega)) Mw_h6 Mw3_h6 Rws_h6 Fp_h6 Wys_h6 (by first | assumption | omega | (subst_vars; omega) | omega) (by first | assumption | omega | (subst_vars; omega) | omega) (by omega)
          ·
            show wp l rho (d + 5) 215 52 [(2, 151), (0, x1), (0, x2), (0, x3), (0, p23_0), (0, p23_1), (0, p23_2)] [(0, 1)] h6 Q
            refine w_ifeq (t := 81) gz_215_52 rfl (fun u11 => by exfalso; omega) (fun u11 => ?_)
            refine w_aload_n gz_215_55 rfl ?_
            refine w_bipush gz_215_56 (by decide) ?_
            refine w_iload_n gz_215_58 rfl ?_
            refine w_inv (k := 3) (as := [(0, x1), (0, 8)]) (r := []) (x := 151) (ls0 := [(2, 151), (0, 8), (0, x1), (9, 0), (9, 0), (9, 0)]) gz_215_59 gm_213 rfl is_151 rd_10 rfl rfl rfl rfl rfl (c_Model_isWanted (d := d) (x1 := 8) (x2 := x1) (by omega) (by omega) (by omega) (by omega) Mw_h6 Mw3_h6 Rws_h6 Fp_h6 (fun h12 v13 frh12 w14 w15 => ?_))
            have gh12 : my_fr [(10, 27), (10, 32), (10, 33), (10, 37), (10, 48), (62, -1), (73, -1), (74, -1), (75, -1), (76, -1), (77, -1), (78, -1), (79, -1), (80, -1), (81, -1), (82, -1), (83, -1), (84, -1), (85, -1), (86, -1), (89, -1), (90, -1), (91, -1), (92, -1), (93, -1)] h h12 := my_fr.tr gh6 (frh12.mo rfl)
            have Mw_h12 : Mw h12 := Mw_ag (my_ag.fr frh12 rfl) Mw_h6
            have Mw3_h12 : Mw3 h12 := Mw3_ag (my_ag.fr frh12 rfl) Mw3_h6
            have Rws_h12 : Rws h12 := Rws_ag (my_ag.fr frh12 rfl) Rws_h6
            have Fp_h12 : Fp h12 x1 := Fp_ag (my_ag.fr frh12 rfl) Fp_h6
            have Wys_h12 : Wys h12 := Wys_ag (my_ag.fr frh12 rfl) Wys_h6
            show wp l rho (d + 5) 215 62 [(2, 151), (0, x1), (0, x2), (0, x3), (0, p23_0), (0, p23_1), (0, p23_2)] [(0, v13)] h12 Q
            refine w_ifeq (t := 81) gz_215_62 rfl (fun u16 => ?_) (fun u16 => ?_)
            ·
              refine w_iinc (ls' := [(2, 151), (0, x1), (0, x2), (0, x3), (0, p23_0), (0, p23_1), (0, (p23_2 + 1))]) gz_215_81 rfl gm_215 rfl rfl rfl ⟨by omega, by omega⟩ ?_
              refine w_goto (t := 23) gz_215_84 rfl ?_
              have ce17 : h12 151 48 = p23_3 := ((my_fr.at frh12 is_151 rfl).trans ((my_up_role fh6 is_151 is_163 rfl).trans c151_48_23_0))
              exact ih_23_0 (p23_0) (p23_1) ((p23_2 + 1)) (p23_3) h12 (gh12) (by omega) (by omega) (by omega) (by omega) (by omega) (by omega) (by omega) (by omega) (((my_fr.at frh12 is_151 rfl).trans ((my_up_role fh6 is_151 is_163 rfl).trans c151_48_23_0)).trans (by omega)) Mw_h12 Mw3_h12 Rws_h12 Fp_h12 Wys_h12 (by first | assumption | omega | (subst_vars; omega) | omega) (by first | assumption | omega | (subst_vars; omega) | omega) (by omega)
            ·
              refine w_aload_n gz_215_65 rfl ?_
              refine w_iconst gz_215_66 (by decide) ?_
              refine w_iload_n gz_215_67 rfl ?_
              refine w_bipush gz_215_68 (by decide) ?_
              refine w_idiv gz_215_70 (by omega) (by decide) ?_
              refine w_iload_n gz_215_71 rfl ?_
              refine w_bipush gz_215_72 (by decide) ?_
              refine w_irem gz_215_74 (by omega) (by decide) ?_
              refine w_iload_n gz_215_75 rfl ?_
              refine w_iload gz_215_76 rfl ?_
              have ce18 : h12 151 48 = p23_3 := ((my_fr.at frh12 is_151 rfl).trans ((my_up_role fh6 is_151 is_163 rfl).trans c151_48_23_0))
              refine w_inv (k := 0) (as := [(0, p23_2), (0, x3), (0, (x2 % 20)), (0, (x2 / 20)), (0, 1)]) (r := []) (x := 151) (ls0 := [(2, 151), (0, 1), (0, (x2 / 20)), (0, (x2 % 20)), (0, x3), (0, p23_2)]) gz_215_78 gm_214 rfl is_151 rd_10 rfl rfl rfl rfl rfl (c_Model_finds (d := (d + 4)) (x1 := 1) (x2 := (x2 / 20)) (x3 := (x2 % 20)) (x4 := x3) (x5 := p23_2) (by omega) (by omega) (by omega) (by omega) (by omega) (by omega) (by omega) (by omega) (by omega) (by omega) Wys_h12 (by first | assumption | exact Fp_h12 | exact Fp_told (by omega) (by omega) | omega | (subst_vars; omega) | omega) (by first | assumption | exact Fp_h12 | exact Fp_told (by omega) (by omega) | omega | (subst_vars; omega) | omega) (by first | assumption | exact Fp_h12 | exact Fp_told (by omega) (by omega) | omega | (subst_vars; omega) | omega) (fun h19 frh19 w20 w21 xp22 Wys_h19t23 => ?_))
              have gh19 : my_fr [(10, 27), (10, 32), (10, 33), (10, 37), (10, 48), (62, -1), (73, -1), (74, -1), (75, -1), (76, -1), (77, -1), (78, -1), (79, -1), (80, -1), (81, -1), (82, -1), (83, -1), (84, -1), (85, -1), (86, -1), (89, -1), (90, -1), (91, -1), (92, -1), (93, -1)] h h19 := my_fr.tr gh12 (frh19.mo rfl)
              have Mw_h19 : Mw h19 := Mw_ag (my_ag.fr frh19 rfl) Mw_h12
              have Mw3_h19 : Mw3 h19 := Mw3_ag (my_ag.fr frh19 rfl) Mw3_h12
              have Rws_h19 : Rws h19 := Rws_ag (my_ag.fr frh19 rfl) Rws_h12
              have Fp_h19 : Fp h19 x1 := Fp_ag (my_ag.fr frh19 rfl) Fp_h12
              show wp l rho (d + 5) 215 81 [(2, 151), (0, x1), (0, x2), (0, x3), (0, p23_0), (0, p23_1), (0, p23_2)] [] h19 Q
              refine w_iinc (ls' := [(2, 151), (0, x1), (0, x2), (0, x3), (0, p23_0), (0, p23_1), (0, (p23_2 + 1))]) gz_215_81 rfl gm_215 rfl rfl rfl ⟨by omega, by omega⟩ ?_
              refine w_goto (t := 23) gz_215_84 rfl ?_
              have ce24 : h19 151 48 = (h19 151 48) := (rfl : h19 151 48 = h19 151 48)
              exact ih_23_0 (p23_0) (p23_1) ((p23_2 + 1)) ((h19 151 48)) h19 (gh19) (by omega) (by omega) (by omega) (by omega) (by omega) (by omega) (by omega) (by omega) ((rfl : h19 151 48 = h19 151 48).trans (by omega)) Mw_h19 Mw3_h19 Rws_h19 Fp_h19 Wys_h19t23 (by first | assumption | omega | (subst_vars; omega) | omega) (by first | assumption | omega | (subst_vars; omega) | omega) (by omega)
  refine w_iconst gz_215_0 (by decide) ?_
  refine w_sipush gz_215_1 (by decide) ?_
  refine w_iload_n gz_215_4 rfl ?_
  refine w_iadd gz_215_5 ⟨by omega, by omega⟩ ?_
  refine w_imul gz_215_6 ⟨by omega, by omega⟩ ?_
  refine w_iload_n gz_215_7 rfl ?_
  refine w_iadd gz_215_8 ⟨by omega, by omega⟩ ?_
  refine w_istore (ls' := [(2, 151), (0, x1), (0, x2), (0, x3), (0, ((4 * (480 + x2)) + x3)), (9, 0), (9, 0)]) gz_215_9 gm_215 rfl rfl rfl ?_
  refine w_aload_n gz_215_11 rfl ?_
  refine w_getX (v := 163) gz_215_12 is_151 rd_10 rfl (by decide) rfl ?_
  refine w_iload gz_215_15 rfl ?_
  refine w_iald gz_215_17 is_163 rd_62 (by omega) (by omega) (fun v26 ev26 pv26 qv26 => ?_)
  refine w_istore (ls' := [(2, 151), (0, x1), (0, x2), (0, x3), (0, ((4 * (480 + x2)) + x3)), (0, v26), (9, 0)]) gz_215_18 gm_215 rfl rfl rfl ?_
  refine w_iconst gz_215_20 (by decide) ?_
  refine w_istore (ls' := [(2, 151), (0, x1), (0, x2), (0, x3), (0, ((4 * (480 + x2)) + x3)), (0, v26), (0, 0)]) gz_215_21 gm_215 rfl rfl rfl ?_
  have ce27 : h 151 48 = k151_48 := ek151_48.symm
  exact J23_0 21 (((4 * (480 + x2)) + x3)) (v26) (0) (k151_48) h (my_fr.rf) (by omega) (by omega) (by omega) (by omega) (by omega) (by omega) (by omega) (by omega) (ek151_48.symm.trans (by omega)) n_Mw n_Mw3 n_Rws n_Fp n_Wys (by first | assumption | omega | (subst_vars; omega) | omega) (by first | assumption | omega | (subst_vars; omega) | omega) (by omega)
theorem c_Model_straight {l : Launch} {rho : Nat → Int32} {d : Nat} {h : my_H} {Q : my_H → my_V → Prop} {x1 x2 x3 x4 x5 : Int} (a1 : 0 ≤ x1) (b1 : x1 ≤ 5) (a2 : 0 ≤ x2) (b2 : x2 ≤ 2) (n_Mw : Mw h) (n_Rws : Rws h) (n_Fp : Fp h x1) (e0 : x2 = 0 → 0 ≤ x4 ∧ x4 < h 151 27 ∧ 0 ≤ x5 ∧ x5 ≤ 199) (e1 : x2 ≠ 2 → 0 ≤ x3 ∧ x3 < h 151 37) (fw : FwW h (h 151 27)) (k0 : ∀ (h' : my_H), my_fr [(10, 27), (10, 32), (10, 33), (61, -1), (62, -1), (73, -1), (74, -1), (75, -1), (76, -1), (77, -1), (78, -1), (79, -1), (94, -1)] h h' → Rws h' → Q h' (0, 0)) (k1 : ∀ (h' : my_H), my_fr [(10, 27), (10, 32), (10, 33), (61, -1), (62, -1), (73, -1), (74, -1), (75, -1), (76, -1), (77, -1), (78, -1), (79, -1), (94, -1)] h h' → Rws h' → Q h' (0, 1)) : wp l rho (d + 4) 225 0 [(2, 151), (0, x1), (0, x2), (0, x3), (0, x4), (0, x5), (9, 0), (9, 0)] [] h Q := by
  refine v_know (x := 151) (j := 27) (b := 27) rfl is_151 rd_10 rfl (fun k151_27 ek151_27 pk151_27 qk151_27 => ?_)
  refine v_know (x := 151) (j := 37) (b := 37) rfl is_151 rd_10 rfl (fun k151_37 ek151_37 pk151_37 qk151_37 => ?_)
  refine w_aload_n gz_225_0 rfl ?_
  refine w_iconst gz_225_1 (by decide) ?_
  refine w_iconst gz_225_2 (by decide) ?_
  refine w_inv (k := 1) (as := [(0, 5), (0, 0)]) (r := []) (x := 151) (ls0 := [(2, 151), (0, 0), (0, 5), (9, 0)]) gz_225_3 gm_152 rfl is_151 rd_10 rfl rfl rfl rfl rfl (c_Model_copies2 (d := (d + 3)) (x1 := 0) (x2 := 5) (by omega) (by omega) (by omega) (by omega) n_Rws (fun h1 frh1 xp2 Rws_h1t3 => ?_))
  have gh1 : my_fr [(10, 27), (10, 32), (10, 33), (61, -1), (62, -1), (73, -1), (74, -1), (75, -1), (76, -1), (77, -1), (78, -1), (79, -1), (94, -1)] h h1 := my_fr.tr my_fr.rf (frh1.mo rfl)
  have Mw_h1 : Mw h1 := Mw_ag (my_ag.fr frh1 rfl) n_Mw
  have Fp_h1 : Fp h1 x1 := Fp_ag (my_ag.fr frh1 rfl) n_Fp
  show wp l rho (d + 4) 225 6 [(2, 151), (0, x1), (0, x2), (0, x3), (0, x4), (0, x5), (9, 0), (9, 0)] [] h1 Q
  refine w_iload_n gz_225_6 rfl ?_
  refine w_ifne (t := 82) gz_225_7 rfl (fun u4 => ?_) (fun u4 => ?_)
  ·
    refine w_iload_n gz_225_82 rfl ?_
    refine w_iconst gz_225_83 (by decide) ?_
    refine w_icne (t := 134) gz_225_84 rfl (fun u5 => ?_) (fun u5 => ?_)
    ·
      refine w_aload_n gz_225_134 rfl ?_
      refine w_iconst gz_225_135 (by decide) ?_
      refine w_iload_n gz_225_136 rfl ?_
      refine w_inv (k := 0) (as := [(0, x1), (0, 5)]) (r := []) (x := 151) (ls0 := [(2, 151), (0, 5), (0, x1)]) gz_225_137 gm_216 rfl is_151 rd_10 rfl rfl rfl rfl rfl (c_Model_comes (d := d) (x1 := 5) (x2 := x1) (by omega) (by omega) (by omega) (by omega) Mw_h1 Rws_h1t3 (by first | assumption | exact Fp_h1 | exact Fp_told (by omega) (by omega) | omega | (subst_vars; omega) | omega) (fun h6 frh6 Rws_h6t7 => ?_) (fun h8 frh8 Rws_h8t9 => ?_))
      ·
        have gh6 : my_fr [(10, 27), (10, 32), (10, 33), (61, -1), (62, -1), (73, -1), (74, -1), (75, -1), (76, -1), (77, -1), (78, -1), (79, -1), (94, -1)] h h6 := my_fr.tr gh1 (frh6.mo rfl)
        have Mw_h6 : Mw h6 := Mw_ag (my_ag.fr frh6 rfl) Mw_h1
        have Fp_h6 : Fp h6 x1 := Fp_ag (my_ag.fr frh6 rfl) Fp_h1
        show wp l rho (d + 4) 225 140 [(2, 151), (0, x1), (0, x2), (0, x3), (0, x4), (0, x5), (9, 0), (9, 0)] [(0, 0)] h6 Q
        exact w_bret gz_225_140 gm_225 (by omega) (by omega) (k0 h6 (gh6) Rws_h6t7)
      ·
        have gh8 : my_fr [(10, 27), (10, 32), (10, 33), (61, -1), (62, -1), (73, -1), (74, -1), (75, -1), (76, -1), (77, -1), (78, -1), (79, -1), (94, -1)] h h8 := my_fr.tr gh1 (frh8.mo rfl)
        have Mw_h8 : Mw h8 := Mw_ag (my_ag.fr frh8 rfl) Mw_h1
        have Fp_h8 : Fp h8 x1 := Fp_ag (my_ag.fr frh8 rfl) Fp_h1
        show wp l rho (d + 4) 225 140 [(2, 151), (0, x1), (0, x2), (0, x3), (0, x4), (0, x5), (9, 0), (9, 0)] [(0, 1)] h8 Q
        exact w_bret gz_225_140 gm_225 (by omega) (by omega) (k1 h8 (gh8) Rws_h8t9)
    ·
      refine w_aload_n gz_225_87 rfl ?_
      refine w_getX (v := 181) gz_225_88 is_151 rd_10 rfl (by decide) rfl ?_
      refine w_iload_n gz_225_91 rfl ?_
      have hi11 : 0 ≤ x3 := by omega
      have hi12 : x3 ≤ 9 := by omega
      refine w_iald gz_225_92 is_181 rd_80 (by omega) (by omega) (fun v13 ev13 pv13 qv13 => ?_)
      refine w_istore (ls' := [(2, 151), (0, x1), (0, x2), (0, x3), (0, x4), (0, x5), (0, v13), (9, 0)]) gz_225_93 gm_225 rfl rfl rfl ?_
      refine w_aload_n gz_225_95 rfl ?_
      refine w_iload_n gz_225_96 rfl ?_
      refine w_inv (k := 3) (as := [(0, x1)]) (r := []) (x := 151) (ls0 := [(2, 151), (0, x1), (9, 0), (9, 0), (9, 0)]) gz_225_97 gm_226 rfl is_151 rd_10 rfl rfl rfl rfl rfl (c_Model_hasSum (d := (d + 2)) (x1 := x1) (by omega) (by omega) Mw_h1 (by first | assumption | exact Fp_h1 | exact Fp_told (by omega) (by omega) | omega | (subst_vars; omega) | omega) (fun h14 v15 frh14 w16 w17 => ?_))
      have gh14 : my_fr [(10, 27), (10, 32), (10, 33), (61, -1), (62, -1), (73, -1), (74, -1), (75, -1), (76, -1), (77, -1), (78, -1), (79, -1), (94, -1)] h h14 := my_fr.tr gh1 (frh14.mo rfl)
      have Mw_h14 : Mw h14 := Mw_ag (my_ag.fr frh14 rfl) Mw_h1
      have Fp_h14 : Fp h14 x1 := Fp_ag (my_ag.fr frh14 rfl) Fp_h1
      have Rws_h14 : Rws h14 := Rws_ag (my_ag.fr frh14 rfl) Rws_h1t3
      show wp l rho (d + 4) 225 100 [(2, 151), (0, x1), (0, x2), (0, x3), (0, x4), (0, x5), (0, v13), (9, 0)] [(0, v15)] h14 Q
      refine w_ifne (t := 107) gz_225_100 rfl (fun u18 => ?_) (fun u18 => ?_)
      ·
        refine w_iconst gz_225_107 (by decide) ?_
        refine w_istore (ls' := [(2, 151), (0, x1), (0, x2), (0, x3), (0, x4), (0, x5), (0, v13), (0, 0)]) gz_225_108 gm_225 rfl rfl rfl ?_
        refine w_iload gz_225_110 rfl ?_
        refine w_ifeq (t := 131) gz_225_112 rfl (fun u19 => ?_) (fun u19 => by exfalso; omega)
        refine w_iload gz_225_131 rfl ?_
        exact w_bret gz_225_133 gm_225 (by omega) (by omega) (k0 h14 (gh14) Rws_h14)
      ·
        refine w_iconst gz_225_103 (by decide) ?_
        refine w_goto (t := 108) gz_225_104 rfl ?_
        refine w_istore (ls' := [(2, 151), (0, x1), (0, x2), (0, x3), (0, x4), (0, x5), (0, v13), (0, 1)]) gz_225_108 gm_225 rfl rfl rfl ?_
        refine w_iload gz_225_110 rfl ?_
        refine w_ifeq (t := 131) gz_225_112 rfl (fun u20 => by exfalso; omega) (fun u20 => ?_)
        refine w_aload_n gz_225_115 rfl ?_
        refine w_getX (v := 162) gz_225_116 is_151 rd_10 rfl (by decide) rfl ?_
        refine w_iconst gz_225_119 (by decide) ?_
        refine w_aload_n gz_225_120 rfl ?_
        refine v_getI (j := 33) gz_225_121 rfl is_151 rd_10 rfl (fun v22 ev22 pv22 qv22 => ?_)
        refine w_iload gz_225_124 rfl ?_
        refine w_inS (k := 0) (as := [(0, v13), (0, v22), (0, 5)]) (r := [(2, 162)]) (ls0 := [(0, 5), (0, v22), (0, v13)]) gz_225_126 gm_150 rfl rfl rfl rfl rfl rfl ?_
        refine w_bipush gz_150_0 (by decide) ?_
        refine w_iload_n gz_150_2 rfl ?_
        refine w_imul gz_150_3 ⟨by omega, by omega⟩ ?_
        refine w_bipush gz_150_4 (by decide) ?_
        refine w_iload_n gz_150_6 rfl ?_
        refine w_imul gz_150_7 ⟨by omega, by omega⟩ ?_
        refine w_iadd gz_150_8 ⟨by omega, by omega⟩ ?_
        refine w_iload_n gz_150_9 rfl ?_
        refine w_iadd gz_150_10 ⟨by omega, by omega⟩ ?_
        refine w_iret gz_150_11 gm_150 ?_
        show wp l rho (d + 4) 225 129 [(2, 151), (0, x1), (0, x2), (0, x3), (0, x4), (0, x5), (0, v13), (0, 1)] [(0, (((60 * 5) + (20 * v22)) + v13)), (2, 162)] h14 Q
        refine w_iconst gz_225_129 (by decide) ?_
        refine v_knowA (x := 162) is_162 rd_61 (fun kT2 => ?_)
        have q2 := (kT2 (((60 * 5) + (20 * v22)) + v13) (by omega) (by omega)).1
        have hi23 : 0 ≤ (((60 * 5) + (20 * v22)) + v13) := by omega
        have hi24 : (((60 * 5) + (20 * v22)) + v13) ≤ 959 := by omega
        refine w_bast gz_225_130 is_162 rd_61 (by omega) (by omega) (by omega) (by omega) (fun h25 fh25 => ?_)
        have gh25 : my_fr [(10, 27), (10, 32), (10, 33), (61, -1), (62, -1), (73, -1), (74, -1), (75, -1), (76, -1), (77, -1), (78, -1), (79, -1), (94, -1)] h h25 := my_fr.up gh14 is_162 fh25 rfl
        have Mw_h25 : Mw h25 := Mw_ag (my_ag.up fh25 is_162 rfl) Mw_h14
        have Fp_h25 : Fp h25 x1 := Fp_ag (my_ag.up fh25 is_162 rfl) Fp_h14
        have Rws_h25t26 : Rws h25 := Rws_off fh25 (by omega) Rws_h14
        refine w_iload gz_225_131 rfl ?_
        exact w_bret gz_225_133 gm_225 (by omega) (by omega) (k1 h25 (gh25) Rws_h25t26)
  ·
    refine w_aload_n gz_225_10 rfl ?_
    refine w_getX (v := 175) gz_225_11 is_151 rd_10 rfl (by decide) rfl ?_
    refine w_iload gz_225_14 rfl ?_
    have hi28 : 0 ≤ x4 := by omega
    have hi29 : x4 ≤ 7 := by omega
    refine w_iald gz_225_16 is_175 rd_74 (by omega) (by omega) (fun v30 ev30 pv30 qv30 => ?_)
    refine w_ifle (t := 31) gz_225_17 rfl (fun u31 => ?_) (fun u31 => ?_)
    ·
      refine w_iconst gz_225_31 (by decide) ?_
      refine w_istore (ls' := [(2, 151), (0, x1), (0, x2), (0, x3), (0, x4), (0, x5), (0, 0), (9, 0)]) gz_225_32 gm_225 rfl rfl rfl ?_
      refine w_iload gz_225_34 rfl ?_
      refine w_ifeq (t := 79) gz_225_36 rfl (fun u32 => ?_) (fun u32 => by exfalso; omega)
      refine w_iload gz_225_79 rfl ?_
      exact w_bret gz_225_81 gm_225 (by omega) (by omega) (k0 h1 (gh1) Rws_h1t3)
    ·
      refine w_iload gz_225_20 rfl ?_
      refine w_bipush gz_225_22 (by decide) ?_
      refine w_icge (t := 31) gz_225_24 rfl (fun u33 => ?_) (fun u33 => ?_)
      ·
        refine w_iconst gz_225_31 (by decide) ?_
        refine w_istore (ls' := [(2, 151), (0, x1), (0, x2), (0, x3), (0, x4), (0, x5), (0, 0), (9, 0)]) gz_225_32 gm_225 rfl rfl rfl ?_
        refine w_iload gz_225_34 rfl ?_
        refine w_ifeq (t := 79) gz_225_36 rfl (fun u34 => ?_) (fun u34 => by exfalso; omega)
        refine w_iload gz_225_79 rfl ?_
        exact w_bret gz_225_81 gm_225 (by omega) (by omega) (k0 h1 (gh1) Rws_h1t3)
      ·
        refine w_iconst gz_225_27 (by decide) ?_
        refine w_goto (t := 32) gz_225_28 rfl ?_
        refine w_istore (ls' := [(2, 151), (0, x1), (0, x2), (0, x3), (0, x4), (0, x5), (0, 1), (9, 0)]) gz_225_32 gm_225 rfl rfl rfl ?_
        refine w_iload gz_225_34 rfl ?_
        refine w_ifeq (t := 79) gz_225_36 rfl (fun u35 => by exfalso; omega) (fun u35 => ?_)
        have e174 : ∀ j : Int, h1 174 j = h 174 j := fun j => ((my_fr.at frh1 is_174 rfl).trans (rfl : h 174 j = h 174 j))
        have e175 : ∀ j : Int, h1 175 j = h 175 j := fun j => ((my_fr.at frh1 is_175 rfl).trans (rfl : h 175 j = h 175 j))
        have fz := fw x4 (by omega) (by omega)
        have z4 := e174 x4
        have z5 := e175 x4
        refine w_aload_n gz_225_39 rfl ?_
        refine w_getX (v := 163) gz_225_40 is_151 rd_10 rfl (by decide) rfl ?_
        refine w_iconst gz_225_43 (by decide) ?_
        refine w_iconst gz_225_44 (by decide) ?_
        refine w_aload_n gz_225_45 rfl ?_
        refine w_getX (v := 174) gz_225_46 is_151 rd_10 rfl (by decide) rfl ?_
        refine w_iload gz_225_49 rfl ?_
        have hi38 : 0 ≤ x4 := by omega
        have hi39 : x4 ≤ 7 := by omega
        refine w_iald gz_225_51 is_174 rd_73 (by omega) (by omega) (fun v40 ev40 pv40 qv40 => ?_)
        refine w_aload_n gz_225_52 rfl ?_
        refine w_getX (v := 183) gz_225_53 is_151 rd_10 rfl (by decide) rfl ?_
        refine w_bipush gz_225_56 (by decide) ?_
        refine w_iload_n gz_225_58 rfl ?_
        have hi42 : 0 ≤ x3 := by omega
        have hi43 : x3 ≤ 9 := by omega
        refine w_imul gz_225_59 ⟨by omega, by omega⟩ ?_
        refine w_iload gz_225_60 rfl ?_
        have hi44 : 0 ≤ x4 := by omega
        have hi45 : x4 ≤ 7 := by omega
        refine w_iadd gz_225_62 ⟨by omega, by omega⟩ ?_
        have hi46 : 0 ≤ ((8 * x3) + x4) := by omega
        have hi47 : ((8 * x3) + x4) ≤ 79 := by omega
        refine w_iald gz_225_63 is_183 rd_82 (by omega) (by omega) (fun v48 ev48 pv48 qv48 => ?_)
        refine w_inS (k := 0) (as := [(0, v48), (0, v40), (0, 5)]) (r := [(0, 4), (2, 163)]) (ls0 := [(0, 5), (0, v40), (0, v48)]) gz_225_64 gm_150 rfl rfl rfl rfl rfl rfl ?_
        refine w_bipush gz_150_0 (by decide) ?_
        refine w_iload_n gz_150_2 rfl ?_
        refine w_imul gz_150_3 ⟨by omega, by omega⟩ ?_
        refine w_bipush gz_150_4 (by decide) ?_
        refine w_iload_n gz_150_6 rfl ?_
        refine w_imul gz_150_7 ⟨by omega, by omega⟩ ?_
        refine w_iadd gz_150_8 ⟨by omega, by omega⟩ ?_
        refine w_iload_n gz_150_9 rfl ?_
        refine w_iadd gz_150_10 ⟨by omega, by omega⟩ ?_
        refine w_iret gz_150_11 gm_150 ?_
        show wp l rho (d + 4) 225 67 [(2, 151), (0, x1), (0, x2), (0, x3), (0, x4), (0, x5), (0, 1), (9, 0)] [(0, (((60 * 5) + (20 * v40)) + v48)), (0, 4), (2, 163)] h1 Q
        refine w_imul gz_225_67 ⟨by omega, by omega⟩ ?_
        refine w_aload_n gz_225_68 rfl ?_
        refine w_getX (v := 175) gz_225_69 is_151 rd_10 rfl (by decide) rfl ?_
        refine w_iload gz_225_72 rfl ?_
        have hi50 : 0 ≤ x4 := by omega
        have hi51 : x4 ≤ 7 := by omega
        refine w_iald gz_225_74 is_175 rd_74 (by omega) (by omega) (fun v52 ev52 pv52 qv52 => ?_)
        have zv52 := ev52.trans ev30.symm
        refine w_iadd gz_225_75 ⟨by omega, by omega⟩ ?_
        refine w_iload gz_225_76 rfl ?_
        have hi53 : 0 ≤ ((4 * (((60 * 5) + (20 * v40)) + v48)) + v52) := by omega
        have hi54 : ((4 * (((60 * 5) + (20 * v40)) + v48)) + v52) ≤ 3839 := by omega
        have hi55 : 0 ≤ x5 := by omega
        have hi56 : x5 ≤ 19 := by omega
        refine w_iast gz_225_78 is_163 rd_62 (by omega) (by omega) (by omega) (by omega) (fun h57 fh57 => ?_)
        have gh57 : my_fr [(10, 27), (10, 32), (10, 33), (61, -1), (62, -1), (73, -1), (74, -1), (75, -1), (76, -1), (77, -1), (78, -1), (79, -1), (94, -1)] h h57 := my_fr.up gh1 is_163 fh57 rfl
        have Mw_h57 : Mw h57 := Mw_ag (my_ag.up fh57 is_163 rfl) Mw_h1
        have Fp_h57 : Fp h57 x1 := Fp_ag (my_ag.up fh57 is_163 rfl) Fp_h1
        have Rws_h57 : Rws h57 := Rws_ag (my_ag.up fh57 is_163 rfl) Rws_h1t3
        refine w_iload gz_225_79 rfl ?_
        exact w_bret gz_225_81 gm_225 (by omega) (by omega) (k1 h57 (gh57) Rws_h57)
theorem c_Model_why {l : Launch} {rho : Nat → Int32} {d : Nat} {h : my_H} {Q : my_H → my_V → Prop} {x1 x2 x3 x4 x5 : Int} (n_Mw : Mw h) (n_Mw3 : Mw3 h) (n_Rws : Rws h) (k0 : ∀ (h' : my_H), my_fr [(10, 0), (10, 27), (10, 32), (10, 33), (10, 37), (10, 46), (61, -1), (62, -1), (73, -1), (74, -1), (75, -1), (76, -1), (77, -1), (78, -1), (79, -1), (80, -1), (81, -1), (82, -1), (83, -1), (84, -1), (85, -1), (86, -1), (88, -1), (94, -1)] h h' → h' 151 0 = 0 → Rws h' → Q h' (0, (-1))) (k1 : ∀ (h' : my_H), my_fr [(10, 0), (10, 27), (10, 32), (10, 33), (10, 37), (10, 46), (61, -1), (62, -1), (73, -1), (74, -1), (75, -1), (76, -1), (77, -1), (78, -1), (79, -1), (80, -1), (81, -1), (82, -1), (83, -1), (84, -1), (85, -1), (86, -1), (88, -1), (94, -1)] h h' → 0 ≤ x1 → x1 ≤ 5 → 0 ≤ x2 → x2 ≤ 2 → h' 151 0 = 0 → Rws h' → Q h' (0, 0)) (k2 : ∀ (h' : my_H), my_fr [(10, 0), (10, 27), (10, 32), (10, 33), (10, 37), (10, 46), (61, -1), (62, -1), (73, -1), (74, -1), (75, -1), (76, -1), (77, -1), (78, -1), (79, -1), (80, -1), (81, -1), (82, -1), (83, -1), (84, -1), (85, -1), (86, -1), (88, -1), (94, -1)] h h' → 0 ≤ x1 → x1 ≤ 5 → 0 ≤ x2 → x2 ≤ 2 → h' 151 0 = 0 → Rws h' → Q h' (0, 1)) (k3 : ∀ (h' : my_H) (y : Int), my_fr [(10, 0), (10, 27), (10, 32), (10, 33), (10, 37), (10, 46), (61, -1), (62, -1), (73, -1), (74, -1), (75, -1), (76, -1), (77, -1), (78, -1), (79, -1), (80, -1), (81, -1), (82, -1), (83, -1), (84, -1), (85, -1), (86, -1), (88, -1), (94, -1)] h h' → 2 ≤ y → y ≤ 5 → 0 ≤ x1 → x1 ≤ 5 → 0 ≤ x2 → x2 ≤ 2 → h' 151 0 = 0 → Rws h' → Q h' (0, y)) : wp l rho (d + 5) 228 0 [(2, 151), (0, x1), (0, x2), (0, x3), (0, x4), (0, x5), (9, 0)] [] h Q := by
  refine w_aload_n gz_228_0 rfl ?_
  refine w_iconst gz_228_1 (by decide) ?_
  refine v_putI (j := 0) gz_228_2 rfl is_151 rd_10 rfl (by omega) (by omega) rfl (fun h1 fh1 => ?_)
  have gh1 : my_fr [(10, 0), (10, 27), (10, 32), (10, 33), (10, 37), (10, 46), (61, -1), (62, -1), (73, -1), (74, -1), (75, -1), (76, -1), (77, -1), (78, -1), (79, -1), (80, -1), (81, -1), (82, -1), (83, -1), (84, -1), (85, -1), (86, -1), (88, -1), (94, -1)] h h1 := my_fr.up my_fr.rf is_151 fh1 rfl
  have Mw_h1 : Mw h1 := Mw_ag (my_ag.up fh1 is_151 rfl) n_Mw
  have Mw3_h1 : Mw3 h1 := Mw3_ag (my_ag.up fh1 is_151 rfl) n_Mw3
  have Rws_h1 : Rws h1 := Rws_ag (my_ag.up fh1 is_151 rfl) n_Rws
  refine w_aload_n gz_228_5 rfl ?_
  refine w_iconst gz_228_6 (by decide) ?_
  refine w_iload_n gz_228_7 rfl ?_
  refine w_iload_n gz_228_8 rfl ?_
  refine w_iload_n gz_228_9 rfl ?_
  refine w_iload gz_228_10 rfl ?_
  refine w_iload gz_228_12 rfl ?_
  refine w_inv (k := 1) (as := [(0, x5), (0, x4), (0, x3), (0, x2), (0, x1), (0, 0)]) (r := []) (x := 151) (ls0 := [(2, 151), (0, 0), (0, x1), (0, x2), (0, x3), (0, x4), (0, x5), (9, 0)]) gz_228_14 gm_208 rfl is_151 rd_10 rfl rfl rfl rfl rfl (c_Model_isEdit (d := d) (x1 := 0) (x2 := x1) (x3 := x2) (x4 := x3) (x5 := x4) (x6 := x5) (by omega) (by omega) Mw_h1 Mw3_h1 Rws_h1 (fun h2 frh2 => ?_) (fun h3 frh3 w4 w5 w6 w7 xp8 xp9 xp10 xp11 xp12 xp13 xp14 xp15 => ?_))
  ·
    have gh2 : my_fr [(10, 0), (10, 27), (10, 32), (10, 33), (10, 37), (10, 46), (61, -1), (62, -1), (73, -1), (74, -1), (75, -1), (76, -1), (77, -1), (78, -1), (79, -1), (80, -1), (81, -1), (82, -1), (83, -1), (84, -1), (85, -1), (86, -1), (88, -1), (94, -1)] h h2 := my_fr.tr gh1 (frh2.mo rfl)
    have Mw_h2 : Mw h2 := Mw_ag (my_ag.fr frh2 rfl) Mw_h1
    have Mw3_h2 : Mw3 h2 := Mw3_ag (my_ag.fr frh2 rfl) Mw3_h1
    have Rws_h2 : Rws h2 := Rws_ag (my_ag.fr frh2 rfl) Rws_h1
    show wp l rho (d + 5) 228 17 [(2, 151), (0, x1), (0, x2), (0, x3), (0, x4), (0, x5), (9, 0)] [(0, 0)] h2 Q
    refine w_ifne (t := 22) gz_228_17 rfl (fun u16 => by exfalso; omega) (fun u16 => ?_)
    refine w_iconst gz_228_20 (by decide) ?_
    have c17 := ((my_fr.at frh2 is_151 rfl).trans (my_up_self fh1))
    exact w_iret gz_228_21 gm_228 (k0 h2 (gh2) (by omega) Rws_h2)
  ·
    have gh3 : my_fr [(10, 0), (10, 27), (10, 32), (10, 33), (10, 37), (10, 46), (61, -1), (62, -1), (73, -1), (74, -1), (75, -1), (76, -1), (77, -1), (78, -1), (79, -1), (80, -1), (81, -1), (82, -1), (83, -1), (84, -1), (85, -1), (86, -1), (88, -1), (94, -1)] h h3 := my_fr.tr gh1 (frh3.mo rfl)
    have Mw_h3 : Mw h3 := Mw_ag (my_ag.fr frh3 rfl) Mw_h1
    have Mw3_h3 : Mw3 h3 := Mw3_ag (my_ag.fr frh3 rfl) Mw3_h1
    have Rws_h3 : Rws h3 := Rws_ag (my_ag.fr frh3 rfl) Rws_h1
    show wp l rho (d + 5) 228 17 [(2, 151), (0, x1), (0, x2), (0, x3), (0, x4), (0, x5), (9, 0)] [(0, 1)] h3 Q
    have Fp_h3t18 : Fp h3 x1 := xp10
    have e5 := xp13
    have e6 := xp14
    have e7 := xp15
    refine w_ifne (t := 22) gz_228_17 rfl (fun u19 => ?_) (fun u19 => by exfalso; omega)
    refine w_aload_n gz_228_22 rfl ?_
    refine w_iload_n gz_228_23 rfl ?_
    refine w_iload_n gz_228_24 rfl ?_
    refine w_iload gz_228_25 rfl ?_
    refine w_iload gz_228_27 rfl ?_
    refine w_inv (k := 2) (as := [(0, x5), (0, x4), (0, x3), (0, x2)]) (r := []) (x := 151) (ls0 := [(2, 151), (0, x2), (0, x3), (0, x4), (0, x5), (9, 0), (9, 0)]) gz_228_29 gm_210 rfl is_151 rd_10 rfl rfl rfl rfl rfl (c_Model_findWanted (d := (d + 3)) (x1 := x2) (x2 := x3) (x3 := x4) (x4 := x5) (by omega) (by omega) (by first | assumption | exact Fp_h3t18 | exact Fp_told (by omega) (by omega) | omega | (subst_vars; omega) | omega) (fun h20 frh20 => ?_))
    have gh20 : my_fr [(10, 0), (10, 27), (10, 32), (10, 33), (10, 37), (10, 46), (61, -1), (62, -1), (73, -1), (74, -1), (75, -1), (76, -1), (77, -1), (78, -1), (79, -1), (80, -1), (81, -1), (82, -1), (83, -1), (84, -1), (85, -1), (86, -1), (88, -1), (94, -1)] h h20 := my_fr.tr gh3 (frh20.mo rfl)
    have Mw_h20 : Mw h20 := Mw_ag (my_ag.fr frh20 rfl) Mw_h3
    have Mw3_h20 : Mw3 h20 := Mw3_ag (my_ag.fr frh20 rfl) Mw3_h3
    have Rws_h20 : Rws h20 := Rws_ag (my_ag.fr frh20 rfl) Rws_h3
    have Fp_h20 : Fp h20 x1 := Fp_ag (my_ag.fr frh20 rfl) Fp_h3t18
    show wp l rho (d + 5) 228 32 [(2, 151), (0, x1), (0, x2), (0, x3), (0, x4), (0, x5), (9, 0)] [] h20 Q
    refine w_aload_n gz_228_32 rfl ?_
    refine w_iload_n gz_228_33 rfl ?_
    refine w_iload_n gz_228_34 rfl ?_
    refine w_iload_n gz_228_35 rfl ?_
    refine w_iload gz_228_36 rfl ?_
    refine w_iload gz_228_38 rfl ?_
    have ce21 : h20 151 27 = h3 151 27 := ((my_fr.at frh20 is_151 rfl).trans (rfl : h3 151 27 = h3 151 27))
    have ce22 : h20 151 37 = h3 151 37 := ((my_fr.at frh20 is_151 rfl).trans (rfl : h3 151 37 = h3 151 37))
    have k174 : ∀ j : Int, h20 174 j = h3 174 j := fun j => ((my_fr.at frh20 is_174 rfl).trans (rfl : h3 174 j = h3 174 j))
    have k175 : ∀ j : Int, h20 175 j = h3 175 j := fun j => ((my_fr.at frh20 is_175 rfl).trans (rfl : h3 175 j = h3 175 j))
    refine w_inv (k := 2) (as := [(0, x5), (0, x4), (0, x3), (0, x2), (0, x1)]) (r := []) (x := 151) (ls0 := [(2, 151), (0, x1), (0, x2), (0, x3), (0, x4), (0, x5), (9, 0), (9, 0)]) gz_228_40 gm_225 rfl is_151 rd_10 rfl rfl rfl rfl rfl (c_Model_straight (d := d) (x1 := x1) (x2 := x2) (x3 := x3) (x4 := x4) (x5 := x5) (by omega) (by omega) (by omega) (by omega) Mw_h20 Rws_h20 Fp_h20 (by first | assumption | exact Fp_h20 | exact Fp_told (by omega) (by omega) | omega | (subst_vars; omega) | omega) (by first | assumption | exact Fp_h20 | exact Fp_told (by omega) (by omega) | omega | (subst_vars; omega) | omega) (FwW_w (FwW_eq k174 k175 e7) (by omega)) (fun h23 frh23 Rws_h23t24 => ?_) (fun h25 frh25 Rws_h25t26 => ?_))
    ·
      have gh23 : my_fr [(10, 0), (10, 27), (10, 32), (10, 33), (10, 37), (10, 46), (61, -1), (62, -1), (73, -1), (74, -1), (75, -1), (76, -1), (77, -1), (78, -1), (79, -1), (80, -1), (81, -1), (82, -1), (83, -1), (84, -1), (85, -1), (86, -1), (88, -1), (94, -1)] h h23 := my_fr.tr gh20 (frh23.mo rfl)
      have Mw_h23 : Mw h23 := Mw_ag (my_ag.fr frh23 rfl) Mw_h20
      have Mw3_h23 : Mw3 h23 := Mw3_ag (my_ag.fr frh23 rfl) Mw3_h20
      have Fp_h23 : Fp h23 x1 := Fp_ag (my_ag.fr frh23 rfl) Fp_h20
      show wp l rho (d + 5) 228 43 [(2, 151), (0, x1), (0, x2), (0, x3), (0, x4), (0, x5), (9, 0)] [(0, 0)] h23 Q
      refine w_ifne (t := 48) gz_228_43 rfl (fun u27 => by exfalso; omega) (fun u27 => ?_)
      refine w_iconst gz_228_46 (by decide) ?_
      have c28 := ((my_fr.at frh23 is_151 rfl).trans ((my_fr.at frh20 is_151 rfl).trans ((my_fr.at frh3 is_151 rfl).trans (my_up_self fh1))))
      exact w_iret gz_228_47 gm_228 (k2 h23 (gh23) (by omega) (by omega) (by omega) (by omega) (by omega) Rws_h23t24)
    ·
      have gh25 : my_fr [(10, 0), (10, 27), (10, 32), (10, 33), (10, 37), (10, 46), (61, -1), (62, -1), (73, -1), (74, -1), (75, -1), (76, -1), (77, -1), (78, -1), (79, -1), (80, -1), (81, -1), (82, -1), (83, -1), (84, -1), (85, -1), (86, -1), (88, -1), (94, -1)] h h25 := my_fr.tr gh20 (frh25.mo rfl)
      have Mw_h25 : Mw h25 := Mw_ag (my_ag.fr frh25 rfl) Mw_h20
      have Mw3_h25 : Mw3 h25 := Mw3_ag (my_ag.fr frh25 rfl) Mw3_h20
      have Fp_h25 : Fp h25 x1 := Fp_ag (my_ag.fr frh25 rfl) Fp_h20
      show wp l rho (d + 5) 228 43 [(2, 151), (0, x1), (0, x2), (0, x3), (0, x4), (0, x5), (9, 0)] [(0, 1)] h25 Q
      refine w_ifne (t := 48) gz_228_43 rfl (fun u29 => ?_) (fun u29 => by exfalso; omega)
      refine w_aload_n gz_228_48 rfl ?_
      refine w_iconst gz_228_49 (by decide) ?_
      refine w_iload_n gz_228_50 rfl ?_
      refine w_inv (k := 3) (as := [(0, x1), (0, 5)]) (r := []) (x := 151) (ls0 := [(2, 151), (0, 5), (0, x1), (9, 0), (9, 0), (9, 0)]) gz_228_51 gm_213 rfl is_151 rd_10 rfl rfl rfl rfl rfl (c_Model_isWanted (d := d) (x1 := 5) (x2 := x1) (by omega) (by omega) (by omega) (by omega) Mw_h25 Mw3_h25 Rws_h25t26 Fp_h25 (fun h30 v31 frh30 w32 w33 => ?_))
      have gh30 : my_fr [(10, 0), (10, 27), (10, 32), (10, 33), (10, 37), (10, 46), (61, -1), (62, -1), (73, -1), (74, -1), (75, -1), (76, -1), (77, -1), (78, -1), (79, -1), (80, -1), (81, -1), (82, -1), (83, -1), (84, -1), (85, -1), (86, -1), (88, -1), (94, -1)] h h30 := my_fr.tr gh25 (frh30.mo rfl)
      have Mw_h30 : Mw h30 := Mw_ag (my_ag.fr frh30 rfl) Mw_h25
      have Mw3_h30 : Mw3 h30 := Mw3_ag (my_ag.fr frh30 rfl) Mw3_h25
      have Fp_h30 : Fp h30 x1 := Fp_ag (my_ag.fr frh30 rfl) Fp_h25
      have Rws_h30 : Rws h30 := Rws_ag (my_ag.fr frh30 rfl) Rws_h25t26
      show wp l rho (d + 5) 228 54 [(2, 151), (0, x1), (0, x2), (0, x3), (0, x4), (0, x5), (9, 0)] [(0, v31)] h30 Q
      refine w_istore (ls' := [(2, 151), (0, x1), (0, x2), (0, x3), (0, x4), (0, x5), (0, v31)]) gz_228_54 gm_228 rfl rfl rfl ?_
      refine w_aload_n gz_228_56 rfl ?_
      refine w_iconst gz_228_57 (by decide) ?_
      refine w_inv (k := 2) (as := [(0, 5)]) (r := []) (x := 151) (ls0 := [(2, 151), (0, 5), (9, 0), (9, 0)]) gz_228_58 gm_155 rfl is_151 rd_10 rfl rfl rfl rfl rfl (c_Model_isLawful (d := (d + 1)) (x1 := 5) (by omega) (by omega) ?_ ?_)
      ·
        show wp l rho (d + 5) 228 61 [(2, 151), (0, x1), (0, x2), (0, x3), (0, x4), (0, x5), (0, v31)] [(0, 0)] h30 Q
        refine w_ifeq (t := 68) gz_228_61 rfl (fun u34 => ?_) (fun u34 => by exfalso; omega)
        refine w_iconst gz_228_68 (by decide) ?_
        refine w_iload gz_228_69 rfl ?_
        refine w_ifeq (t := 78) gz_228_71 rfl (fun u35 => ?_) (fun u35 => ?_)
        ·
          refine w_aload_n gz_228_78 rfl ?_
          refine v_getI (j := 37) gz_228_79 rfl is_151 rd_10 rfl (fun v36 ev36 pv36 qv36 => ?_)
          refine w_aload_n gz_228_82 rfl ?_
          refine v_getI (j := 46) gz_228_83 rfl is_151 rd_10 rfl (fun v37 ev37 pv37 qv37 => ?_)
          refine w_iceq (t := 93) gz_228_86 rfl (fun u38 => ?_) (fun u38 => ?_)
          ·
            refine w_iconst gz_228_93 (by decide) ?_
            refine w_iadd gz_228_94 ⟨by omega, by omega⟩ ?_
            have c39 := ((my_fr.at frh30 is_151 rfl).trans ((my_fr.at frh25 is_151 rfl).trans ((my_fr.at frh20 is_151 rfl).trans ((my_fr.at frh3 is_151 rfl).trans (my_up_self fh1)))))
            exact w_iret gz_228_95 gm_228 (k3 h30 ((1 + 4)) (gh30) (by omega) (by omega) (by omega) (by omega) (by omega) (by omega) (by omega) Rws_h30)
          ·
            refine w_iconst gz_228_89 (by decide) ?_
            refine w_goto (t := 94) gz_228_90 rfl ?_
            refine w_iadd gz_228_94 ⟨by omega, by omega⟩ ?_
            have c40 := ((my_fr.at frh30 is_151 rfl).trans ((my_fr.at frh25 is_151 rfl).trans ((my_fr.at frh20 is_151 rfl).trans ((my_fr.at frh3 is_151 rfl).trans (my_up_self fh1)))))
            exact w_iret gz_228_95 gm_228 (k3 h30 ((1 + 2)) (gh30) (by omega) (by omega) (by omega) (by omega) (by omega) (by omega) (by omega) Rws_h30)
        ·
          refine w_iconst gz_228_74 (by decide) ?_
          refine w_goto (t := 94) gz_228_75 rfl ?_
          refine w_iadd gz_228_94 ⟨by omega, by omega⟩ ?_
          have c41 := ((my_fr.at frh30 is_151 rfl).trans ((my_fr.at frh25 is_151 rfl).trans ((my_fr.at frh20 is_151 rfl).trans ((my_fr.at frh3 is_151 rfl).trans (my_up_self fh1)))))
          rw [show ((1 + 0) : Int) = 1 from by omega]
          exact w_iret gz_228_95 gm_228 (k2 h30 (gh30) (by omega) (by omega) (by omega) (by omega) (by omega) Rws_h30)
      ·
        show wp l rho (d + 5) 228 61 [(2, 151), (0, x1), (0, x2), (0, x3), (0, x4), (0, x5), (0, v31)] [(0, 1)] h30 Q
        refine w_ifeq (t := 68) gz_228_61 rfl (fun u42 => by exfalso; omega) (fun u42 => ?_)
        refine w_iconst gz_228_64 (by decide) ?_
        refine w_goto (t := 69) gz_228_65 rfl ?_
        refine w_iload gz_228_69 rfl ?_
        refine w_ifeq (t := 78) gz_228_71 rfl (fun u43 => ?_) (fun u43 => ?_)
        ·
          refine w_aload_n gz_228_78 rfl ?_
          refine v_getI (j := 37) gz_228_79 rfl is_151 rd_10 rfl (fun v44 ev44 pv44 qv44 => ?_)
          refine w_aload_n gz_228_82 rfl ?_
          refine v_getI (j := 46) gz_228_83 rfl is_151 rd_10 rfl (fun v45 ev45 pv45 qv45 => ?_)
          refine w_iceq (t := 93) gz_228_86 rfl (fun u46 => ?_) (fun u46 => ?_)
          ·
            refine w_iconst gz_228_93 (by decide) ?_
            refine w_iadd gz_228_94 ⟨by omega, by omega⟩ ?_
            have c47 := ((my_fr.at frh30 is_151 rfl).trans ((my_fr.at frh25 is_151 rfl).trans ((my_fr.at frh20 is_151 rfl).trans ((my_fr.at frh3 is_151 rfl).trans (my_up_self fh1)))))
            exact w_iret gz_228_95 gm_228 (k3 h30 ((0 + 4)) (gh30) (by omega) (by omega) (by omega) (by omega) (by omega) (by omega) (by omega) Rws_h30)
          ·
            refine w_iconst gz_228_89 (by decide) ?_
            refine w_goto (t := 94) gz_228_90 rfl ?_
            refine w_iadd gz_228_94 ⟨by omega, by omega⟩ ?_
            have c48 := ((my_fr.at frh30 is_151 rfl).trans ((my_fr.at frh25 is_151 rfl).trans ((my_fr.at frh20 is_151 rfl).trans ((my_fr.at frh3 is_151 rfl).trans (my_up_self fh1)))))
            exact w_iret gz_228_95 gm_228 (k3 h30 ((0 + 2)) (gh30) (by omega) (by omega) (by omega) (by omega) (by omega) (by omega) (by omega) Rws_h30)
        ·
          refine w_iconst gz_228_74 (by decide) ?_
          refine w_goto (t := 94) gz_228_75 rfl ?_
          refine w_iadd gz_228_94 ⟨by omega, by omega⟩ ?_
          have c49 := ((my_fr.at frh30 is_151 rfl).trans ((my_fr.at frh25 is_151 rfl).trans ((my_fr.at frh20 is_151 rfl).trans ((my_fr.at frh3 is_151 rfl).trans (my_up_self fh1)))))
          rw [show ((0 + 0) : Int) = 0 from by omega]
          exact w_iret gz_228_95 gm_228 (k1 h30 (gh30) (by omega) (by omega) (by omega) (by omega) (by omega) Rws_h30)
theorem c_Model_more {l : Launch} {rho : Nat → Int32} {d : Nat} {h : my_H} {Q : my_H → my_V → Prop} {x1 x2 x3 : Int} (a1 : 0 ≤ x1) (b1 : x1 ≤ 15) (a2 : 0 ≤ x2) (b2 : x2 ≤ 15) (a3 : 0 ≤ x3) (b3 : x3 ≤ 5) (n_Mw : Mw h) (n_Mw3 : Mw3 h) (n_Rws : Rws h) (n_Fp : Fp h x3) (k0 : ∀ (h' : my_H) (y : Int), my_fr [(10, 27), (10, 32), (10, 33), (10, 37), (10, 46), (73, -1), (74, -1), (75, -1), (76, -1), (77, -1), (78, -1), (79, -1), (80, -1), (81, -1), (82, -1), (83, -1), (84, -1), (85, -1), (86, -1), (88, -1)] h h' → 0 ≤ y → y ≤ 10 → Q h' (0, y)) : wp l rho (d + 4) 247 0 [(2, 151), (0, x1), (0, x2), (0, x3), (9, 0), (9, 0), (9, 0), (9, 0), (9, 0), (9, 0), (9, 0)] [] h Q := by
  have J29_0 : ∀ (n : Nat) (p29_0 p29_1 p29_2 : Int) (h29_0 : my_H), my_fr [(10, 27), (10, 32), (10, 33), (10, 37), (10, 46), (73, -1), (74, -1), (75, -1), (76, -1), (77, -1), (78, -1), (79, -1), (80, -1), (81, -1), (82, -1), (83, -1), (84, -1), (85, -1), (86, -1), (88, -1)] h h29_0 → 0 ≤ p29_1 → p29_1 ≤ 10 → 0 ≤ p29_2 → p29_2 ≤ 10 → p29_1 ≤ p29_2 → Mw h29_0 → Mw3 h29_0 → Rws h29_0 → Fp h29_0 x3 → 11 - p29_2 ≤ (n : Int) → wp l rho (d + 4) 247 29 [(2, 151), (0, x1), (0, x2), (0, x3), (0, p29_0), (0, p29_1), (0, p29_2), (9, 0), (9, 0), (9, 0), (9, 0)] [] h29_0 Q := by
    intro n
    induction n with
    | zero => intro p29_0 p29_1 p29_2 h29_0 gh_29_0 q0_29_0 q1_29_0 q2_29_0 q3_29_0 q4_29_0 n_Mw_29_0 n_Mw3_29_0 n_Rws_29_0 n_Fp_29_0 hm_29_0; exfalso; omega
    | succ n ih_29_0 =>
      intro p29_0 p29_1 p29_2 h29_0 gh_29_0 q0_29_0 q1_29_0 q2_29_0 q3_29_0 q4_29_0 n_Mw_29_0 n_Mw3_29_0 n_Rws_29_0 n_Fp_29_0 hm_29_0
      have J173_0 : ∀ (p173_0 p173_1 p173_2 p173_3 p173_4 p173_5 : Int) (h173_0 : my_H), my_fr [(10, 27), (10, 32), (10, 33), (10, 37), (10, 46), (73, -1), (74, -1), (75, -1), (76, -1), (77, -1), (78, -1), (79, -1), (80, -1), (81, -1), (82, -1), (83, -1), (84, -1), (85, -1), (86, -1), (88, -1)] h h173_0 → 0 ≤ p173_1 → p173_1 ≤ 10 → p29_2 ≤ 9 → (-1) ≤ p173_2 → p173_2 ≤ 10 → 0 ≤ p173_3 → p173_3 ≤ 11 → 1 ≤ p173_4 → p173_4 ≤ 10 → 0 ≤ p173_5 → p173_5 ≤ 11 → p29_1 ≤ 9 → p173_1 ≤ p173_4 → p173_1 ≤ (p29_2 + 1) → p173_1 ≤ (p29_1 + 1) → p173_2 ≤ (p173_3 - 1) → p173_5 ≤ (p173_3 + 10) → p29_2 ≤ (p173_4 - 1) → p29_1 ≤ p173_1 → p29_1 ≤ (p173_4 - 1) → p29_1 ≤ p29_2 → h173_0 151 37 = p173_4 → h173_0 151 46 = p173_5 → Mw h173_0 → Mw3 h173_0 → Rws h173_0 → Fp h173_0 x3 → wp l rho (d + 4) 247 173 [(2, 151), (0, x1), (0, x2), (0, x3), (0, p173_0), (0, p173_1), (0, p29_2), (0, p173_2), (0, p173_3), (9, 0), (9, 0)] [] h173_0 Q := by
        intro p173_0 p173_1 p173_2 p173_3 p173_4 p173_5 h173_0 gh_173_0 q0_173_0 q1_173_0 q2_173_0 q3_173_0 q4_173_0 q5_173_0 q6_173_0 q7_173_0 q8_173_0 q9_173_0 q10_173_0 q11_173_0 q12_173_0 q13_173_0 q14_173_0 q15_173_0 q16_173_0 q17_173_0 q18_173_0 q19_173_0 q20_173_0 c151_37_173_0 c151_46_173_0 n_Mw_173_0 n_Mw3_173_0 n_Rws_173_0 n_Fp_173_0
        refine w_iinc (ls' := [(2, 151), (0, x1), (0, x2), (0, x3), (0, p173_0), (0, p173_1), (0, (p29_2 + 1)), (0, p173_2), (0, p173_3), (9, 0), (9, 0)]) gz_247_173 rfl gm_247 rfl rfl rfl ⟨by omega, by omega⟩ ?_
        refine w_goto (t := 29) gz_247_176 rfl ?_
        refine w_weak (ls' := [(2, 151), (0, x1), (0, x2), (0, x3), (0, p173_0), (0, p173_1), (0, (p29_2 + 1)), (9, 0), (9, 0), (9, 0), (9, 0)]) (wk_e (wk_e (wk_e (wk_e (wk_e (wk_e (wk_e (wk_9 (wk_9 (wk_9 (wk_9 wk_n))))))))))) ?_
        exact ih_29_0 (p173_0) (p173_1) ((p29_2 + 1)) h173_0 (gh_173_0) (by omega) (by omega) (by omega) (by omega) (by omega) n_Mw_173_0 n_Mw3_173_0 n_Rws_173_0 n_Fp_173_0 (by omega)
      have J153_0 : ∀ (p153_0 p153_1 p153_2 p153_3 : Int) (h153_0 : my_H), my_fr [(10, 27), (10, 32), (10, 33), (10, 37), (10, 46), (73, -1), (74, -1), (75, -1), (76, -1), (77, -1), (78, -1), (79, -1), (80, -1), (81, -1), (82, -1), (83, -1), (84, -1), (85, -1), (86, -1), (88, -1)] h h153_0 → p29_1 ≤ 9 → p29_2 ≤ 9 → (-1) ≤ p153_0 → p153_0 ≤ 10 → 0 ≤ p153_1 → p153_1 ≤ 11 → 1 ≤ p153_2 → p153_2 ≤ 10 → 0 ≤ p153_3 → p153_3 ≤ 11 → p153_0 ≤ (p153_1 - 1) → p153_3 ≤ (p153_1 + 10) → p29_1 ≤ (p153_2 - 1) → p29_1 ≤ p29_2 → p29_2 ≤ (p153_2 - 1) → h153_0 151 37 = p153_2 → h153_0 151 46 = p153_3 → Mw h153_0 → Mw3 h153_0 → Rws h153_0 → Fp h153_0 x3 → wp l rho (d + 4) 247 153 [(2, 151), (0, x1), (0, x2), (0, x3), (0, p29_0), (0, p29_1), (0, p29_2), (0, p153_0), (0, p153_1), (9, 0), (9, 0)] [] h153_0 Q := by
        intro p153_0 p153_1 p153_2 p153_3 h153_0 gh_153_0 q0_153_0 q1_153_0 q2_153_0 q3_153_0 q4_153_0 q5_153_0 q6_153_0 q7_153_0 q8_153_0 q9_153_0 q10_153_0 q11_153_0 q12_153_0 q13_153_0 q14_153_0 c151_37_153_0 c151_46_153_0 n_Mw_153_0 n_Mw3_153_0 n_Rws_153_0 n_Fp_153_0
        refine w_iload gz_247_153 rfl ?_
        refine w_ifge (t := 164) gz_247_155 rfl (fun u1 => ?_) (fun u1 => ?_)
        ·
          refine w_iload gz_247_164 rfl ?_
          refine w_iconst gz_247_166 (by decide) ?_
          refine w_iload gz_247_167 rfl ?_
          refine w_ianyL gz_247_169 (fun v2 pv2 qv2 => ?_)
          refine w_ianyO gz_247_170 (fun v3 pv3 qv3 => ?_)
          refine w_istore (ls' := [(2, 151), (0, x1), (0, x2), (0, x3), (0, v3), (0, p29_1), (0, p29_2), (0, p153_0), (0, p153_1), (9, 0), (9, 0)]) gz_247_171 gm_247 rfl rfl rfl ?_
          exact J173_0 (v3) (p29_1) (p153_0) (p153_1) (p153_2) (p153_3) h153_0 (gh_153_0) (by omega) (by omega) (by omega) (by omega) (by omega) (by omega) (by omega) (by omega) (by omega) (by omega) (by omega) (by omega) (by omega) (by omega) (by omega) (by omega) (by omega) (by omega) (by omega) (by omega) (by omega) (c151_37_153_0.trans (by omega)) (c151_46_153_0.trans (by omega)) n_Mw_153_0 n_Mw3_153_0 n_Rws_153_0 n_Fp_153_0
        ·
          refine w_iinc (ls' := [(2, 151), (0, x1), (0, x2), (0, x3), (0, p29_0), (0, (p29_1 + 1)), (0, p29_2), (0, p153_0), (0, p153_1), (9, 0), (9, 0)]) gz_247_158 rfl gm_247 rfl rfl rfl ⟨by omega, by omega⟩ ?_
          refine w_goto (t := 173) gz_247_161 rfl ?_
          exact J173_0 (p29_0) ((p29_1 + 1)) (p153_0) (p153_1) (p153_2) (p153_3) h153_0 (gh_153_0) (by omega) (by omega) (by omega) (by omega) (by omega) (by omega) (by omega) (by omega) (by omega) (by omega) (by omega) (by omega) (by omega) (by omega) (by omega) (by omega) (by omega) (by omega) (by omega) (by omega) (by omega) (c151_37_153_0.trans (by omega)) (c151_46_153_0.trans (by omega)) n_Mw_153_0 n_Mw3_153_0 n_Rws_153_0 n_Fp_153_0
      have J44_0 : ∀ (n : Nat) (p44_0 p44_1 p44_2 : Int) (h44_0 : my_H), my_fr [(10, 27), (10, 32), (10, 33), (10, 37), (10, 46), (73, -1), (74, -1), (75, -1), (76, -1), (77, -1), (78, -1), (79, -1), (80, -1), (81, -1), (82, -1), (83, -1), (84, -1), (85, -1), (86, -1), (88, -1)] h h44_0 → p29_1 ≤ 9 → p29_2 ≤ 9 → (-1) ≤ p44_0 → p44_0 ≤ 10 → 0 ≤ p44_1 → p44_1 ≤ 11 → 1 ≤ p44_2 → p44_2 ≤ 10 → p44_0 ≤ (p44_1 - 1) → p29_1 ≤ (p44_2 - 1) → p29_1 ≤ p29_2 → p29_2 ≤ (p44_2 - 1) → h44_0 151 37 = p44_2 → Mw h44_0 → Mw3 h44_0 → Rws h44_0 → Fp h44_0 x3 → 12 - p44_1 ≤ (n : Int) → wp l rho (d + 4) 247 44 [(2, 151), (0, x1), (0, x2), (0, x3), (0, p29_0), (0, p29_1), (0, p29_2), (0, p44_0), (0, p44_1), (9, 0), (9, 0)] [] h44_0 Q := by
        intro n
        induction n with
        | zero => intro p44_0 p44_1 p44_2 h44_0 gh_44_0 q0_44_0 q1_44_0 q2_44_0 q3_44_0 q4_44_0 q5_44_0 q6_44_0 q7_44_0 q8_44_0 q9_44_0 q10_44_0 q11_44_0 c151_37_44_0 n_Mw_44_0 n_Mw3_44_0 n_Rws_44_0 n_Fp_44_0 hm_44_0; exfalso; omega
        | succ n ih_44_0 =>
          intro p44_0 p44_1 p44_2 h44_0 gh_44_0 q0_44_0 q1_44_0 q2_44_0 q3_44_0 q4_44_0 q5_44_0 q6_44_0 q7_44_0 q8_44_0 q9_44_0 q10_44_0 q11_44_0 c151_37_44_0 n_Mw_44_0 n_Mw3_44_0 n_Rws_44_0 n_Fp_44_0 hm_44_0
          have J78_0 : ∀ (n : Nat) (p78_0 p78_1 p78_2 : Int) (h78_0 : my_H), my_fr [(10, 27), (10, 32), (10, 33), (10, 37), (10, 46), (73, -1), (74, -1), (75, -1), (76, -1), (77, -1), (78, -1), (79, -1), (80, -1), (81, -1), (82, -1), (83, -1), (84, -1), (85, -1), (86, -1), (88, -1)] h h78_0 → p44_1 ≤ 10 → 0 ≤ p78_0 → p78_0 ≤ 1 → 0 ≤ p78_1 → p78_1 ≤ 8 → 1 ≤ p78_2 → p78_2 ≤ 11 → p44_0 ≤ (-1) → p29_1 ≤ p29_2 → p29_1 ≤ (p44_2 - 1) → p29_2 ≤ (p44_2 - 1) → p44_1 ≤ (p78_2 - 1) → h78_0 151 37 = p44_2 → h78_0 151 46 = p78_2 → Mw h78_0 → Mw3 h78_0 → Rws h78_0 → Fp h78_0 x3 → 9 - p78_1 ≤ (n : Int) → wp l rho (d + 4) 247 78 [(2, 151), (0, x1), (0, x2), (0, x3), (0, p29_0), (0, p29_1), (0, p29_2), (0, (-1)), (0, p44_1), (0, p78_0), (0, p78_1)] [] h78_0 Q := by
            intro n
            induction n with
            | zero => intro p78_0 p78_1 p78_2 h78_0 gh_78_0 q0_78_0 q1_78_0 q2_78_0 q3_78_0 q4_78_0 q5_78_0 q6_78_0 q7_78_0 q8_78_0 q9_78_0 q10_78_0 q11_78_0 c151_37_78_0 c151_46_78_0 n_Mw_78_0 n_Mw3_78_0 n_Rws_78_0 n_Fp_78_0 hm_78_0; exfalso; omega
            | succ n ih_78_0 =>
              intro p78_0 p78_1 p78_2 h78_0 gh_78_0 q0_78_0 q1_78_0 q2_78_0 q3_78_0 q4_78_0 q5_78_0 q6_78_0 q7_78_0 q8_78_0 q9_78_0 q10_78_0 q11_78_0 c151_37_78_0 c151_46_78_0 n_Mw_78_0 n_Mw3_78_0 n_Rws_78_0 n_Fp_78_0 hm_78_0
              have J125_0 : ∀ (p125_0 p125_1 : Int) (h125_0 : my_H), my_fr [(10, 27), (10, 32), (10, 33), (10, 37), (10, 46), (73, -1), (74, -1), (75, -1), (76, -1), (77, -1), (78, -1), (79, -1), (80, -1), (81, -1), (82, -1), (83, -1), (84, -1), (85, -1), (86, -1), (88, -1)] h h125_0 → 0 ≤ p125_0 → p125_0 ≤ 1 → p78_1 ≤ 7 → 1 ≤ p125_1 → p125_1 ≤ 8 → p125_0 ≤ p78_0 → p29_1 ≤ p29_2 → p29_1 ≤ (p44_2 - 1) → p29_2 ≤ (p44_2 - 1) → p44_1 ≤ (p78_2 - 1) → p78_1 ≤ (p125_1 - 1) → p78_0 ≤ p125_0 → h125_0 151 27 = p125_1 → h125_0 151 37 = p44_2 → h125_0 151 46 = p78_2 → Mw h125_0 → Mw3 h125_0 → Rws h125_0 → Fp h125_0 x3 → wp l rho (d + 4) 247 125 [(2, 151), (0, x1), (0, x2), (0, x3), (0, p29_0), (0, p29_1), (0, p29_2), (0, (-1)), (0, p44_1), (0, p125_0), (0, p78_1)] [] h125_0 Q := by
                intro p125_0 p125_1 h125_0 gh_125_0 q0_125_0 q1_125_0 q2_125_0 q3_125_0 q4_125_0 q5_125_0 q6_125_0 q7_125_0 q8_125_0 q9_125_0 q10_125_0 q11_125_0 c151_27_125_0 c151_37_125_0 c151_46_125_0 n_Mw_125_0 n_Mw3_125_0 n_Rws_125_0 n_Fp_125_0
                refine w_iconst gz_247_125 (by decide) ?_
                refine w_istore (ls' := [(2, 151), (0, x1), (0, x2), (0, x3), (0, p29_0), (0, p29_1), (0, p29_2), (0, (-1)), (0, p44_1), (0, 0), (0, p78_1)]) gz_247_126 gm_247 rfl rfl rfl ?_
                refine w_iinc (ls' := [(2, 151), (0, x1), (0, x2), (0, x3), (0, p29_0), (0, p29_1), (0, p29_2), (0, (-1)), (0, p44_1), (0, 0), (0, (p78_1 + 1))]) gz_247_128 rfl gm_247 rfl rfl rfl ⟨by omega, by omega⟩ ?_
                refine w_goto (t := 78) gz_247_131 rfl ?_
                exact ih_78_0 (0) ((p78_1 + 1)) (p78_2) h125_0 (gh_125_0) (by omega) (by omega) (by omega) (by omega) (by omega) (by omega) (by omega) (by omega) (by omega) (by omega) (by omega) (by omega) (c151_37_125_0.trans (by omega)) (c151_46_125_0.trans (by omega)) n_Mw_125_0 n_Mw3_125_0 n_Rws_125_0 n_Fp_125_0 (by omega)
              refine w_iload gz_247_78 rfl ?_
              refine w_aload_n gz_247_80 rfl ?_
              refine v_getI (j := 27) gz_247_81 rfl is_151 rd_10 rfl (fun v4 ev4 pv4 qv4 => ?_)
              refine w_icge (t := 134) gz_247_84 rfl (fun u5 => ?_) (fun u5 => ?_)
              ·
                refine w_iload gz_247_134 rfl ?_
                refine w_ifeq (t := 144) gz_247_136 rfl (fun u6 => ?_) (fun u6 => ?_)
                ·
                  refine w_iconst gz_247_144 (by decide) ?_
                  refine w_istore (ls' := [(2, 151), (0, x1), (0, x2), (0, x3), (0, p29_0), (0, p29_1), (0, p29_2), (0, (-1)), (0, p44_1), (0, p78_0), (0, p78_1)]) gz_247_145 gm_247 rfl rfl rfl ?_
                  refine w_iinc (ls' := [(2, 151), (0, x1), (0, x2), (0, x3), (0, p29_0), (0, p29_1), (0, p29_2), (0, (-1)), (0, (p44_1 + 1)), (0, p78_0), (0, p78_1)]) gz_247_147 rfl gm_247 rfl rfl rfl ⟨by omega, by omega⟩ ?_
                  refine w_goto (t := 44) gz_247_150 rfl ?_
                  refine w_weak (ls' := [(2, 151), (0, x1), (0, x2), (0, x3), (0, p29_0), (0, p29_1), (0, p29_2), (0, (-1)), (0, (p44_1 + 1)), (9, 0), (9, 0)]) (wk_e (wk_e (wk_e (wk_e (wk_e (wk_e (wk_e (wk_e (wk_e (wk_9 (wk_9 wk_n))))))))))) ?_
                  exact ih_44_0 ((-1)) ((p44_1 + 1)) (p44_2) h78_0 (gh_78_0) (by omega) (by omega) (by omega) (by omega) (by omega) (by omega) (by omega) (by omega) (by omega) (by omega) (by omega) (by omega) (c151_37_78_0.trans (by omega)) n_Mw_78_0 n_Mw3_78_0 n_Rws_78_0 n_Fp_78_0 (by omega)
                ·
                  refine w_iload gz_247_139 rfl ?_
                  refine w_goto (t := 145) gz_247_141 rfl ?_
                  refine w_istore (ls' := [(2, 151), (0, x1), (0, x2), (0, x3), (0, p29_0), (0, p29_1), (0, p29_2), (0, p44_1), (0, p44_1), (0, p78_0), (0, p78_1)]) gz_247_145 gm_247 rfl rfl rfl ?_
                  refine w_iinc (ls' := [(2, 151), (0, x1), (0, x2), (0, x3), (0, p29_0), (0, p29_1), (0, p29_2), (0, p44_1), (0, (p44_1 + 1)), (0, p78_0), (0, p78_1)]) gz_247_147 rfl gm_247 rfl rfl rfl ⟨by omega, by omega⟩ ?_
                  refine w_goto (t := 44) gz_247_150 rfl ?_
                  refine w_weak (ls' := [(2, 151), (0, x1), (0, x2), (0, x3), (0, p29_0), (0, p29_1), (0, p29_2), (0, p44_1), (0, (p44_1 + 1)), (9, 0), (9, 0)]) (wk_e (wk_e (wk_e (wk_e (wk_e (wk_e (wk_e (wk_e (wk_e (wk_9 (wk_9 wk_n))))))))))) ?_
                  exact ih_44_0 (p44_1) ((p44_1 + 1)) (p44_2) h78_0 (gh_78_0) (by omega) (by omega) (by omega) (by omega) (by omega) (by omega) (by omega) (by omega) (by omega) (by omega) (by omega) (by omega) (c151_37_78_0.trans (by omega)) n_Mw_78_0 n_Mw3_78_0 n_Rws_78_0 n_Fp_78_0 (by omega)
              ·
                refine w_iload gz_247_87 rfl ?_
                refine w_ifeq (t := 125) gz_247_89 rfl (fun u7 => ?_) (fun u7 => ?_)
                ·
                  exact J125_0 (p78_0) (v4) h78_0 (gh_78_0) (by omega) (by omega) (by omega) (by omega) (by omega) (by omega) (by omega) (by omega) (by omega) (by omega) (by omega) (by omega) (ev4.symm.trans (by omega)) (c151_37_78_0.trans (by omega)) (c151_46_78_0.trans (by omega)) n_Mw_78_0 n_Mw3_78_0 n_Rws_78_0 n_Fp_78_0
                ·
                  refine w_aload_n gz_247_92 rfl ?_
                  refine w_getX (v := 182) gz_247_93 is_151 rd_10 rfl (by decide) rfl ?_
                  refine w_bipush gz_247_96 (by decide) ?_
                  refine w_iload gz_247_98 rfl ?_
                  refine w_imul gz_247_100 ⟨by omega, by omega⟩ ?_
                  refine w_iload gz_247_101 rfl ?_
                  refine w_iadd gz_247_103 ⟨by omega, by omega⟩ ?_
                  refine w_iald gz_247_104 is_182 rd_81 (by omega) (by omega) (fun v9 ev9 pv9 qv9 => ?_)
                  refine w_aload_n gz_247_105 rfl ?_
                  refine w_getX (v := 189) gz_247_106 is_151 rd_10 rfl (by decide) rfl ?_
                  refine w_bipush gz_247_109 (by decide) ?_
                  refine w_iload gz_247_111 rfl ?_
                  refine w_imul gz_247_113 ⟨by omega, by omega⟩ ?_
                  refine w_iload gz_247_114 rfl ?_
                  refine w_iadd gz_247_116 ⟨by omega, by omega⟩ ?_
                  refine w_iald gz_247_117 is_189 rd_88 (by omega) (by omega) (fun v11 ev11 pv11 qv11 => ?_)
                  refine w_icne (t := 125) gz_247_118 rfl (fun u12 => ?_) (fun u12 => ?_)
                  ·
                    exact J125_0 (p78_0) (v4) h78_0 (gh_78_0) (by omega) (by omega) (by omega) (by omega) (by omega) (by omega) (by omega) (by omega) (by omega) (by omega) (by omega) (by omega) (ev4.symm.trans (by omega)) (c151_37_78_0.trans (by omega)) (c151_46_78_0.trans (by omega)) n_Mw_78_0 n_Mw3_78_0 n_Rws_78_0 n_Fp_78_0
                  ·
                    refine w_iconst gz_247_121 (by decide) ?_
                    refine w_goto (t := 126) gz_247_122 rfl ?_
                    refine w_istore (ls' := [(2, 151), (0, x1), (0, x2), (0, x3), (0, p29_0), (0, p29_1), (0, p29_2), (0, (-1)), (0, p44_1), (0, 1), (0, p78_1)]) gz_247_126 gm_247 rfl rfl rfl ?_
                    refine w_iinc (ls' := [(2, 151), (0, x1), (0, x2), (0, x3), (0, p29_0), (0, p29_1), (0, p29_2), (0, (-1)), (0, p44_1), (0, 1), (0, (p78_1 + 1))]) gz_247_128 rfl gm_247 rfl rfl rfl ⟨by omega, by omega⟩ ?_
                    refine w_goto (t := 78) gz_247_131 rfl ?_
                    exact ih_78_0 (1) ((p78_1 + 1)) (p78_2) h78_0 (gh_78_0) (by omega) (by omega) (by omega) (by omega) (by omega) (by omega) (by omega) (by omega) (by omega) (by omega) (by omega) (by omega) (c151_37_78_0.trans (by omega)) (c151_46_78_0.trans (by omega)) n_Mw_78_0 n_Mw3_78_0 n_Rws_78_0 n_Fp_78_0 (by omega)
          refine w_iload gz_247_44 rfl ?_
          refine w_aload_n gz_247_46 rfl ?_
          refine v_getI (j := 46) gz_247_47 rfl is_151 rd_10 rfl (fun v13 ev13 pv13 qv13 => ?_)
          refine w_icge (t := 153) gz_247_50 rfl (fun u14 => ?_) (fun u14 => ?_)
          ·
            exact J153_0 (p44_0) (p44_1) (p44_2) (v13) h44_0 (gh_44_0) (by omega) (by omega) (by omega) (by omega) (by omega) (by omega) (by omega) (by omega) (by omega) (by omega) (by omega) (by omega) (by omega) (by omega) (by omega) (c151_37_44_0.trans (by omega)) (ev13.symm.trans (by omega)) n_Mw_44_0 n_Mw3_44_0 n_Rws_44_0 n_Fp_44_0
          ·
            refine w_iload gz_247_53 rfl ?_
            refine w_ifge (t := 153) gz_247_55 rfl (fun u15 => ?_) (fun u15 => ?_)
            ·
              exact J153_0 (p44_0) (p44_1) (p44_2) (v13) h44_0 (gh_44_0) (by omega) (by omega) (by omega) (by omega) (by omega) (by omega) (by omega) (by omega) (by omega) (by omega) (by omega) (by omega) (by omega) (by omega) (by omega) (c151_37_44_0.trans (by omega)) (ev13.symm.trans (by omega)) n_Mw_44_0 n_Mw3_44_0 n_Rws_44_0 n_Fp_44_0
            ·
              refine w_iload gz_247_58 rfl ?_
              refine w_iload gz_247_60 rfl ?_
              refine w_ianyR gz_247_62 (fun v16 pv16 qv16 => ?_)
              refine w_iconst gz_247_63 (by decide) ?_
              refine w_iandM gz_247_64 (by decide) (fun v17 pv17 qv17 => ?_)
              refine w_ifne (t := 72) gz_247_65 rfl (fun u18 => ?_) (fun u18 => ?_)
              ·
                refine w_iconst gz_247_72 (by decide) ?_
                refine w_istore (ls' := [(2, 151), (0, x1), (0, x2), (0, x3), (0, p29_0), (0, p29_1), (0, p29_2), (0, p44_0), (0, p44_1), (0, 0), (9, 0)]) gz_247_73 gm_247 rfl rfl rfl ?_
                refine w_iconst gz_247_75 (by decide) ?_
                refine w_istore (ls' := [(2, 151), (0, x1), (0, x2), (0, x3), (0, p29_0), (0, p29_1), (0, p29_2), (0, p44_0), (0, p44_1), (0, 0), (0, 0)]) gz_247_76 gm_247 rfl rfl rfl ?_
                rw [show (p44_0 : Int) = (-1) from by omega]
                exact J78_0 9 (0) (0) (v13) h44_0 (gh_44_0) (by omega) (by omega) (by omega) (by omega) (by omega) (by omega) (by omega) (by omega) (by omega) (by omega) (by omega) (by omega) (c151_37_44_0.trans (by omega)) (ev13.symm.trans (by omega)) n_Mw_44_0 n_Mw3_44_0 n_Rws_44_0 n_Fp_44_0 (by omega)
              ·
                refine w_iconst gz_247_68 (by decide) ?_
                refine w_goto (t := 73) gz_247_69 rfl ?_
                refine w_istore (ls' := [(2, 151), (0, x1), (0, x2), (0, x3), (0, p29_0), (0, p29_1), (0, p29_2), (0, p44_0), (0, p44_1), (0, 1), (9, 0)]) gz_247_73 gm_247 rfl rfl rfl ?_
                refine w_iconst gz_247_75 (by decide) ?_
                refine w_istore (ls' := [(2, 151), (0, x1), (0, x2), (0, x3), (0, p29_0), (0, p29_1), (0, p29_2), (0, p44_0), (0, p44_1), (0, 1), (0, 0)]) gz_247_76 gm_247 rfl rfl rfl ?_
                rw [show (p44_0 : Int) = (-1) from by omega]
                exact J78_0 9 (1) (0) (v13) h44_0 (gh_44_0) (by omega) (by omega) (by omega) (by omega) (by omega) (by omega) (by omega) (by omega) (by omega) (by omega) (by omega) (by omega) (c151_37_44_0.trans (by omega)) (ev13.symm.trans (by omega)) n_Mw_44_0 n_Mw3_44_0 n_Rws_44_0 n_Fp_44_0 (by omega)
      refine w_iload gz_247_29 rfl ?_
      refine w_aload_n gz_247_31 rfl ?_
      refine v_getI (j := 37) gz_247_32 rfl is_151 rd_10 rfl (fun v19 ev19 pv19 qv19 => ?_)
      refine w_icge (t := 179) gz_247_35 rfl (fun u20 => ?_) (fun u20 => ?_)
      ·
        refine w_iload gz_247_179 rfl ?_
        exact w_iret gz_247_181 gm_247 (k0 h29_0 (p29_1) (gh_29_0) (by omega) (by omega))
      ·
        refine w_iconst gz_247_38 (by decide) ?_
        refine w_istore (ls' := [(2, 151), (0, x1), (0, x2), (0, x3), (0, p29_0), (0, p29_1), (0, p29_2), (0, (-1)), (9, 0), (9, 0), (9, 0)]) gz_247_39 gm_247 rfl rfl rfl ?_
        refine w_iconst gz_247_41 (by decide) ?_
        refine w_istore (ls' := [(2, 151), (0, x1), (0, x2), (0, x3), (0, p29_0), (0, p29_1), (0, p29_2), (0, (-1)), (0, 0), (9, 0), (9, 0)]) gz_247_42 gm_247 rfl rfl rfl ?_
        exact J44_0 12 ((-1)) (0) (v19) h29_0 (gh_29_0) (by omega) (by omega) (by omega) (by omega) (by omega) (by omega) (by omega) (by omega) (by omega) (by omega) (by omega) (by omega) (ev19.symm.trans (by omega)) n_Mw_29_0 n_Mw3_29_0 n_Rws_29_0 n_Fp_29_0 (by omega)
  refine w_aload_n gz_247_0 rfl ?_
  refine w_iload_n gz_247_1 rfl ?_
  refine w_iload_n gz_247_2 rfl ?_
  refine w_inv (k := 5) (as := [(0, x3), (0, x2)]) (r := []) (x := 151) (ls0 := [(2, 151), (0, x2), (0, x3), (9, 0), (9, 0), (9, 0), (9, 0), (9, 0)]) gz_247_3 gm_194 rfl is_151 rd_10 rfl rfl rfl rfl rfl (c_Model_shows (d := d) (x1 := x2) (x2 := x3) (by omega) (by omega) (by omega) (by omega) n_Mw n_Mw3 n_Rws (by first | assumption | exact n_Fp | exact Fp_told (by omega) (by omega) | omega | (subst_vars; omega) | omega) (fun h21 frh21 xp22 => ?_))
  have gh21 : my_fr [(10, 27), (10, 32), (10, 33), (10, 37), (10, 46), (73, -1), (74, -1), (75, -1), (76, -1), (77, -1), (78, -1), (79, -1), (80, -1), (81, -1), (82, -1), (83, -1), (84, -1), (85, -1), (86, -1), (88, -1)] h h21 := my_fr.tr my_fr.rf (frh21.mo rfl)
  have Mw_h21 : Mw h21 := Mw_ag (my_ag.fr frh21 rfl) n_Mw
  have Mw3_h21 : Mw3 h21 := Mw3_ag (my_ag.fr frh21 rfl) n_Mw3
  have Rws_h21 : Rws h21 := Rws_ag (my_ag.fr frh21 rfl) n_Rws
  have Fp_h21 : Fp h21 x3 := Fp_ag (my_ag.fr frh21 rfl) n_Fp
  show wp l rho (d + 4) 247 6 [(2, 151), (0, x1), (0, x2), (0, x3), (9, 0), (9, 0), (9, 0), (9, 0), (9, 0), (9, 0), (9, 0)] [] h21 Q
  refine w_aload_n gz_247_6 rfl ?_
  refine w_iconst gz_247_7 (by decide) ?_
  refine w_iconst gz_247_8 (by decide) ?_
  refine w_iconst gz_247_9 (by decide) ?_
  refine w_iconst gz_247_10 (by decide) ?_
  refine w_inv (k := 2) (as := [(0, (-1)), (0, (-1)), (0, (-1)), (0, (-1))]) (r := []) (x := 151) (ls0 := [(2, 151), (0, (-1)), (0, (-1)), (0, (-1)), (0, (-1)), (9, 0), (9, 0)]) gz_247_11 gm_210 rfl is_151 rd_10 rfl rfl rfl rfl rfl (c_Model_findWanted (d := (d + 2)) (x1 := (-1)) (x2 := (-1)) (x3 := (-1)) (x4 := (-1)) (by omega) (by omega) (by first | assumption | exact Fp_h21 | exact Fp_told (by omega) (by omega) | omega | (subst_vars; omega) | omega) (fun h23 frh23 => ?_))
  have gh23 : my_fr [(10, 27), (10, 32), (10, 33), (10, 37), (10, 46), (73, -1), (74, -1), (75, -1), (76, -1), (77, -1), (78, -1), (79, -1), (80, -1), (81, -1), (82, -1), (83, -1), (84, -1), (85, -1), (86, -1), (88, -1)] h h23 := my_fr.tr gh21 (frh23.mo rfl)
  have Mw_h23 : Mw h23 := Mw_ag (my_ag.fr frh23 rfl) Mw_h21
  have Mw3_h23 : Mw3 h23 := Mw3_ag (my_ag.fr frh23 rfl) Mw3_h21
  have Rws_h23 : Rws h23 := Rws_ag (my_ag.fr frh23 rfl) Rws_h21
  have Fp_h23 : Fp h23 x3 := Fp_ag (my_ag.fr frh23 rfl) Fp_h21
  show wp l rho (d + 4) 247 14 [(2, 151), (0, x1), (0, x2), (0, x3), (9, 0), (9, 0), (9, 0), (9, 0), (9, 0), (9, 0), (9, 0)] [] h23 Q
  refine w_aload_n gz_247_14 rfl ?_
  refine w_iload_n gz_247_15 rfl ?_
  refine w_iload_n gz_247_16 rfl ?_
  refine w_inv (k := 5) (as := [(0, x3), (0, x1)]) (r := []) (x := 151) (ls0 := [(2, 151), (0, x1), (0, x3), (9, 0), (9, 0), (9, 0), (9, 0), (9, 0)]) gz_247_17 gm_194 rfl is_151 rd_10 rfl rfl rfl rfl rfl (c_Model_shows (d := d) (x1 := x1) (x2 := x3) (by omega) (by omega) (by omega) (by omega) Mw_h23 Mw3_h23 Rws_h23 (by first | assumption | exact Fp_h23 | exact Fp_told (by omega) (by omega) | omega | (subst_vars; omega) | omega) (fun h24 frh24 xp25 => ?_))
  have gh24 : my_fr [(10, 27), (10, 32), (10, 33), (10, 37), (10, 46), (73, -1), (74, -1), (75, -1), (76, -1), (77, -1), (78, -1), (79, -1), (80, -1), (81, -1), (82, -1), (83, -1), (84, -1), (85, -1), (86, -1), (88, -1)] h h24 := my_fr.tr gh23 (frh24.mo rfl)
  have Mw_h24 : Mw h24 := Mw_ag (my_ag.fr frh24 rfl) Mw_h23
  have Mw3_h24 : Mw3 h24 := Mw3_ag (my_ag.fr frh24 rfl) Mw3_h23
  have Rws_h24 : Rws h24 := Rws_ag (my_ag.fr frh24 rfl) Rws_h23
  have Fp_h24 : Fp h24 x3 := Fp_ag (my_ag.fr frh24 rfl) Fp_h23
  show wp l rho (d + 4) 247 20 [(2, 151), (0, x1), (0, x2), (0, x3), (9, 0), (9, 0), (9, 0), (9, 0), (9, 0), (9, 0), (9, 0)] [] h24 Q
  refine w_iconst gz_247_20 (by decide) ?_
  refine w_istore (ls' := [(2, 151), (0, x1), (0, x2), (0, x3), (0, 0), (9, 0), (9, 0), (9, 0), (9, 0), (9, 0), (9, 0)]) gz_247_21 gm_247 rfl rfl rfl ?_
  refine w_iconst gz_247_23 (by decide) ?_
  refine w_istore (ls' := [(2, 151), (0, x1), (0, x2), (0, x3), (0, 0), (0, 0), (9, 0), (9, 0), (9, 0), (9, 0), (9, 0)]) gz_247_24 gm_247 rfl rfl rfl ?_
  refine w_iconst gz_247_26 (by decide) ?_
  refine w_istore (ls' := [(2, 151), (0, x1), (0, x2), (0, x3), (0, 0), (0, 0), (0, 0), (9, 0), (9, 0), (9, 0), (9, 0)]) gz_247_27 gm_247 rfl rfl rfl ?_
  exact J29_0 11 (0) (0) (0) h24 (gh24) (by omega) (by omega) (by omega) (by omega) (by omega) Mw_h24 Mw3_h24 Rws_h24 Fp_h24 (by omega)
end MYNModel_finds
