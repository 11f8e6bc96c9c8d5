/-! contracts, printed by wip/gen/gy.py -/
section MYNModel_readPane9_f0
theorem c_Model_readPane9_f0 {l : Launch} {rho : Nat → Int32} {d : Nat} {h : my_H} {Q : my_H → my_V → Prop} {wv : Int} (cf : h 151 8 = 0) (hwv : wv ≤ 5) (hwv0 : 0 ≤ wv) (n_Tok : Tok h) (n_Mq : Mq h wv) (n_Wrd : Wrd h) (n_Wd9 : Wd9 h) (k0 : ∀ (h' : my_H), my_fr [(10, 7), (10, 8), (10, 27), (66, -1), (67, -1), (68, -1), (69, -1), (70, -1), (71, -1), (72, -1), (73, -1), (74, -1), (75, -1), (77, -1), (78, -1), (79, -1)] h h' → 1 ≤ h' 151 8 → h' 151 8 ≤ 16005 → h 151 7 ≤ h' 151 7 → (∃ y c s : Int, paneR (sm h) (h 157) (h 157 (h 151 33)) (h 151 7) (h 151 27) (h 167 6) (h' 151 8) y c s) → Tok h' → Mq h' wv → Wrd h' → Wd9 h' → Q h' (9, 0)) (k1 : ∀ (h' : my_H), my_fr [(10, 7), (10, 8), (10, 27), (66, -1), (67, -1), (68, -1), (69, -1), (70, -1), (71, -1), (72, -1), (73, -1), (74, -1), (75, -1), (77, -1), (78, -1), (79, -1)] h h' → 1 ≤ h' 151 7 → h' 151 7 ≤ 1001 → h' 151 8 = 0 → h 151 7 < h' 151 7 → paneR (sm h) (h 157) (h 157 (h 151 33)) (h 151 7) (h 151 27) (h 167 6) (h' 151 8) (h' 151 7) (h' 151 27) (h' 167 6) → Tok h' → Mq h' wv → Wrd h' → Wd9 h' → Q h' (9, 0)) : wp l rho (d + 4) 185 0 [(2, 151), (9, 0), (9, 0), (9, 0), (9, 0), (9, 0), (9, 0), (9, 0)] [] h Q := by
  refine v_know (x := 151) (j := 7) (b := 7) rfl is_151 rd_10 rfl (fun k151_7 ek151_7 pk151_7 qk151_7 => ?_)
  refine v_know (x := 151) (j := 27) (b := 27) rfl is_151 rd_10 rfl (fun k151_27 ek151_27 pk151_27 qk151_27 => ?_)
  refine v_know (x := 151) (j := 33) (b := 33) rfl is_151 rd_10 rfl (fun k151_33 ek151_33 pk151_33 qk151_33 => ?_)
  have J88_0 : ∀ (p88_0 p88_1 p88_2 p88_3 p88_4 : Int) (h88_0 : my_H), my_fr [(10, 7), (10, 8), (10, 27), (66, -1), (67, -1), (68, -1), (69, -1), (70, -1), (71, -1), (72, -1), (73, -1), (74, -1), (75, -1), (77, -1), (78, -1), (79, -1)] h h88_0 → 0 ≤ p88_0 → p88_0 ≤ 1 → 0 ≤ p88_1 → p88_1 ≤ 1 → 0 ≤ p88_2 → p88_2 ≤ 1 → 0 ≤ p88_3 → p88_3 ≤ 1 → 0 ≤ p88_4 → p88_4 ≤ 16005 → h88_0 151 27 = k151_27 → h88_0 151 33 = k151_33 → h88_0 151 7 = k151_7 → h88_0 151 8 = p88_4 → Tok h88_0 → Mq h88_0 wv → Wrd h88_0 → Wd9 h88_0 → (h88_0 151 8 = 0 → h88_0 153 (h88_0 151 7) = 1) → (h88_0 151 8 = 0 → (p88_0 = 1 ∨ p88_1 = 1 ∨ p88_2 = 1 ∨ p88_3 = 1) → h88_0 167 6 ≤ 5) → h88_0 151 7 = h 151 7 → h88_0 151 27 = h 151 27 → h88_0 167 6 = h 167 6 → (h88_0 151 8 = 0 → (p88_0 = 1 → sW (sm h) (h 151 7) = 4904) ∧ (p88_0 = 0 → sW (sm h) (h 151 7) ≠ 4904) ∧ (p88_1 = 1 → sW (sm h) (h 151 7) = 8422) ∧ (p88_1 = 0 → sW (sm h) (h 151 7) ≠ 8422) ∧ (p88_2 = 1 → sW (sm h) (h 151 7) = 527412) ∧ (p88_2 = 0 → sW (sm h) (h 151 7) ≠ 527412) ∧ (p88_3 = 1 → sW (sm h) (h 151 7) = 26801) ∧ (p88_3 = 0 → sW (sm h) (h 151 7) ≠ 26801) ∧ (p88_0 = 0 → p88_1 = 0 → p88_2 = 0 → p88_3 = 0 → sW (sm h) (h 151 7) = 316695)) → (h88_0 151 8 ≠ 0 → (sW (sm h) (h 151 7) ≠ 316695 ∧ sW (sm h) (h 151 7) ≠ 4904 ∧ sW (sm h) (h 151 7) ≠ 8422 ∧ sW (sm h) (h 151 7) ≠ 527412 ∧ sW (sm h) (h 151 7) ≠ 26801 ∧ h88_0 151 8 = 1 + 16 * sP (sm h) (h 151 7)) ∨ ((sW (sm h) (h 151 7) = 4904 ∨ sW (sm h) (h 151 7) = 8422 ∨ sW (sm h) (h 151 7) = 527412 ∨ sW (sm h) (h 151 7) = 26801) ∧ 6 ≤ h 167 6 ∧ h88_0 151 8 = 5 + 16 * sP (sm h) (h 151 7))) → wp l rho (d + 4) 185 88 [(2, 151), (0, p88_0), (0, p88_1), (0, p88_2), (0, p88_3), (9, 0), (9, 0), (9, 0)] [] h88_0 Q := by
    intro p88_0 p88_1 p88_2 p88_3 p88_4 h88_0 gh_88_0 q0_88_0 q1_88_0 q2_88_0 q3_88_0 q4_88_0 q5_88_0 q6_88_0 q7_88_0 q8_88_0 q9_88_0 c151_27_88_0 c151_33_88_0 c151_7_88_0 c151_8_88_0 n_Tok_88_0 n_Mq_88_0 n_Wrd_88_0 n_Wd9_88_0 wd_88_0 pn_88_0 am_88_0 cw_88_0 c6_88_0 w1_88_0 wf_88_0
    have w1z := w1_88_0
    have wfz := wf_88_0
    refine w_aload_n gz_185_88 rfl ?_
    refine v_getI (j := 8) gz_185_89 rfl is_151 rd_10 rfl (fun v1 ev1 pv1 qv1 => ?_)
    have zv1 := ev1.trans c151_8_88_0
    refine w_ifle (t := 96) gz_185_92 rfl (fun u2 => ?_) (fun u2 => ?_)
    ·
      refine w_aload_n gz_185_96 rfl ?_
      refine w_dup gz_185_97 rfl ?_
      refine v_getI (j := 7) gz_185_98 rfl is_151 rd_10 rfl (fun v3 ev3 pv3 qv3 => ?_)
      have zv3 := ev3.trans c151_7_88_0
      refine w_iconst gz_185_101 (by decide) ?_
      refine w_iadd gz_185_102 ⟨by omega, by omega⟩ ?_
      have w1 := wd_88_0 (by omega)
      have hi4 : 0 ≤ (v3 + 1) := by have q := Tok_at n_Tok_88_0; omega
      have hi5 : (v3 + 1) ≤ 1001 := by have q := Tok_at n_Tok_88_0; omega
      refine v_putI (j := 7) gz_185_103 rfl is_151 rd_10 rfl (by omega) (by omega) rfl (fun h6 fh6 => ?_)
      have gh6 : my_fr [(10, 7), (10, 8), (10, 27), (66, -1), (67, -1), (68, -1), (69, -1), (70, -1), (71, -1), (72, -1), (73, -1), (74, -1), (75, -1), (77, -1), (78, -1), (79, -1)] h h6 := my_fr.up gh_88_0 is_151 fh6 rfl
      have ps7a : h88_0 151 7 = h 151 7 := am_88_0
      have ps7 : h6 151 7 = (sN (sm h) (h 151 7)) := by
        rw [my_up_self fh6]
        show (v3 + 1) = h 151 7 + 1
        omega
      have Mq_h6 : Mq h6 wv := Mq_ag (my_ag.up fh6 is_151 rfl) n_Mq_88_0
      have Wrd_h6 : Wrd h6 := Wrd_ag (my_ag.up fh6 is_151 rfl) n_Wrd_88_0
      have Wd9_h6 : Wd9 h6 := Wd9_ag (my_ag.up fh6 is_151 rfl) n_Wd9_88_0
      have Tok_h6t8 : Tok h6 := Tok_inc n_Tok_88_0 (by omega) (by omega) fh6
      have k7 := my_up_self fh6
      refine w_bipush gz_185_106 (by decide) ?_
      refine w_aload_n gz_185_108 rfl ?_
      refine w_getX (v := 167) gz_185_109 is_151 rd_10 rfl (by decide) rfl ?_
      refine w_bipush gz_185_112 (by decide) ?_
      refine w_iald gz_185_114 is_167 rd_66 (by omega) (by omega) (fun v10 ev10 pv10 qv10 => ?_)
      have b167 : ∀ j : Int, h6 167 j = h88_0 167 j := fun j => ((my_up_role fh6 is_167 is_151 rfl).trans (rfl : h88_0 167 j = h88_0 167 j))
      have p5 := pn_88_0 (by omega)
      have q6 := b167 6
      refine w_iadd gz_185_115 ⟨by omega, by omega⟩ ?_
      refine w_istore (ls' := [(2, 151), (0, p88_0), (0, p88_1), (0, p88_2), (0, p88_3), (0, (36 + v10)), (9, 0), (9, 0)]) gz_185_116 gm_185 rfl rfl rfl ?_
      refine w_iload_n gz_185_118 rfl ?_
      refine w_ifeq (t := 131) gz_185_119 rfl (fun u11 => ?_) (fun u11 => ?_)
      ·
        refine w_iload_n gz_185_131 rfl ?_
        refine w_ifeq (t := 144) gz_185_132 rfl (fun u12 => ?_) (fun u12 => ?_)
        ·
          refine w_iload_n gz_185_144 rfl ?_
          refine w_ifeq (t := 157) gz_185_145 rfl (fun u13 => ?_) (fun u13 => ?_)
          ·
            refine w_iload gz_185_157 rfl ?_
            refine w_ifeq (t := 171) gz_185_159 rfl (fun u14 => ?_) (fun u14 => ?_)
            ·
              refine w_aload_n gz_185_171 rfl ?_
              refine w_aload_n gz_185_172 rfl ?_
              refine w_getX (v := 157) gz_185_173 is_151 rd_10 rfl (by decide) rfl ?_
              refine w_aload_n gz_185_176 rfl ?_
              refine v_getI (j := 33) gz_185_177 rfl is_151 rd_10 rfl (fun v16 ev16 pv16 qv16 => ?_)
              have zv16 := ev16.trans ((my_up_fld fh6 (by decide)).trans c151_33_88_0)
              refine w_iald gz_185_180 is_157 rd_56 (by omega) (by omega) (fun v17 ev17 pv17 qv17 => ?_)
              refine w_iconst gz_185_181 (by decide) ?_
              refine w_isub gz_185_182 ⟨by omega, by omega⟩ ?_
              have ce18 : h6 151 7 = (v3 + 1) := (my_up_self fh6)
              have ce19 : h6 151 27 = k151_27 := ((my_up_fld fh6 (by decide)).trans c151_27_88_0)
              have b183 : (v17 - 1) = h 157 (h 151 33) - 1 := by
                have a := my_fr.at (j := 33) gh6 is_151 rfl
                have b := my_fr.at (j := v16) gh6 is_157 rfl
                rw [show h 151 33 = v16 by omega]
                omega
              refine w_inv (k := 0) (as := [(0, (v17 - 1))]) (r := []) (x := 151) (ls0 := [(2, 151), (0, (v17 - 1))]) gz_185_183 gm_187 rfl is_151 rd_10 rfl rfl rfl rfl rfl (c_Model_takeNumber9_f0 (d := (d + 2)) (x1 := (v17 - 1)) (by omega) (by omega) (((my_up_fld fh6 (by decide)).trans ev1.symm).trans (by omega)) Tok_h6t8 (fun h20 frh20 w21 w22 xp23 xp24 Tok_h20t25 => ?_) (fun h26 v27 frh26 w28 w29 w30 w31 w32 xp33 xp34 xp35 xp36 xp37 xp38 xp39 xp40 Tok_h26t41 => ?_))
              ·
                have gh20 : my_fr [(10, 7), (10, 8), (10, 27), (66, -1), (67, -1), (68, -1), (69, -1), (70, -1), (71, -1), (72, -1), (73, -1), (74, -1), (75, -1), (77, -1), (78, -1), (79, -1)] h h20 := my_fr.tr gh6 (frh20.mo rfl)
                have Mq_h20 : Mq h20 wv := Mq_ag (my_ag.fr frh20 rfl) Mq_h6
                have Wrd_h20 : Wrd h20 := Wrd_ag (my_ag.fr frh20 rfl) Wrd_h6
                have Wd9_h20 : Wd9 h20 := Wd9_ag (my_ag.fr frh20 rfl) Wd9_h6
                show wp l rho (d + 4) 185 186 [(2, 151), (0, p88_0), (0, p88_1), (0, p88_2), (0, p88_3), (0, (36 + v10)), (9, 0), (9, 0)] [(0, 0)] h20 Q
                have ps42 : h6 151 7 = (sN (sm h) (h 151 7)) := ps7
                rw [ps42] at xp23
                have tE43 : sm h6 = sm h := sm_eq (fun j => my_fr.at gh6 is_153 rfl) (fun j => my_fr.at gh6 is_154 rfl) (fun j => my_fr.at gh6 is_155 rfl)
                rw [tE43] at xp24
                rw [ps42] at xp24
                refine w_istore (ls' := [(2, 151), (0, p88_0), (0, p88_1), (0, p88_2), (0, p88_3), (0, (36 + v10)), (0, 0), (9, 0)]) gz_185_186 gm_185 rfl rfl rfl ?_
                refine w_aload_n gz_185_188 rfl ?_
                refine w_bipush gz_185_189 (by decide) ?_
                have ce44 : h20 151 27 = k151_27 := ((my_fr.at frh20 is_151 rfl).trans ((my_up_fld fh6 (by decide)).trans c151_27_88_0))
                refine w_inv (k := 0) (as := [(0, 19)]) (r := []) (x := 151) (ls0 := [(2, 151), (0, 19)]) gz_185_191 gm_187 rfl is_151 rd_10 rfl rfl rfl rfl rfl (c_Model_takeNumber9_f1 (d := (d + 2)) (x1 := 19) (by omega) (by omega) ((h20 151 8)) ((rfl : h20 151 8 = h20 151 8)) (by omega) (by omega) Tok_h20t25 (fun w45 w46 xp47 Tok_h20t48 => ?_))
                show wp l rho (d + 4) 185 194 [(2, 151), (0, p88_0), (0, p88_1), (0, p88_2), (0, p88_3), (0, (36 + v10)), (0, 0), (9, 0)] [(0, 0)] h20 Q
                have ps49 : h20 151 7 = (((sN (sm h) (h 151 7)))) := xp23
                rw [ps49] at xp47
                refine w_istore (ls' := [(2, 151), (0, p88_0), (0, p88_1), (0, p88_2), (0, p88_3), (0, (36 + v10)), (0, 0), (0, 0)]) gz_185_194 gm_185 rfl rfl rfl ?_
                have ce50 : h20 151 8 = (h20 151 8) := (rfl : h20 151 8 = h20 151 8)
                have zF : fillM (sm h) (sN (sm h) (h 151 7)) (h 157 (h 151 33)) (h20 151 8) (h20 151 7) := by (unfold fillM; first | exact Or.inr (Or.inr ⟨by omega, by omega, Or.inr (Or.inr ⟨by omega, by omega, ⟨by omega, by omega⟩⟩)⟩) | exact Or.inr (Or.inr ⟨by omega, by omega, Or.inr (Or.inl ⟨by omega, by omega, by omega⟩)⟩) | exact Or.inr (Or.inr ⟨by omega, by omega, Or.inl ⟨by omega, by omega⟩⟩) | exact Or.inr (Or.inl ⟨by omega, by omega, by omega⟩) | exact Or.inl ⟨by omega, by omega⟩)
                refine w_aload_n gz_185_196 rfl ?_
                refine w_getX (v := 173) gz_185_197 is_151 rd_10 rfl (by decide) rfl ?_
                refine w_bipush gz_185_200 (by decide) ?_
                refine w_iload gz_185_202 rfl ?_
                refine w_iadd gz_185_204 ⟨by omega, by omega⟩ ?_
                refine w_aload_n gz_185_205 rfl ?_
                refine v_getI (j := 8) gz_185_206 rfl is_151 rd_10 rfl (fun v52 ev52 pv52 qv52 => ?_)
                have zv52 := ev52.trans (rfl : h20 151 8 = h20 151 8)
                refine w_ifne (t := 217) gz_185_209 rfl (fun u53 => ?_) (fun u53 => by exfalso; omega)
                refine w_aload_n gz_185_217 rfl ?_
                refine w_getX (v := 173) gz_185_218 is_151 rd_10 rfl (by decide) rfl ?_
                refine w_bipush gz_185_221 (by decide) ?_
                refine w_iload gz_185_223 rfl ?_
                refine w_iadd gz_185_225 ⟨by omega, by omega⟩ ?_
                have hi55 : 0 ≤ (24 + 0) := by omega
                have hi56 : (24 + 0) ≤ 27 := by omega
                refine w_iald gz_185_226 is_173 rd_72 (by omega) (by omega) (fun v57 ev57 pv57 qv57 => ?_)
                have hi58 : (-1) ≤ v57 := by omega
                have hi59 : v57 ≤ 19 := by omega
                have hi60 : 0 ≤ (24 + 0) := by omega
                have hi61 : (24 + 0) ≤ 27 := by omega
                refine w_iast gz_185_227 is_173 rd_72 (by omega) (by omega) (by omega) (by omega) (fun h62 fh62 => ?_)
                have gh62 : my_fr [(10, 7), (10, 8), (10, 27), (66, -1), (67, -1), (68, -1), (69, -1), (70, -1), (71, -1), (72, -1), (73, -1), (74, -1), (75, -1), (77, -1), (78, -1), (79, -1)] h h62 := my_fr.up gh20 is_173 fh62 rfl
                have Mq_h62 : Mq h62 wv := Mq_ag (my_ag.up fh62 is_173 rfl) Mq_h20
                have Wrd_h62 : Wrd h62 := Wrd_ag (my_ag.up fh62 is_173 rfl) Wrd_h20
                have Wd9_h62 : Wd9 h62 := Wd9_ag (my_ag.up fh62 is_173 rfl) Wd9_h20
                have Tok_h62 : Tok h62 := Tok_ag (my_ag.up fh62 is_173 rfl) Tok_h20t48
                refine w_aload_n gz_185_228 rfl ?_
                refine v_getI (j := 8) gz_185_229 rfl is_151 rd_10 rfl (fun v63 ev63 pv63 qv63 => ?_)
                have zv63 := ev63.trans ((my_up_role fh62 is_151 is_173 rfl).trans ev52.symm)
                refine w_ifne (t := 269) gz_185_232 rfl (fun u64 => ?_) (fun u64 => by exfalso; omega)
                refine w_aload_n gz_185_269 rfl ?_
                refine w_bipush gz_185_270 (by decide) ?_
                have ce65 : h62 151 7 = h20 151 7 := ((my_up_role fh62 is_151 is_173 rfl).trans (rfl : h20 151 7 = h20 151 7))
                refine w_inv (k := 0) (as := [(0, 59)]) (r := []) (x := 151) (ls0 := [(2, 151), (0, 59)]) gz_185_272 gm_183 rfl is_151 rd_10 rfl rfl rfl rfl rfl (c_Model_takeSign9_f1 (d := (d + 2))  (v63) (ev63.symm) (by omega) (by omega) Tok_h62 (fun w66 w67 xp68 xp69 Tok_h62t70 => ?_))
                show wp l rho (d + 4) 185 275 [(2, 151), (0, p88_0), (0, p88_1), (0, p88_2), (0, p88_3), (0, (36 + v10)), (0, 0), (0, 0)] [] h62 Q
                have ps71 : h62 151 7 = (((sN (sm h) (h 151 7)))) := ((my_up_role fh62 is_151 is_173 rfl).trans xp23)
                rw [ps71] at xp68
                rw [ps71] at xp69
                have psR : h62 151 7 = (((sN (sm h) (h 151 7)))) := ((my_up_role fh62 is_151 is_173 rfl).trans xp23)
                have npsR : sm h62 = sm h := sm_eq (fun j => my_fr.at gh62 is_153 rfl) (fun j => my_fr.at gh62 is_154 rfl) (fun j => my_fr.at gh62 is_155 rfl)
                have ce72 : h62 151 7 = h20 151 7 := ((my_up_role fh62 is_151 is_173 rfl).trans (rfl : h20 151 7 = h20 151 7))
                have ce73 : h62 151 8 = v63 := ev63.symm
                have ce74 : h62 151 27 = k151_27 := ((my_up_role fh62 is_151 is_173 rfl).trans ((my_fr.at frh20 is_151 rfl).trans ((my_up_fld fh6 (by decide)).trans c151_27_88_0)))
                have r167 : ∀ j : Int, h62 167 j = h88_0 167 j := fun j => ((my_up_role fh62 is_167 is_173 rfl).trans ((my_fr.at frh20 is_167 rfl).trans ((my_up_role fh6 is_167 is_151 rfl).trans (rfl : h88_0 167 j = h88_0 167 j))))
                have r6 := r167 6
                have c75 := ev63.symm
                exact w_vret gz_185_275 gm_185 (k0 h62 (gh62) (by omega) (by omega) (by first | omega | exact Or.inl ⟨by omega, fillM_R zF (by first | exact Or.inl ⟨by omega, by omega⟩ | exact Or.inr ⟨by omega, Or.inl ⟨by omega, by omega⟩⟩ | exact Or.inr ⟨by omega, Or.inr ⟨by omega, by omega, by omega⟩⟩), by omega, by omega⟩ | exact Or.inr (Or.inr (Or.inl ⟨by omega, by omega, cutM_R zC (by first | exact Or.inl ⟨by omega, by omega⟩ | exact Or.inr ⟨by omega, Or.inl ⟨by omega, by omega⟩⟩ | exact Or.inr ⟨by omega, Or.inr ⟨by omega, by omega, by omega⟩⟩), by first | omega | exact cw9, by omega⟩)) | exact Or.inr (Or.inr (Or.inr (Or.inl ⟨by omega, by omega, by first | (rw [cw9]; exact fmE_R zW (by first | exact Or.inl ⟨by omega, by omega⟩ | exact Or.inr ⟨by omega, Or.inl ⟨by omega, by omega⟩⟩ | exact Or.inr ⟨by omega, Or.inr ⟨by omega, by omega, by omega⟩⟩)) | exact fmE_R zW (by first | exact Or.inl ⟨by omega, by omega⟩ | exact Or.inr ⟨by omega, Or.inl ⟨by omega, by omega⟩⟩ | exact Or.inr ⟨by omega, Or.inr ⟨by omega, by omega, by omega⟩⟩), by omega⟩))) | exact Or.inr (Or.inr (Or.inr (Or.inr (Or.inl ⟨by omega, by omega, joinM_R zJ (by first | exact Or.inl ⟨by omega, by omega⟩ | exact Or.inr ⟨by omega, Or.inl ⟨by omega, by omega⟩⟩ | exact Or.inr ⟨by omega, Or.inr ⟨by omega, by omega, by omega⟩⟩), fun _ => by omega, by omega⟩)))) | exact Or.inr (Or.inr (Or.inr (Or.inr (Or.inr (Or.inl ⟨by omega, by omega, sumM_R zS (by first | exact Or.inl ⟨by omega, by omega⟩ | exact Or.inr ⟨by omega, Or.inl ⟨by omega, by omega⟩⟩ | exact Or.inr ⟨by omega, Or.inr ⟨by omega, by omega, by omega⟩⟩), by first | omega | exact cw9, by omega⟩))))) | exact ⟨_, _, _, Or.inl ⟨by omega, fillM_R zF (by first | exact Or.inl ⟨by omega, by omega⟩ | exact Or.inr ⟨by omega, Or.inl ⟨by omega, by omega⟩⟩ | exact Or.inr ⟨by omega, Or.inr ⟨by omega, by omega, by omega⟩⟩), rfl, rfl⟩⟩ | exact ⟨_, _, _, Or.inr (Or.inr (Or.inl ⟨by omega, by omega, cutM_R zC (by first | exact Or.inl ⟨by omega, by omega⟩ | exact Or.inr ⟨by omega, Or.inl ⟨by omega, by omega⟩⟩ | exact Or.inr ⟨by omega, Or.inr ⟨by omega, by omega, by omega⟩⟩), rfl, rfl⟩))⟩ | exact ⟨_, _, _, Or.inr (Or.inr (Or.inr (Or.inl ⟨by omega, by omega, fmE_R zW (by first | exact Or.inl ⟨by omega, by omega⟩ | exact Or.inr ⟨by omega, Or.inl ⟨by omega, by omega⟩⟩ | exact Or.inr ⟨by omega, Or.inr ⟨by omega, by omega, by omega⟩⟩), rfl⟩)))⟩ | exact ⟨_, _, _, Or.inr (Or.inr (Or.inr (Or.inr (Or.inl ⟨by omega, by omega, joinM_R zJ (by first | exact Or.inl ⟨by omega, by omega⟩ | exact Or.inr ⟨by omega, Or.inl ⟨by omega, by omega⟩⟩ | exact Or.inr ⟨by omega, Or.inr ⟨by omega, by omega, by omega⟩⟩), fun q => absurd q (by omega), rfl⟩))))⟩ | exact ⟨_, _, _, Or.inr (Or.inr (Or.inr (Or.inr (Or.inr (Or.inl ⟨by omega, by omega, sumM_R zS (by first | exact Or.inl ⟨by omega, by omega⟩ | exact Or.inr ⟨by omega, Or.inl ⟨by omega, by omega⟩⟩ | exact Or.inr ⟨by omega, Or.inr ⟨by omega, by omega, by omega⟩⟩), rfl, rfl⟩)))))⟩ | exact ⟨0, 0, 0, Or.inr (Or.inl ⟨by omega, by omega, by omega⟩)⟩ | exact ⟨0, 0, 0, Or.inr (Or.inr (Or.inr (Or.inr (Or.inr (Or.inr (⟨by omega, by omega, by omega, by omega, by omega, by omega⟩))))))⟩ | omega) (by first | omega | exact Or.inl ⟨by omega, fillM_R zF (by first | exact Or.inl ⟨by omega, by omega⟩ | exact Or.inr ⟨by omega, Or.inl ⟨by omega, by omega⟩⟩ | exact Or.inr ⟨by omega, Or.inr ⟨by omega, by omega, by omega⟩⟩), by omega, by omega⟩ | exact Or.inr (Or.inr (Or.inl ⟨by omega, by omega, cutM_R zC (by first | exact Or.inl ⟨by omega, by omega⟩ | exact Or.inr ⟨by omega, Or.inl ⟨by omega, by omega⟩⟩ | exact Or.inr ⟨by omega, Or.inr ⟨by omega, by omega, by omega⟩⟩), by first | omega | exact cw9, by omega⟩)) | exact Or.inr (Or.inr (Or.inr (Or.inl ⟨by omega, by omega, by first | (rw [cw9]; exact fmE_R zW (by first | exact Or.inl ⟨by omega, by omega⟩ | exact Or.inr ⟨by omega, Or.inl ⟨by omega, by omega⟩⟩ | exact Or.inr ⟨by omega, Or.inr ⟨by omega, by omega, by omega⟩⟩)) | exact fmE_R zW (by first | exact Or.inl ⟨by omega, by omega⟩ | exact Or.inr ⟨by omega, Or.inl ⟨by omega, by omega⟩⟩ | exact Or.inr ⟨by omega, Or.inr ⟨by omega, by omega, by omega⟩⟩), by omega⟩))) | exact Or.inr (Or.inr (Or.inr (Or.inr (Or.inl ⟨by omega, by omega, joinM_R zJ (by first | exact Or.inl ⟨by omega, by omega⟩ | exact Or.inr ⟨by omega, Or.inl ⟨by omega, by omega⟩⟩ | exact Or.inr ⟨by omega, Or.inr ⟨by omega, by omega, by omega⟩⟩), fun _ => by omega, by omega⟩)))) | exact Or.inr (Or.inr (Or.inr (Or.inr (Or.inr (Or.inl ⟨by omega, by omega, sumM_R zS (by first | exact Or.inl ⟨by omega, by omega⟩ | exact Or.inr ⟨by omega, Or.inl ⟨by omega, by omega⟩⟩ | exact Or.inr ⟨by omega, Or.inr ⟨by omega, by omega, by omega⟩⟩), by first | omega | exact cw9, by omega⟩))))) | exact ⟨_, _, _, Or.inl ⟨by omega, fillM_R zF (by first | exact Or.inl ⟨by omega, by omega⟩ | exact Or.inr ⟨by omega, Or.inl ⟨by omega, by omega⟩⟩ | exact Or.inr ⟨by omega, Or.inr ⟨by omega, by omega, by omega⟩⟩), rfl, rfl⟩⟩ | exact ⟨_, _, _, Or.inr (Or.inr (Or.inl ⟨by omega, by omega, cutM_R zC (by first | exact Or.inl ⟨by omega, by omega⟩ | exact Or.inr ⟨by omega, Or.inl ⟨by omega, by omega⟩⟩ | exact Or.inr ⟨by omega, Or.inr ⟨by omega, by omega, by omega⟩⟩), rfl, rfl⟩))⟩ | exact ⟨_, _, _, Or.inr (Or.inr (Or.inr (Or.inl ⟨by omega, by omega, fmE_R zW (by first | exact Or.inl ⟨by omega, by omega⟩ | exact Or.inr ⟨by omega, Or.inl ⟨by omega, by omega⟩⟩ | exact Or.inr ⟨by omega, Or.inr ⟨by omega, by omega, by omega⟩⟩), rfl⟩)))⟩ | exact ⟨_, _, _, Or.inr (Or.inr (Or.inr (Or.inr (Or.inl ⟨by omega, by omega, joinM_R zJ (by first | exact Or.inl ⟨by omega, by omega⟩ | exact Or.inr ⟨by omega, Or.inl ⟨by omega, by omega⟩⟩ | exact Or.inr ⟨by omega, Or.inr ⟨by omega, by omega, by omega⟩⟩), fun q => absurd q (by omega), rfl⟩))))⟩ | exact ⟨_, _, _, Or.inr (Or.inr (Or.inr (Or.inr (Or.inr (Or.inl ⟨by omega, by omega, sumM_R zS (by first | exact Or.inl ⟨by omega, by omega⟩ | exact Or.inr ⟨by omega, Or.inl ⟨by omega, by omega⟩⟩ | exact Or.inr ⟨by omega, Or.inr ⟨by omega, by omega, by omega⟩⟩), rfl, rfl⟩)))))⟩ | exact ⟨0, 0, 0, Or.inr (Or.inl ⟨by omega, by omega, by omega⟩)⟩ | exact ⟨0, 0, 0, Or.inr (Or.inr (Or.inr (Or.inr (Or.inr (Or.inr (⟨by omega, by omega, by omega, by omega, by omega, by omega⟩))))))⟩ | omega) Tok_h62t70 Mq_h62 Wrd_h62 Wd9_h62)
              ·
                have gh26 : my_fr [(10, 7), (10, 8), (10, 27), (66, -1), (67, -1), (68, -1), (69, -1), (70, -1), (71, -1), (72, -1), (73, -1), (74, -1), (75, -1), (77, -1), (78, -1), (79, -1)] h h26 := my_fr.tr gh6 (frh26.mo rfl)
                have Mq_h26 : Mq h26 wv := Mq_ag (my_ag.fr frh26 rfl) Mq_h6
                have Wrd_h26 : Wrd h26 := Wrd_ag (my_ag.fr frh26 rfl) Wrd_h6
                have Wd9_h26 : Wd9 h26 := Wd9_ag (my_ag.fr frh26 rfl) Wd9_h6
                show wp l rho (d + 4) 185 186 [(2, 151), (0, p88_0), (0, p88_1), (0, p88_2), (0, p88_3), (0, (36 + v10)), (9, 0), (9, 0)] [(0, v27)] h26 Q
                have ps76 : h6 151 7 = (sN (sm h) (h 151 7)) := ps7
                rw [ps76] at xp35
                rw [ps76] at xp36
                rw [ps76] at xp37
                have tE77 : sm h6 = sm h := sm_eq (fun j => my_fr.at gh6 is_153 rfl) (fun j => my_fr.at gh6 is_154 rfl) (fun j => my_fr.at gh6 is_155 rfl)
                rw [tE77] at xp38
                rw [ps76] at xp38
                rw [tE77] at xp39
                rw [ps76] at xp39
                rw [tE77] at xp40
                rw [ps76] at xp40
                refine w_istore (ls' := [(2, 151), (0, p88_0), (0, p88_1), (0, p88_2), (0, p88_3), (0, (36 + v10)), (0, v27), (9, 0)]) gz_185_186 gm_185 rfl rfl rfl ?_
                refine w_aload_n gz_185_188 rfl ?_
                refine w_bipush gz_185_189 (by decide) ?_
                have ce78 : h26 151 7 = (h26 151 7) := (rfl : h26 151 7 = h26 151 7)
                have ce79 : h26 151 27 = k151_27 := ((my_fr.at frh26 is_151 rfl).trans ((my_up_fld fh6 (by decide)).trans c151_27_88_0))
                refine w_inv (k := 0) (as := [(0, 19)]) (r := []) (x := 151) (ls0 := [(2, 151), (0, 19)]) gz_185_191 gm_187 rfl is_151 rd_10 rfl rfl rfl rfl rfl (c_Model_takeNumber9_f0 (d := (d + 2)) (x1 := 19) (by omega) (by omega) (w32.trans (by omega)) Tok_h26t41 (fun h80 frh80 w81 w82 xp83 xp84 Tok_h80t85 => ?_) (fun h86 v87 frh86 w88 w89 w90 w91 w92 xp93 xp94 xp95 xp96 xp97 xp98 xp99 xp100 Tok_h86t101 => ?_))
                ·
                  have gh80 : my_fr [(10, 7), (10, 8), (10, 27), (66, -1), (67, -1), (68, -1), (69, -1), (70, -1), (71, -1), (72, -1), (73, -1), (74, -1), (75, -1), (77, -1), (78, -1), (79, -1)] h h80 := my_fr.tr gh26 (frh80.mo rfl)
                  have Mq_h80 : Mq h80 wv := Mq_ag (my_ag.fr frh80 rfl) Mq_h26
                  have Wrd_h80 : Wrd h80 := Wrd_ag (my_ag.fr frh80 rfl) Wrd_h26
                  have Wd9_h80 : Wd9 h80 := Wd9_ag (my_ag.fr frh80 rfl) Wd9_h26
                  show wp l rho (d + 4) 185 194 [(2, 151), (0, p88_0), (0, p88_1), (0, p88_2), (0, p88_3), (0, (36 + v10)), (0, v27), (9, 0)] [(0, 0)] h80 Q
                  have ps102 : h26 151 7 = (sN (sm h) (((sN (sm h) (h 151 7))))) := xp38
                  rw [ps102] at xp83
                  have tE103 : sm h26 = sm h := sm_eq (fun j => my_fr.at gh26 is_153 rfl) (fun j => my_fr.at gh26 is_154 rfl) (fun j => my_fr.at gh26 is_155 rfl)
                  rw [tE103] at xp84
                  rw [ps102] at xp84
                  refine w_istore (ls' := [(2, 151), (0, p88_0), (0, p88_1), (0, p88_2), (0, p88_3), (0, (36 + v10)), (0, v27), (0, 0)]) gz_185_194 gm_185 rfl rfl rfl ?_
                  have ce104 : h80 151 8 = (h80 151 8) := (rfl : h80 151 8 = h80 151 8)
                  have zF : fillM (sm h) (sN (sm h) (h 151 7)) (h 157 (h 151 33)) (h80 151 8) (h80 151 7) := by (unfold fillM; first | exact Or.inr (Or.inr ⟨by omega, by omega, Or.inr (Or.inr ⟨by omega, by omega, ⟨by omega, by omega⟩⟩)⟩) | exact Or.inr (Or.inr ⟨by omega, by omega, Or.inr (Or.inl ⟨by omega, by omega, by omega⟩)⟩) | exact Or.inr (Or.inr ⟨by omega, by omega, Or.inl ⟨by omega, by omega⟩⟩) | exact Or.inr (Or.inl ⟨by omega, by omega, by omega⟩) | exact Or.inl ⟨by omega, by omega⟩)
                  refine w_aload_n gz_185_196 rfl ?_
                  refine w_getX (v := 173) gz_185_197 is_151 rd_10 rfl (by decide) rfl ?_
                  refine w_bipush gz_185_200 (by decide) ?_
                  refine w_iload gz_185_202 rfl ?_
                  refine w_iadd gz_185_204 ⟨by omega, by omega⟩ ?_
                  refine w_aload_n gz_185_205 rfl ?_
                  refine v_getI (j := 8) gz_185_206 rfl is_151 rd_10 rfl (fun v106 ev106 pv106 qv106 => ?_)
                  have zv106 := ev106.trans (rfl : h80 151 8 = h80 151 8)
                  refine w_ifne (t := 217) gz_185_209 rfl (fun u107 => ?_) (fun u107 => by exfalso; omega)
                  refine w_aload_n gz_185_217 rfl ?_
                  refine w_getX (v := 173) gz_185_218 is_151 rd_10 rfl (by decide) rfl ?_
                  refine w_bipush gz_185_221 (by decide) ?_
                  refine w_iload gz_185_223 rfl ?_
                  refine w_iadd gz_185_225 ⟨by omega, by omega⟩ ?_
                  have hi109 : 0 ≤ (24 + v27) := by omega
                  have hi110 : (24 + v27) ≤ 27 := by omega
                  refine w_iald gz_185_226 is_173 rd_72 (by omega) (by omega) (fun v111 ev111 pv111 qv111 => ?_)
                  have hi112 : (-1) ≤ v111 := by omega
                  have hi113 : v111 ≤ 19 := by omega
                  have hi114 : 0 ≤ (24 + v27) := by omega
                  have hi115 : (24 + v27) ≤ 27 := by omega
                  refine w_iast gz_185_227 is_173 rd_72 (by omega) (by omega) (by omega) (by omega) (fun h116 fh116 => ?_)
                  have gh116 : my_fr [(10, 7), (10, 8), (10, 27), (66, -1), (67, -1), (68, -1), (69, -1), (70, -1), (71, -1), (72, -1), (73, -1), (74, -1), (75, -1), (77, -1), (78, -1), (79, -1)] h h116 := my_fr.up gh80 is_173 fh116 rfl
                  have Mq_h116 : Mq h116 wv := Mq_ag (my_ag.up fh116 is_173 rfl) Mq_h80
                  have Wrd_h116 : Wrd h116 := Wrd_ag (my_ag.up fh116 is_173 rfl) Wrd_h80
                  have Wd9_h116 : Wd9 h116 := Wd9_ag (my_ag.up fh116 is_173 rfl) Wd9_h80
                  have Tok_h116 : Tok h116 := Tok_ag (my_ag.up fh116 is_173 rfl) Tok_h80t85
                  refine w_aload_n gz_185_228 rfl ?_
                  refine v_getI (j := 8) gz_185_229 rfl is_151 rd_10 rfl (fun v117 ev117 pv117 qv117 => ?_)
                  have zv117 := ev117.trans ((my_up_role fh116 is_151 is_173 rfl).trans ev106.symm)
                  refine w_ifne (t := 269) gz_185_232 rfl (fun u118 => ?_) (fun u118 => by exfalso; omega)
                  refine w_aload_n gz_185_269 rfl ?_
                  refine w_bipush gz_185_270 (by decide) ?_
                  have ce119 : h116 151 7 = h80 151 7 := ((my_up_role fh116 is_151 is_173 rfl).trans (rfl : h80 151 7 = h80 151 7))
                  refine w_inv (k := 0) (as := [(0, 59)]) (r := []) (x := 151) (ls0 := [(2, 151), (0, 59)]) gz_185_272 gm_183 rfl is_151 rd_10 rfl rfl rfl rfl rfl (c_Model_takeSign9_f1 (d := (d + 2))  (v117) (ev117.symm) (by omega) (by omega) Tok_h116 (fun w120 w121 xp122 xp123 Tok_h116t124 => ?_))
                  show wp l rho (d + 4) 185 275 [(2, 151), (0, p88_0), (0, p88_1), (0, p88_2), (0, p88_3), (0, (36 + v10)), (0, v27), (0, 0)] [] h116 Q
                  have ps125 : h116 151 7 = (((sN (sm h) (((sN (sm h) (h 151 7))))))) := ((my_up_role fh116 is_151 is_173 rfl).trans xp83)
                  rw [ps125] at xp122
                  rw [ps125] at xp123
                  have psR : h116 151 7 = (((sN (sm h) (((sN (sm h) (h 151 7))))))) := ((my_up_role fh116 is_151 is_173 rfl).trans xp83)
                  have npsR : sm h116 = sm h := sm_eq (fun j => my_fr.at gh116 is_153 rfl) (fun j => my_fr.at gh116 is_154 rfl) (fun j => my_fr.at gh116 is_155 rfl)
                  have ce126 : h116 151 7 = h80 151 7 := ((my_up_role fh116 is_151 is_173 rfl).trans (rfl : h80 151 7 = h80 151 7))
                  have ce127 : h116 151 8 = v117 := ev117.symm
                  have ce128 : h116 151 27 = k151_27 := ((my_up_role fh116 is_151 is_173 rfl).trans ((my_fr.at frh80 is_151 rfl).trans ((my_fr.at frh26 is_151 rfl).trans ((my_up_fld fh6 (by decide)).trans c151_27_88_0))))
                  have r167 : ∀ j : Int, h116 167 j = h88_0 167 j := fun j => ((my_up_role fh116 is_167 is_173 rfl).trans ((my_fr.at frh80 is_167 rfl).trans ((my_fr.at frh26 is_167 rfl).trans ((my_up_role fh6 is_167 is_151 rfl).trans (rfl : h88_0 167 j = h88_0 167 j)))))
                  have r6 := r167 6
                  have c129 := ev117.symm
                  exact w_vret gz_185_275 gm_185 (k0 h116 (gh116) (by omega) (by omega) (by first | omega | exact Or.inl ⟨by omega, fillM_R zF (by first | exact Or.inl ⟨by omega, by omega⟩ | exact Or.inr ⟨by omega, Or.inl ⟨by omega, by omega⟩⟩ | exact Or.inr ⟨by omega, Or.inr ⟨by omega, by omega, by omega⟩⟩), by omega, by omega⟩ | exact Or.inr (Or.inr (Or.inl ⟨by omega, by omega, cutM_R zC (by first | exact Or.inl ⟨by omega, by omega⟩ | exact Or.inr ⟨by omega, Or.inl ⟨by omega, by omega⟩⟩ | exact Or.inr ⟨by omega, Or.inr ⟨by omega, by omega, by omega⟩⟩), by first | omega | exact cw9, by omega⟩)) | exact Or.inr (Or.inr (Or.inr (Or.inl ⟨by omega, by omega, by first | (rw [cw9]; exact fmE_R zW (by first | exact Or.inl ⟨by omega, by omega⟩ | exact Or.inr ⟨by omega, Or.inl ⟨by omega, by omega⟩⟩ | exact Or.inr ⟨by omega, Or.inr ⟨by omega, by omega, by omega⟩⟩)) | exact fmE_R zW (by first | exact Or.inl ⟨by omega, by omega⟩ | exact Or.inr ⟨by omega, Or.inl ⟨by omega, by omega⟩⟩ | exact Or.inr ⟨by omega, Or.inr ⟨by omega, by omega, by omega⟩⟩), by omega⟩))) | exact Or.inr (Or.inr (Or.inr (Or.inr (Or.inl ⟨by omega, by omega, joinM_R zJ (by first | exact Or.inl ⟨by omega, by omega⟩ | exact Or.inr ⟨by omega, Or.inl ⟨by omega, by omega⟩⟩ | exact Or.inr ⟨by omega, Or.inr ⟨by omega, by omega, by omega⟩⟩), fun _ => by omega, by omega⟩)))) | exact Or.inr (Or.inr (Or.inr (Or.inr (Or.inr (Or.inl ⟨by omega, by omega, sumM_R zS (by first | exact Or.inl ⟨by omega, by omega⟩ | exact Or.inr ⟨by omega, Or.inl ⟨by omega, by omega⟩⟩ | exact Or.inr ⟨by omega, Or.inr ⟨by omega, by omega, by omega⟩⟩), by first | omega | exact cw9, by omega⟩))))) | exact ⟨_, _, _, Or.inl ⟨by omega, fillM_R zF (by first | exact Or.inl ⟨by omega, by omega⟩ | exact Or.inr ⟨by omega, Or.inl ⟨by omega, by omega⟩⟩ | exact Or.inr ⟨by omega, Or.inr ⟨by omega, by omega, by omega⟩⟩), rfl, rfl⟩⟩ | exact ⟨_, _, _, Or.inr (Or.inr (Or.inl ⟨by omega, by omega, cutM_R zC (by first | exact Or.inl ⟨by omega, by omega⟩ | exact Or.inr ⟨by omega, Or.inl ⟨by omega, by omega⟩⟩ | exact Or.inr ⟨by omega, Or.inr ⟨by omega, by omega, by omega⟩⟩), rfl, rfl⟩))⟩ | exact ⟨_, _, _, Or.inr (Or.inr (Or.inr (Or.inl ⟨by omega, by omega, fmE_R zW (by first | exact Or.inl ⟨by omega, by omega⟩ | exact Or.inr ⟨by omega, Or.inl ⟨by omega, by omega⟩⟩ | exact Or.inr ⟨by omega, Or.inr ⟨by omega, by omega, by omega⟩⟩), rfl⟩)))⟩ | exact ⟨_, _, _, Or.inr (Or.inr (Or.inr (Or.inr (Or.inl ⟨by omega, by omega, joinM_R zJ (by first | exact Or.inl ⟨by omega, by omega⟩ | exact Or.inr ⟨by omega, Or.inl ⟨by omega, by omega⟩⟩ | exact Or.inr ⟨by omega, Or.inr ⟨by omega, by omega, by omega⟩⟩), fun q => absurd q (by omega), rfl⟩))))⟩ | exact ⟨_, _, _, Or.inr (Or.inr (Or.inr (Or.inr (Or.inr (Or.inl ⟨by omega, by omega, sumM_R zS (by first | exact Or.inl ⟨by omega, by omega⟩ | exact Or.inr ⟨by omega, Or.inl ⟨by omega, by omega⟩⟩ | exact Or.inr ⟨by omega, Or.inr ⟨by omega, by omega, by omega⟩⟩), rfl, rfl⟩)))))⟩ | exact ⟨0, 0, 0, Or.inr (Or.inl ⟨by omega, by omega, by omega⟩)⟩ | exact ⟨0, 0, 0, Or.inr (Or.inr (Or.inr (Or.inr (Or.inr (Or.inr (⟨by omega, by omega, by omega, by omega, by omega, by omega⟩))))))⟩ | omega) (by first | omega | exact Or.inl ⟨by omega, fillM_R zF (by first | exact Or.inl ⟨by omega, by omega⟩ | exact Or.inr ⟨by omega, Or.inl ⟨by omega, by omega⟩⟩ | exact Or.inr ⟨by omega, Or.inr ⟨by omega, by omega, by omega⟩⟩), by omega, by omega⟩ | exact Or.inr (Or.inr (Or.inl ⟨by omega, by omega, cutM_R zC (by first | exact Or.inl ⟨by omega, by omega⟩ | exact Or.inr ⟨by omega, Or.inl ⟨by omega, by omega⟩⟩ | exact Or.inr ⟨by omega, Or.inr ⟨by omega, by omega, by omega⟩⟩), by first | omega | exact cw9, by omega⟩)) | exact Or.inr (Or.inr (Or.inr (Or.inl ⟨by omega, by omega, by first | (rw [cw9]; exact fmE_R zW (by first | exact Or.inl ⟨by omega, by omega⟩ | exact Or.inr ⟨by omega, Or.inl ⟨by omega, by omega⟩⟩ | exact Or.inr ⟨by omega, Or.inr ⟨by omega, by omega, by omega⟩⟩)) | exact fmE_R zW (by first | exact Or.inl ⟨by omega, by omega⟩ | exact Or.inr ⟨by omega, Or.inl ⟨by omega, by omega⟩⟩ | exact Or.inr ⟨by omega, Or.inr ⟨by omega, by omega, by omega⟩⟩), by omega⟩))) | exact Or.inr (Or.inr (Or.inr (Or.inr (Or.inl ⟨by omega, by omega, joinM_R zJ (by first | exact Or.inl ⟨by omega, by omega⟩ | exact Or.inr ⟨by omega, Or.inl ⟨by omega, by omega⟩⟩ | exact Or.inr ⟨by omega, Or.inr ⟨by omega, by omega, by omega⟩⟩), fun _ => by omega, by omega⟩)))) | exact Or.inr (Or.inr (Or.inr (Or.inr (Or.inr (Or.inl ⟨by omega, by omega, sumM_R zS (by first | exact Or.inl ⟨by omega, by omega⟩ | exact Or.inr ⟨by omega, Or.inl ⟨by omega, by omega⟩⟩ | exact Or.inr ⟨by omega, Or.inr ⟨by omega, by omega, by omega⟩⟩), by first | omega | exact cw9, by omega⟩))))) | exact ⟨_, _, _, Or.inl ⟨by omega, fillM_R zF (by first | exact Or.inl ⟨by omega, by omega⟩ | exact Or.inr ⟨by omega, Or.inl ⟨by omega, by omega⟩⟩ | exact Or.inr ⟨by omega, Or.inr ⟨by omega, by omega, by omega⟩⟩), rfl, rfl⟩⟩ | exact ⟨_, _, _, Or.inr (Or.inr (Or.inl ⟨by omega, by omega, cutM_R zC (by first | exact Or.inl ⟨by omega, by omega⟩ | exact Or.inr ⟨by omega, Or.inl ⟨by omega, by omega⟩⟩ | exact Or.inr ⟨by omega, Or.inr ⟨by omega, by omega, by omega⟩⟩), rfl, rfl⟩))⟩ | exact ⟨_, _, _, Or.inr (Or.inr (Or.inr (Or.inl ⟨by omega, by omega, fmE_R zW (by first | exact Or.inl ⟨by omega, by omega⟩ | exact Or.inr ⟨by omega, Or.inl ⟨by omega, by omega⟩⟩ | exact Or.inr ⟨by omega, Or.inr ⟨by omega, by omega, by omega⟩⟩), rfl⟩)))⟩ | exact ⟨_, _, _, Or.inr (Or.inr (Or.inr (Or.inr (Or.inl ⟨by omega, by omega, joinM_R zJ (by first | exact Or.inl ⟨by omega, by omega⟩ | exact Or.inr ⟨by omega, Or.inl ⟨by omega, by omega⟩⟩ | exact Or.inr ⟨by omega, Or.inr ⟨by omega, by omega, by omega⟩⟩), fun q => absurd q (by omega), rfl⟩))))⟩ | exact ⟨_, _, _, Or.inr (Or.inr (Or.inr (Or.inr (Or.inr (Or.inl ⟨by omega, by omega, sumM_R zS (by first | exact Or.inl ⟨by omega, by omega⟩ | exact Or.inr ⟨by omega, Or.inl ⟨by omega, by omega⟩⟩ | exact Or.inr ⟨by omega, Or.inr ⟨by omega, by omega, by omega⟩⟩), rfl, rfl⟩)))))⟩ | exact ⟨0, 0, 0, Or.inr (Or.inl ⟨by omega, by omega, by omega⟩)⟩ | exact ⟨0, 0, 0, Or.inr (Or.inr (Or.inr (Or.inr (Or.inr (Or.inr (⟨by omega, by omega, by omega, by omega, by omega, by omega⟩))))))⟩ | omega) Tok_h116t124 Mq_h116 Wrd_h116 Wd9_h116)
                ·
                  have gh86 : my_fr [(10, 7), (10, 8), (10, 27), (66, -1), (67, -1), (68, -1), (69, -1), (70, -1), (71, -1), (72, -1), (73, -1), (74, -1), (75, -1), (77, -1), (78, -1), (79, -1)] h h86 := my_fr.tr gh26 (frh86.mo rfl)
                  have Mq_h86 : Mq h86 wv := Mq_ag (my_ag.fr frh86 rfl) Mq_h26
                  have Wrd_h86 : Wrd h86 := Wrd_ag (my_ag.fr frh86 rfl) Wrd_h26
                  have Wd9_h86 : Wd9 h86 := Wd9_ag (my_ag.fr frh86 rfl) Wd9_h26
                  show wp l rho (d + 4) 185 194 [(2, 151), (0, p88_0), (0, p88_1), (0, p88_2), (0, p88_3), (0, (36 + v10)), (0, v27), (9, 0)] [(0, v87)] h86 Q
                  have ps130 : h26 151 7 = (sN (sm h) (((sN (sm h) (h 151 7))))) := xp38
                  rw [ps130] at xp95
                  rw [ps130] at xp96
                  rw [ps130] at xp97
                  have tE131 : sm h26 = sm h := sm_eq (fun j => my_fr.at gh26 is_153 rfl) (fun j => my_fr.at gh26 is_154 rfl) (fun j => my_fr.at gh26 is_155 rfl)
                  rw [tE131] at xp98
                  rw [ps130] at xp98
                  rw [tE131] at xp99
                  rw [ps130] at xp99
                  rw [tE131] at xp100
                  rw [ps130] at xp100
                  refine w_istore (ls' := [(2, 151), (0, p88_0), (0, p88_1), (0, p88_2), (0, p88_3), (0, (36 + v10)), (0, v27), (0, v87)]) gz_185_194 gm_185 rfl rfl rfl ?_
                  have ce132 : h86 151 7 = (h86 151 7) := (rfl : h86 151 7 = h86 151 7)
                  have ce133 : h86 151 8 = 0 := w92
                  have zF : fillM (sm h) (sN (sm h) (h 151 7)) (h 157 (h 151 33)) (h86 151 8) (h86 151 7) := by (unfold fillM; first | exact Or.inr (Or.inr ⟨by omega, by omega, Or.inr (Or.inr ⟨by omega, by omega, ⟨by omega, by omega⟩⟩)⟩) | exact Or.inr (Or.inr ⟨by omega, by omega, Or.inr (Or.inl ⟨by omega, by omega, by omega⟩)⟩) | exact Or.inr (Or.inr ⟨by omega, by omega, Or.inl ⟨by omega, by omega⟩⟩) | exact Or.inr (Or.inl ⟨by omega, by omega, by omega⟩) | exact Or.inl ⟨by omega, by omega⟩)
                  refine w_aload_n gz_185_196 rfl ?_
                  refine w_getX (v := 173) gz_185_197 is_151 rd_10 rfl (by decide) rfl ?_
                  refine w_bipush gz_185_200 (by decide) ?_
                  refine w_iload gz_185_202 rfl ?_
                  refine w_iadd gz_185_204 ⟨by omega, by omega⟩ ?_
                  refine w_aload_n gz_185_205 rfl ?_
                  refine v_getI (j := 8) gz_185_206 rfl is_151 rd_10 rfl (fun v135 ev135 pv135 qv135 => ?_)
                  have zv135 := ev135.trans w92
                  refine w_ifne (t := 217) gz_185_209 rfl (fun u136 => by exfalso; omega) (fun u136 => ?_)
                  refine w_iload gz_185_212 rfl ?_
                  refine w_goto (t := 227) gz_185_214 rfl ?_
                  have hi137 : (-1) ≤ v87 := by omega
                  have hi138 : v87 ≤ 19 := by omega
                  have hi139 : 0 ≤ (24 + v27) := by omega
                  have hi140 : (24 + v27) ≤ 27 := by omega
                  refine w_iast gz_185_227 is_173 rd_72 (by omega) (by omega) (by omega) (by omega) (fun h141 fh141 => ?_)
                  have gh141 : my_fr [(10, 7), (10, 8), (10, 27), (66, -1), (67, -1), (68, -1), (69, -1), (70, -1), (71, -1), (72, -1), (73, -1), (74, -1), (75, -1), (77, -1), (78, -1), (79, -1)] h h141 := my_fr.up gh86 is_173 fh141 rfl
                  have Mq_h141 : Mq h141 wv := Mq_ag (my_ag.up fh141 is_173 rfl) Mq_h86
                  have Wrd_h141 : Wrd h141 := Wrd_ag (my_ag.up fh141 is_173 rfl) Wrd_h86
                  have Wd9_h141 : Wd9 h141 := Wd9_ag (my_ag.up fh141 is_173 rfl) Wd9_h86
                  have Tok_h141 : Tok h141 := Tok_ag (my_ag.up fh141 is_173 rfl) Tok_h86t101
                  refine w_aload_n gz_185_228 rfl ?_
                  refine v_getI (j := 8) gz_185_229 rfl is_151 rd_10 rfl (fun v142 ev142 pv142 qv142 => ?_)
                  have zv142 := ev142.trans ((my_up_role fh141 is_151 is_173 rfl).trans ev135.symm)
                  refine w_ifne (t := 269) gz_185_232 rfl (fun u143 => by exfalso; omega) (fun u143 => ?_)
                  refine w_iload_n gz_185_235 rfl ?_
                  refine w_ifne (t := 252) gz_185_236 rfl (fun u144 => by exfalso; omega) (fun u144 => ?_)
                  refine w_iload_n gz_185_239 rfl ?_
                  refine w_ifne (t := 252) gz_185_240 rfl (fun u145 => by exfalso; omega) (fun u145 => ?_)
                  refine w_iload_n gz_185_243 rfl ?_
                  refine w_ifne (t := 252) gz_185_244 rfl (fun u146 => by exfalso; omega) (fun u146 => ?_)
                  refine w_iload gz_185_247 rfl ?_
                  refine w_ifeq (t := 269) gz_185_249 rfl (fun u147 => ?_) (fun u147 => by exfalso; omega)
                  refine w_aload_n gz_185_269 rfl ?_
                  refine w_bipush gz_185_270 (by decide) ?_
                  have ce148 : h141 151 7 = (h86 151 7) := ((my_up_role fh141 is_151 is_173 rfl).trans (rfl : h86 151 7 = h86 151 7))
                  refine w_inv (k := 0) (as := [(0, 59)]) (r := []) (x := 151) (ls0 := [(2, 151), (0, 59)]) gz_185_272 gm_183 rfl is_151 rd_10 rfl rfl rfl rfl rfl (c_Model_takeSign9_f0 (d := (d + 2))  (ev142.symm.trans (by omega)) Tok_h141 (fun h149 frh149 w150 w151 xp152 xp153 xp154 Tok_h149t155 => ?_) (fun h156 frh156 w157 w158 w159 xp160 xp161 xp162 Tok_h156t163 => ?_))
                  ·
                    have gh149 : my_fr [(10, 7), (10, 8), (10, 27), (66, -1), (67, -1), (68, -1), (69, -1), (70, -1), (71, -1), (72, -1), (73, -1), (74, -1), (75, -1), (77, -1), (78, -1), (79, -1)] h h149 := my_fr.tr gh141 (frh149.mo rfl)
                    have Mq_h149 : Mq h149 wv := Mq_ag (my_ag.fr frh149 rfl) Mq_h141
                    have Wrd_h149 : Wrd h149 := Wrd_ag (my_ag.fr frh149 rfl) Wrd_h141
                    have Wd9_h149 : Wd9 h149 := Wd9_ag (my_ag.fr frh149 rfl) Wd9_h141
                    show wp l rho (d + 4) 185 275 [(2, 151), (0, p88_0), (0, p88_1), (0, p88_2), (0, p88_3), (0, (36 + v10)), (0, v27), (0, v87)] [] h149 Q
                    have ps164 : h141 151 7 = (sN (sm h) (((sN (sm h) (((sN (sm h) (h 151 7)))))))) := ((my_up_role fh141 is_151 is_173 rfl).trans xp98)
                    rw [ps164] at xp152
                    have tE165 : sm h141 = sm h := sm_eq (fun j => my_fr.at gh141 is_153 rfl) (fun j => my_fr.at gh141 is_154 rfl) (fun j => my_fr.at gh141 is_155 rfl)
                    rw [tE165] at xp153
                    rw [ps164] at xp153
                    rw [tE165] at xp154
                    rw [ps164] at xp154
                    have psR : h149 151 7 = h149 151 7 := (rfl : h149 151 7 = h149 151 7)
                    have npsR : sm h149 = sm h := sm_eq (fun j => my_fr.at gh149 is_153 rfl) (fun j => my_fr.at gh149 is_154 rfl) (fun j => my_fr.at gh149 is_155 rfl)
                    have ce166 : h149 151 8 = (h149 151 8) := (rfl : h149 151 8 = h149 151 8)
                    have ce167 : h149 151 27 = k151_27 := ((my_fr.at frh149 is_151 rfl).trans ((my_up_role fh141 is_151 is_173 rfl).trans ((my_fr.at frh86 is_151 rfl).trans ((my_fr.at frh26 is_151 rfl).trans ((my_up_fld fh6 (by decide)).trans c151_27_88_0)))))
                    have r167 : ∀ j : Int, h149 167 j = h88_0 167 j := fun j => ((my_fr.at frh149 is_167 rfl).trans ((my_up_role fh141 is_167 is_173 rfl).trans ((my_fr.at frh86 is_167 rfl).trans ((my_fr.at frh26 is_167 rfl).trans ((my_up_role fh6 is_167 is_151 rfl).trans (rfl : h88_0 167 j = h88_0 167 j))))))
                    have r6 := r167 6
                    have c168 := (rfl : h149 151 8 = h149 151 8)
                    exact w_vret gz_185_275 gm_185 (k0 h149 (gh149) (by omega) (by omega) (by first | omega | exact Or.inl ⟨by omega, fillM_R zF (by first | exact Or.inl ⟨by omega, by omega⟩ | exact Or.inr ⟨by omega, Or.inl ⟨by omega, by omega⟩⟩ | exact Or.inr ⟨by omega, Or.inr ⟨by omega, by omega, by omega⟩⟩), by omega, by omega⟩ | exact Or.inr (Or.inr (Or.inl ⟨by omega, by omega, cutM_R zC (by first | exact Or.inl ⟨by omega, by omega⟩ | exact Or.inr ⟨by omega, Or.inl ⟨by omega, by omega⟩⟩ | exact Or.inr ⟨by omega, Or.inr ⟨by omega, by omega, by omega⟩⟩), by first | omega | exact cw9, by omega⟩)) | exact Or.inr (Or.inr (Or.inr (Or.inl ⟨by omega, by omega, by first | (rw [cw9]; exact fmE_R zW (by first | exact Or.inl ⟨by omega, by omega⟩ | exact Or.inr ⟨by omega, Or.inl ⟨by omega, by omega⟩⟩ | exact Or.inr ⟨by omega, Or.inr ⟨by omega, by omega, by omega⟩⟩)) | exact fmE_R zW (by first | exact Or.inl ⟨by omega, by omega⟩ | exact Or.inr ⟨by omega, Or.inl ⟨by omega, by omega⟩⟩ | exact Or.inr ⟨by omega, Or.inr ⟨by omega, by omega, by omega⟩⟩), by omega⟩))) | exact Or.inr (Or.inr (Or.inr (Or.inr (Or.inl ⟨by omega, by omega, joinM_R zJ (by first | exact Or.inl ⟨by omega, by omega⟩ | exact Or.inr ⟨by omega, Or.inl ⟨by omega, by omega⟩⟩ | exact Or.inr ⟨by omega, Or.inr ⟨by omega, by omega, by omega⟩⟩), fun _ => by omega, by omega⟩)))) | exact Or.inr (Or.inr (Or.inr (Or.inr (Or.inr (Or.inl ⟨by omega, by omega, sumM_R zS (by first | exact Or.inl ⟨by omega, by omega⟩ | exact Or.inr ⟨by omega, Or.inl ⟨by omega, by omega⟩⟩ | exact Or.inr ⟨by omega, Or.inr ⟨by omega, by omega, by omega⟩⟩), by first | omega | exact cw9, by omega⟩))))) | exact ⟨_, _, _, Or.inl ⟨by omega, fillM_R zF (by first | exact Or.inl ⟨by omega, by omega⟩ | exact Or.inr ⟨by omega, Or.inl ⟨by omega, by omega⟩⟩ | exact Or.inr ⟨by omega, Or.inr ⟨by omega, by omega, by omega⟩⟩), rfl, rfl⟩⟩ | exact ⟨_, _, _, Or.inr (Or.inr (Or.inl ⟨by omega, by omega, cutM_R zC (by first | exact Or.inl ⟨by omega, by omega⟩ | exact Or.inr ⟨by omega, Or.inl ⟨by omega, by omega⟩⟩ | exact Or.inr ⟨by omega, Or.inr ⟨by omega, by omega, by omega⟩⟩), rfl, rfl⟩))⟩ | exact ⟨_, _, _, Or.inr (Or.inr (Or.inr (Or.inl ⟨by omega, by omega, fmE_R zW (by first | exact Or.inl ⟨by omega, by omega⟩ | exact Or.inr ⟨by omega, Or.inl ⟨by omega, by omega⟩⟩ | exact Or.inr ⟨by omega, Or.inr ⟨by omega, by omega, by omega⟩⟩), rfl⟩)))⟩ | exact ⟨_, _, _, Or.inr (Or.inr (Or.inr (Or.inr (Or.inl ⟨by omega, by omega, joinM_R zJ (by first | exact Or.inl ⟨by omega, by omega⟩ | exact Or.inr ⟨by omega, Or.inl ⟨by omega, by omega⟩⟩ | exact Or.inr ⟨by omega, Or.inr ⟨by omega, by omega, by omega⟩⟩), fun q => absurd q (by omega), rfl⟩))))⟩ | exact ⟨_, _, _, Or.inr (Or.inr (Or.inr (Or.inr (Or.inr (Or.inl ⟨by omega, by omega, sumM_R zS (by first | exact Or.inl ⟨by omega, by omega⟩ | exact Or.inr ⟨by omega, Or.inl ⟨by omega, by omega⟩⟩ | exact Or.inr ⟨by omega, Or.inr ⟨by omega, by omega, by omega⟩⟩), rfl, rfl⟩)))))⟩ | exact ⟨0, 0, 0, Or.inr (Or.inl ⟨by omega, by omega, by omega⟩)⟩ | exact ⟨0, 0, 0, Or.inr (Or.inr (Or.inr (Or.inr (Or.inr (Or.inr (⟨by omega, by omega, by omega, by omega, by omega, by omega⟩))))))⟩ | omega) (by first | omega | exact Or.inl ⟨by omega, fillM_R zF (by first | exact Or.inl ⟨by omega, by omega⟩ | exact Or.inr ⟨by omega, Or.inl ⟨by omega, by omega⟩⟩ | exact Or.inr ⟨by omega, Or.inr ⟨by omega, by omega, by omega⟩⟩), by omega, by omega⟩ | exact Or.inr (Or.inr (Or.inl ⟨by omega, by omega, cutM_R zC (by first | exact Or.inl ⟨by omega, by omega⟩ | exact Or.inr ⟨by omega, Or.inl ⟨by omega, by omega⟩⟩ | exact Or.inr ⟨by omega, Or.inr ⟨by omega, by omega, by omega⟩⟩), by first | omega | exact cw9, by omega⟩)) | exact Or.inr (Or.inr (Or.inr (Or.inl ⟨by omega, by omega, by first | (rw [cw9]; exact fmE_R zW (by first | exact Or.inl ⟨by omega, by omega⟩ | exact Or.inr ⟨by omega, Or.inl ⟨by omega, by omega⟩⟩ | exact Or.inr ⟨by omega, Or.inr ⟨by omega, by omega, by omega⟩⟩)) | exact fmE_R zW (by first | exact Or.inl ⟨by omega, by omega⟩ | exact Or.inr ⟨by omega, Or.inl ⟨by omega, by omega⟩⟩ | exact Or.inr ⟨by omega, Or.inr ⟨by omega, by omega, by omega⟩⟩), by omega⟩))) | exact Or.inr (Or.inr (Or.inr (Or.inr (Or.inl ⟨by omega, by omega, joinM_R zJ (by first | exact Or.inl ⟨by omega, by omega⟩ | exact Or.inr ⟨by omega, Or.inl ⟨by omega, by omega⟩⟩ | exact Or.inr ⟨by omega, Or.inr ⟨by omega, by omega, by omega⟩⟩), fun _ => by omega, by omega⟩)))) | exact Or.inr (Or.inr (Or.inr (Or.inr (Or.inr (Or.inl ⟨by omega, by omega, sumM_R zS (by first | exact Or.inl ⟨by omega, by omega⟩ | exact Or.inr ⟨by omega, Or.inl ⟨by omega, by omega⟩⟩ | exact Or.inr ⟨by omega, Or.inr ⟨by omega, by omega, by omega⟩⟩), by first | omega | exact cw9, by omega⟩))))) | exact ⟨_, _, _, Or.inl ⟨by omega, fillM_R zF (by first | exact Or.inl ⟨by omega, by omega⟩ | exact Or.inr ⟨by omega, Or.inl ⟨by omega, by omega⟩⟩ | exact Or.inr ⟨by omega, Or.inr ⟨by omega, by omega, by omega⟩⟩), rfl, rfl⟩⟩ | exact ⟨_, _, _, Or.inr (Or.inr (Or.inl ⟨by omega, by omega, cutM_R zC (by first | exact Or.inl ⟨by omega, by omega⟩ | exact Or.inr ⟨by omega, Or.inl ⟨by omega, by omega⟩⟩ | exact Or.inr ⟨by omega, Or.inr ⟨by omega, by omega, by omega⟩⟩), rfl, rfl⟩))⟩ | exact ⟨_, _, _, Or.inr (Or.inr (Or.inr (Or.inl ⟨by omega, by omega, fmE_R zW (by first | exact Or.inl ⟨by omega, by omega⟩ | exact Or.inr ⟨by omega, Or.inl ⟨by omega, by omega⟩⟩ | exact Or.inr ⟨by omega, Or.inr ⟨by omega, by omega, by omega⟩⟩), rfl⟩)))⟩ | exact ⟨_, _, _, Or.inr (Or.inr (Or.inr (Or.inr (Or.inl ⟨by omega, by omega, joinM_R zJ (by first | exact Or.inl ⟨by omega, by omega⟩ | exact Or.inr ⟨by omega, Or.inl ⟨by omega, by omega⟩⟩ | exact Or.inr ⟨by omega, Or.inr ⟨by omega, by omega, by omega⟩⟩), fun q => absurd q (by omega), rfl⟩))))⟩ | exact ⟨_, _, _, Or.inr (Or.inr (Or.inr (Or.inr (Or.inr (Or.inl ⟨by omega, by omega, sumM_R zS (by first | exact Or.inl ⟨by omega, by omega⟩ | exact Or.inr ⟨by omega, Or.inl ⟨by omega, by omega⟩⟩ | exact Or.inr ⟨by omega, Or.inr ⟨by omega, by omega, by omega⟩⟩), rfl, rfl⟩)))))⟩ | exact ⟨0, 0, 0, Or.inr (Or.inl ⟨by omega, by omega, by omega⟩)⟩ | exact ⟨0, 0, 0, Or.inr (Or.inr (Or.inr (Or.inr (Or.inr (Or.inr (⟨by omega, by omega, by omega, by omega, by omega, by omega⟩))))))⟩ | omega) Tok_h149t155 Mq_h149 Wrd_h149 Wd9_h149)
                  ·
                    have gh156 : my_fr [(10, 7), (10, 8), (10, 27), (66, -1), (67, -1), (68, -1), (69, -1), (70, -1), (71, -1), (72, -1), (73, -1), (74, -1), (75, -1), (77, -1), (78, -1), (79, -1)] h h156 := my_fr.tr gh141 (frh156.mo rfl)
                    have Mq_h156 : Mq h156 wv := Mq_ag (my_ag.fr frh156 rfl) Mq_h141
                    have Wrd_h156 : Wrd h156 := Wrd_ag (my_ag.fr frh156 rfl) Wrd_h141
                    have Wd9_h156 : Wd9 h156 := Wd9_ag (my_ag.fr frh156 rfl) Wd9_h141
                    show wp l rho (d + 4) 185 275 [(2, 151), (0, p88_0), (0, p88_1), (0, p88_2), (0, p88_3), (0, (36 + v10)), (0, v27), (0, v87)] [] h156 Q
                    have ps169 : h141 151 7 = (sN (sm h) (((sN (sm h) (((sN (sm h) (h 151 7)))))))) := ((my_up_role fh141 is_151 is_173 rfl).trans xp98)
                    rw [ps169] at xp160
                    have tE170 : sm h141 = sm h := sm_eq (fun j => my_fr.at gh141 is_153 rfl) (fun j => my_fr.at gh141 is_154 rfl) (fun j => my_fr.at gh141 is_155 rfl)
                    rw [tE170] at xp161
                    rw [ps169] at xp161
                    rw [tE170] at xp162
                    rw [ps169] at xp162
                    have psR : h156 151 7 = (sN (sm h) (((sN (sm h) (((sN (sm h) (((sN (sm h) (h 151 7))))))))))) := xp161
                    have npsR : sm h156 = sm h := sm_eq (fun j => my_fr.at gh156 is_153 rfl) (fun j => my_fr.at gh156 is_154 rfl) (fun j => my_fr.at gh156 is_155 rfl)
                    have ce171 : h156 151 7 = (h156 151 7) := (rfl : h156 151 7 = h156 151 7)
                    have ce172 : h156 151 8 = 0 := w159
                    have ce173 : h156 151 27 = k151_27 := ((my_fr.at frh156 is_151 rfl).trans ((my_up_role fh141 is_151 is_173 rfl).trans ((my_fr.at frh86 is_151 rfl).trans ((my_fr.at frh26 is_151 rfl).trans ((my_up_fld fh6 (by decide)).trans c151_27_88_0)))))
                    have r167 : ∀ j : Int, h156 167 j = h88_0 167 j := fun j => ((my_fr.at frh156 is_167 rfl).trans ((my_up_role fh141 is_167 is_173 rfl).trans ((my_fr.at frh86 is_167 rfl).trans ((my_fr.at frh26 is_167 rfl).trans ((my_up_role fh6 is_167 is_151 rfl).trans (rfl : h88_0 167 j = h88_0 167 j))))))
                    have r6 := r167 6
                    have c174 := (rfl : h156 151 7 = h156 151 7)
                    have c175 := w159
                    exact w_vret gz_185_275 gm_185 (k1 h156 (gh156) (by omega) (by omega) (by omega) (by first | omega | exact Or.inl ⟨by omega, fillM_R zF (by first | exact Or.inl ⟨by omega, by omega⟩ | exact Or.inr ⟨by omega, Or.inl ⟨by omega, by omega⟩⟩ | exact Or.inr ⟨by omega, Or.inr ⟨by omega, by omega, by omega⟩⟩), by omega, by omega⟩ | exact Or.inr (Or.inr (Or.inl ⟨by omega, by omega, cutM_R zC (by first | exact Or.inl ⟨by omega, by omega⟩ | exact Or.inr ⟨by omega, Or.inl ⟨by omega, by omega⟩⟩ | exact Or.inr ⟨by omega, Or.inr ⟨by omega, by omega, by omega⟩⟩), by first | omega | exact cw9, by omega⟩)) | exact Or.inr (Or.inr (Or.inr (Or.inl ⟨by omega, by omega, by first | (rw [cw9]; exact fmE_R zW (by first | exact Or.inl ⟨by omega, by omega⟩ | exact Or.inr ⟨by omega, Or.inl ⟨by omega, by omega⟩⟩ | exact Or.inr ⟨by omega, Or.inr ⟨by omega, by omega, by omega⟩⟩)) | exact fmE_R zW (by first | exact Or.inl ⟨by omega, by omega⟩ | exact Or.inr ⟨by omega, Or.inl ⟨by omega, by omega⟩⟩ | exact Or.inr ⟨by omega, Or.inr ⟨by omega, by omega, by omega⟩⟩), by omega⟩))) | exact Or.inr (Or.inr (Or.inr (Or.inr (Or.inl ⟨by omega, by omega, joinM_R zJ (by first | exact Or.inl ⟨by omega, by omega⟩ | exact Or.inr ⟨by omega, Or.inl ⟨by omega, by omega⟩⟩ | exact Or.inr ⟨by omega, Or.inr ⟨by omega, by omega, by omega⟩⟩), fun _ => by omega, by omega⟩)))) | exact Or.inr (Or.inr (Or.inr (Or.inr (Or.inr (Or.inl ⟨by omega, by omega, sumM_R zS (by first | exact Or.inl ⟨by omega, by omega⟩ | exact Or.inr ⟨by omega, Or.inl ⟨by omega, by omega⟩⟩ | exact Or.inr ⟨by omega, Or.inr ⟨by omega, by omega, by omega⟩⟩), by first | omega | exact cw9, by omega⟩))))) | exact ⟨_, _, _, Or.inl ⟨by omega, fillM_R zF (by first | exact Or.inl ⟨by omega, by omega⟩ | exact Or.inr ⟨by omega, Or.inl ⟨by omega, by omega⟩⟩ | exact Or.inr ⟨by omega, Or.inr ⟨by omega, by omega, by omega⟩⟩), rfl, rfl⟩⟩ | exact ⟨_, _, _, Or.inr (Or.inr (Or.inl ⟨by omega, by omega, cutM_R zC (by first | exact Or.inl ⟨by omega, by omega⟩ | exact Or.inr ⟨by omega, Or.inl ⟨by omega, by omega⟩⟩ | exact Or.inr ⟨by omega, Or.inr ⟨by omega, by omega, by omega⟩⟩), rfl, rfl⟩))⟩ | exact ⟨_, _, _, Or.inr (Or.inr (Or.inr (Or.inl ⟨by omega, by omega, fmE_R zW (by first | exact Or.inl ⟨by omega, by omega⟩ | exact Or.inr ⟨by omega, Or.inl ⟨by omega, by omega⟩⟩ | exact Or.inr ⟨by omega, Or.inr ⟨by omega, by omega, by omega⟩⟩), rfl⟩)))⟩ | exact ⟨_, _, _, Or.inr (Or.inr (Or.inr (Or.inr (Or.inl ⟨by omega, by omega, joinM_R zJ (by first | exact Or.inl ⟨by omega, by omega⟩ | exact Or.inr ⟨by omega, Or.inl ⟨by omega, by omega⟩⟩ | exact Or.inr ⟨by omega, Or.inr ⟨by omega, by omega, by omega⟩⟩), fun q => absurd q (by omega), rfl⟩))))⟩ | exact ⟨_, _, _, Or.inr (Or.inr (Or.inr (Or.inr (Or.inr (Or.inl ⟨by omega, by omega, sumM_R zS (by first | exact Or.inl ⟨by omega, by omega⟩ | exact Or.inr ⟨by omega, Or.inl ⟨by omega, by omega⟩⟩ | exact Or.inr ⟨by omega, Or.inr ⟨by omega, by omega, by omega⟩⟩), rfl, rfl⟩)))))⟩ | exact ⟨0, 0, 0, Or.inr (Or.inl ⟨by omega, by omega, by omega⟩)⟩ | exact ⟨0, 0, 0, Or.inr (Or.inr (Or.inr (Or.inr (Or.inr (Or.inr (⟨by omega, by omega, by omega, by omega, by omega, by omega⟩))))))⟩ | omega) (by first | omega | exact Or.inl ⟨by omega, fillM_R zF (by first | exact Or.inl ⟨by omega, by omega⟩ | exact Or.inr ⟨by omega, Or.inl ⟨by omega, by omega⟩⟩ | exact Or.inr ⟨by omega, Or.inr ⟨by omega, by omega, by omega⟩⟩), by omega, by omega⟩ | exact Or.inr (Or.inr (Or.inl ⟨by omega, by omega, cutM_R zC (by first | exact Or.inl ⟨by omega, by omega⟩ | exact Or.inr ⟨by omega, Or.inl ⟨by omega, by omega⟩⟩ | exact Or.inr ⟨by omega, Or.inr ⟨by omega, by omega, by omega⟩⟩), by first | omega | exact cw9, by omega⟩)) | exact Or.inr (Or.inr (Or.inr (Or.inl ⟨by omega, by omega, by first | (rw [cw9]; exact fmE_R zW (by first | exact Or.inl ⟨by omega, by omega⟩ | exact Or.inr ⟨by omega, Or.inl ⟨by omega, by omega⟩⟩ | exact Or.inr ⟨by omega, Or.inr ⟨by omega, by omega, by omega⟩⟩)) | exact fmE_R zW (by first | exact Or.inl ⟨by omega, by omega⟩ | exact Or.inr ⟨by omega, Or.inl ⟨by omega, by omega⟩⟩ | exact Or.inr ⟨by omega, Or.inr ⟨by omega, by omega, by omega⟩⟩), by omega⟩))) | exact Or.inr (Or.inr (Or.inr (Or.inr (Or.inl ⟨by omega, by omega, joinM_R zJ (by first | exact Or.inl ⟨by omega, by omega⟩ | exact Or.inr ⟨by omega, Or.inl ⟨by omega, by omega⟩⟩ | exact Or.inr ⟨by omega, Or.inr ⟨by omega, by omega, by omega⟩⟩), fun _ => by omega, by omega⟩)))) | exact Or.inr (Or.inr (Or.inr (Or.inr (Or.inr (Or.inl ⟨by omega, by omega, sumM_R zS (by first | exact Or.inl ⟨by omega, by omega⟩ | exact Or.inr ⟨by omega, Or.inl ⟨by omega, by omega⟩⟩ | exact Or.inr ⟨by omega, Or.inr ⟨by omega, by omega, by omega⟩⟩), by first | omega | exact cw9, by omega⟩))))) | exact ⟨_, _, _, Or.inl ⟨by omega, fillM_R zF (by first | exact Or.inl ⟨by omega, by omega⟩ | exact Or.inr ⟨by omega, Or.inl ⟨by omega, by omega⟩⟩ | exact Or.inr ⟨by omega, Or.inr ⟨by omega, by omega, by omega⟩⟩), rfl, rfl⟩⟩ | exact ⟨_, _, _, Or.inr (Or.inr (Or.inl ⟨by omega, by omega, cutM_R zC (by first | exact Or.inl ⟨by omega, by omega⟩ | exact Or.inr ⟨by omega, Or.inl ⟨by omega, by omega⟩⟩ | exact Or.inr ⟨by omega, Or.inr ⟨by omega, by omega, by omega⟩⟩), rfl, rfl⟩))⟩ | exact ⟨_, _, _, Or.inr (Or.inr (Or.inr (Or.inl ⟨by omega, by omega, fmE_R zW (by first | exact Or.inl ⟨by omega, by omega⟩ | exact Or.inr ⟨by omega, Or.inl ⟨by omega, by omega⟩⟩ | exact Or.inr ⟨by omega, Or.inr ⟨by omega, by omega, by omega⟩⟩), rfl⟩)))⟩ | exact ⟨_, _, _, Or.inr (Or.inr (Or.inr (Or.inr (Or.inl ⟨by omega, by omega, joinM_R zJ (by first | exact Or.inl ⟨by omega, by omega⟩ | exact Or.inr ⟨by omega, Or.inl ⟨by omega, by omega⟩⟩ | exact Or.inr ⟨by omega, Or.inr ⟨by omega, by omega, by omega⟩⟩), fun q => absurd q (by omega), rfl⟩))))⟩ | exact ⟨_, _, _, Or.inr (Or.inr (Or.inr (Or.inr (Or.inr (Or.inl ⟨by omega, by omega, sumM_R zS (by first | exact Or.inl ⟨by omega, by omega⟩ | exact Or.inr ⟨by omega, Or.inl ⟨by omega, by omega⟩⟩ | exact Or.inr ⟨by omega, Or.inr ⟨by omega, by omega, by omega⟩⟩), rfl, rfl⟩)))))⟩ | exact ⟨0, 0, 0, Or.inr (Or.inl ⟨by omega, by omega, by omega⟩)⟩ | exact ⟨0, 0, 0, Or.inr (Or.inr (Or.inr (Or.inr (Or.inr (Or.inr (⟨by omega, by omega, by omega, by omega, by omega, by omega⟩))))))⟩ | omega) Tok_h156t163 Mq_h156 Wrd_h156 Wd9_h156)
            ·
              refine w_aload_n gz_185_162 rfl ?_
              refine w_iload gz_185_163 rfl ?_
              have ce176 : h6 151 7 = (v3 + 1) := (my_up_self fh6)
              have ce177 : h6 151 27 = k151_27 := ((my_up_fld fh6 (by decide)).trans c151_27_88_0)
              have hi178 : 36 ≤ (36 + v10) := by omega
              have hi179 : (36 + v10) ≤ 41 := by omega
              refine w_inv (k := 0) (as := [(0, (36 + v10))]) (r := []) (x := 151) (ls0 := [(2, 151), (0, (36 + v10))]) gz_185_165 gm_190 rfl is_151 rd_10 rfl rfl rfl rfl rfl (c_Model_readSum9_f0 (d := d) (x1 := (36 + v10)) (wv := wv) (by omega) (by omega) (((my_up_fld fh6 (by decide)).trans ev1.symm).trans (by omega)) (by first | assumption | omega) (by first | assumption | omega) Tok_h6t8 Mq_h6 Wd9_h6 (by first | assumption | exact no_such_saying | exact Fp_told (by omega) (by omega) | omega | (subst_vars; omega) | omega) (fun h180 frh180 w181 w182 xp183 xp184 Tok_h180t185 Mq_h180t186 Wd9_h180t187 => ?_) (fun h188 frh188 w189 w190 w191 xp192 xp193 xp194 xp195 xp196 Tok_h188t197 Mq_h188t198 Wd9_h188t199 => ?_))
              ·
                have gh180 : my_fr [(10, 7), (10, 8), (10, 27), (66, -1), (67, -1), (68, -1), (69, -1), (70, -1), (71, -1), (72, -1), (73, -1), (74, -1), (75, -1), (77, -1), (78, -1), (79, -1)] h h180 := my_fr.tr gh6 (frh180.mo rfl)
                have Wrd_h180 : Wrd h180 := Wrd_ag (my_ag.fr frh180 rfl) Wrd_h6
                have Wd9_h180 : Wd9 h180 := Wd9_ag (my_ag.fr frh180 rfl) Wd9_h6
                show wp l rho (d + 4) 185 168 [(2, 151), (0, p88_0), (0, p88_1), (0, p88_2), (0, p88_3), (0, (36 + v10)), (9, 0), (9, 0)] [] h180 Q
                have ps200 : h6 151 7 = (sN (sm h) (h 151 7)) := ps7
                rw [ps200] at xp183
                have tE201 : sm h6 = sm h := sm_eq (fun j => my_fr.at gh6 is_153 rfl) (fun j => my_fr.at gh6 is_154 rfl) (fun j => my_fr.at gh6 is_155 rfl)
                rw [tE201] at xp184
                rw [ps200] at xp184
                have q27 : h6 151 27 = h 151 27 := by omega
                have q57 : h6 157 = h 157 := funext (fun j => my_fr.at gh6 is_157 rfl)
                have zS := xp184
                simp only [q27, q57] at zS
                refine w_goto (t := 228) gz_185_168 rfl ?_
                refine w_aload_n gz_185_228 rfl ?_
                refine v_getI (j := 8) gz_185_229 rfl is_151 rd_10 rfl (fun v202 ev202 pv202 qv202 => ?_)
                have zv202 := ev202.trans (rfl : h180 151 8 = h180 151 8)
                refine w_ifne (t := 269) gz_185_232 rfl (fun u203 => ?_) (fun u203 => by exfalso; omega)
                refine w_aload_n gz_185_269 rfl ?_
                refine w_bipush gz_185_270 (by decide) ?_
                refine w_inv (k := 0) (as := [(0, 59)]) (r := []) (x := 151) (ls0 := [(2, 151), (0, 59)]) gz_185_272 gm_183 rfl is_151 rd_10 rfl rfl rfl rfl rfl (c_Model_takeSign9_f1 (d := (d + 2))  (v202) (ev202.symm) (by omega) (by omega) Tok_h180t185 (fun w204 w205 xp206 xp207 Tok_h180t208 => ?_))
                show wp l rho (d + 4) 185 275 [(2, 151), (0, p88_0), (0, p88_1), (0, p88_2), (0, p88_3), (0, (36 + v10)), (9, 0), (9, 0)] [] h180 Q
                have psR : h180 151 7 = h180 151 7 := (rfl : h180 151 7 = h180 151 7)
                have npsR : sm h180 = sm h := sm_eq (fun j => my_fr.at gh180 is_153 rfl) (fun j => my_fr.at gh180 is_154 rfl) (fun j => my_fr.at gh180 is_155 rfl)
                have ce209 : h180 151 8 = v202 := ev202.symm
                have ce210 : h180 151 27 = k151_27 := ((my_fr.at frh180 is_151 rfl).trans ((my_up_fld fh6 (by decide)).trans c151_27_88_0))
                have r167 : ∀ j : Int, h180 167 j = h88_0 167 j := fun j => ((my_fr.at frh180 is_167 rfl).trans ((my_up_role fh6 is_167 is_151 rfl).trans (rfl : h88_0 167 j = h88_0 167 j)))
                have r6 := r167 6
                have c211 := ev202.symm
                exact w_vret gz_185_275 gm_185 (k0 h180 (gh180) (by omega) (by omega) (by first | omega | exact Or.inl ⟨by omega, fillM_R zF (by first | exact Or.inl ⟨by omega, by omega⟩ | exact Or.inr ⟨by omega, Or.inl ⟨by omega, by omega⟩⟩ | exact Or.inr ⟨by omega, Or.inr ⟨by omega, by omega, by omega⟩⟩), by omega, by omega⟩ | exact Or.inr (Or.inr (Or.inl ⟨by omega, by omega, cutM_R zC (by first | exact Or.inl ⟨by omega, by omega⟩ | exact Or.inr ⟨by omega, Or.inl ⟨by omega, by omega⟩⟩ | exact Or.inr ⟨by omega, Or.inr ⟨by omega, by omega, by omega⟩⟩), by first | omega | exact cw9, by omega⟩)) | exact Or.inr (Or.inr (Or.inr (Or.inl ⟨by omega, by omega, by first | (rw [cw9]; exact fmE_R zW (by first | exact Or.inl ⟨by omega, by omega⟩ | exact Or.inr ⟨by omega, Or.inl ⟨by omega, by omega⟩⟩ | exact Or.inr ⟨by omega, Or.inr ⟨by omega, by omega, by omega⟩⟩)) | exact fmE_R zW (by first | exact Or.inl ⟨by omega, by omega⟩ | exact Or.inr ⟨by omega, Or.inl ⟨by omega, by omega⟩⟩ | exact Or.inr ⟨by omega, Or.inr ⟨by omega, by omega, by omega⟩⟩), by omega⟩))) | exact Or.inr (Or.inr (Or.inr (Or.inr (Or.inl ⟨by omega, by omega, joinM_R zJ (by first | exact Or.inl ⟨by omega, by omega⟩ | exact Or.inr ⟨by omega, Or.inl ⟨by omega, by omega⟩⟩ | exact Or.inr ⟨by omega, Or.inr ⟨by omega, by omega, by omega⟩⟩), fun _ => by omega, by omega⟩)))) | exact Or.inr (Or.inr (Or.inr (Or.inr (Or.inr (Or.inl ⟨by omega, by omega, sumM_R zS (by first | exact Or.inl ⟨by omega, by omega⟩ | exact Or.inr ⟨by omega, Or.inl ⟨by omega, by omega⟩⟩ | exact Or.inr ⟨by omega, Or.inr ⟨by omega, by omega, by omega⟩⟩), by first | omega | exact cw9, by omega⟩))))) | exact ⟨_, _, _, Or.inl ⟨by omega, fillM_R zF (by first | exact Or.inl ⟨by omega, by omega⟩ | exact Or.inr ⟨by omega, Or.inl ⟨by omega, by omega⟩⟩ | exact Or.inr ⟨by omega, Or.inr ⟨by omega, by omega, by omega⟩⟩), rfl, rfl⟩⟩ | exact ⟨_, _, _, Or.inr (Or.inr (Or.inl ⟨by omega, by omega, cutM_R zC (by first | exact Or.inl ⟨by omega, by omega⟩ | exact Or.inr ⟨by omega, Or.inl ⟨by omega, by omega⟩⟩ | exact Or.inr ⟨by omega, Or.inr ⟨by omega, by omega, by omega⟩⟩), rfl, rfl⟩))⟩ | exact ⟨_, _, _, Or.inr (Or.inr (Or.inr (Or.inl ⟨by omega, by omega, fmE_R zW (by first | exact Or.inl ⟨by omega, by omega⟩ | exact Or.inr ⟨by omega, Or.inl ⟨by omega, by omega⟩⟩ | exact Or.inr ⟨by omega, Or.inr ⟨by omega, by omega, by omega⟩⟩), rfl⟩)))⟩ | exact ⟨_, _, _, Or.inr (Or.inr (Or.inr (Or.inr (Or.inl ⟨by omega, by omega, joinM_R zJ (by first | exact Or.inl ⟨by omega, by omega⟩ | exact Or.inr ⟨by omega, Or.inl ⟨by omega, by omega⟩⟩ | exact Or.inr ⟨by omega, Or.inr ⟨by omega, by omega, by omega⟩⟩), fun q => absurd q (by omega), rfl⟩))))⟩ | exact ⟨_, _, _, Or.inr (Or.inr (Or.inr (Or.inr (Or.inr (Or.inl ⟨by omega, by omega, sumM_R zS (by first | exact Or.inl ⟨by omega, by omega⟩ | exact Or.inr ⟨by omega, Or.inl ⟨by omega, by omega⟩⟩ | exact Or.inr ⟨by omega, Or.inr ⟨by omega, by omega, by omega⟩⟩), rfl, rfl⟩)))))⟩ | exact ⟨0, 0, 0, Or.inr (Or.inl ⟨by omega, by omega, by omega⟩)⟩ | exact ⟨0, 0, 0, Or.inr (Or.inr (Or.inr (Or.inr (Or.inr (Or.inr (⟨by omega, by omega, by omega, by omega, by omega, by omega⟩))))))⟩ | omega) (by first | omega | exact Or.inl ⟨by omega, fillM_R zF (by first | exact Or.inl ⟨by omega, by omega⟩ | exact Or.inr ⟨by omega, Or.inl ⟨by omega, by omega⟩⟩ | exact Or.inr ⟨by omega, Or.inr ⟨by omega, by omega, by omega⟩⟩), by omega, by omega⟩ | exact Or.inr (Or.inr (Or.inl ⟨by omega, by omega, cutM_R zC (by first | exact Or.inl ⟨by omega, by omega⟩ | exact Or.inr ⟨by omega, Or.inl ⟨by omega, by omega⟩⟩ | exact Or.inr ⟨by omega, Or.inr ⟨by omega, by omega, by omega⟩⟩), by first | omega | exact cw9, by omega⟩)) | exact Or.inr (Or.inr (Or.inr (Or.inl ⟨by omega, by omega, by first | (rw [cw9]; exact fmE_R zW (by first | exact Or.inl ⟨by omega, by omega⟩ | exact Or.inr ⟨by omega, Or.inl ⟨by omega, by omega⟩⟩ | exact Or.inr ⟨by omega, Or.inr ⟨by omega, by omega, by omega⟩⟩)) | exact fmE_R zW (by first | exact Or.inl ⟨by omega, by omega⟩ | exact Or.inr ⟨by omega, Or.inl ⟨by omega, by omega⟩⟩ | exact Or.inr ⟨by omega, Or.inr ⟨by omega, by omega, by omega⟩⟩), by omega⟩))) | exact Or.inr (Or.inr (Or.inr (Or.inr (Or.inl ⟨by omega, by omega, joinM_R zJ (by first | exact Or.inl ⟨by omega, by omega⟩ | exact Or.inr ⟨by omega, Or.inl ⟨by omega, by omega⟩⟩ | exact Or.inr ⟨by omega, Or.inr ⟨by omega, by omega, by omega⟩⟩), fun _ => by omega, by omega⟩)))) | exact Or.inr (Or.inr (Or.inr (Or.inr (Or.inr (Or.inl ⟨by omega, by omega, sumM_R zS (by first | exact Or.inl ⟨by omega, by omega⟩ | exact Or.inr ⟨by omega, Or.inl ⟨by omega, by omega⟩⟩ | exact Or.inr ⟨by omega, Or.inr ⟨by omega, by omega, by omega⟩⟩), by first | omega | exact cw9, by omega⟩))))) | exact ⟨_, _, _, Or.inl ⟨by omega, fillM_R zF (by first | exact Or.inl ⟨by omega, by omega⟩ | exact Or.inr ⟨by omega, Or.inl ⟨by omega, by omega⟩⟩ | exact Or.inr ⟨by omega, Or.inr ⟨by omega, by omega, by omega⟩⟩), rfl, rfl⟩⟩ | exact ⟨_, _, _, Or.inr (Or.inr (Or.inl ⟨by omega, by omega, cutM_R zC (by first | exact Or.inl ⟨by omega, by omega⟩ | exact Or.inr ⟨by omega, Or.inl ⟨by omega, by omega⟩⟩ | exact Or.inr ⟨by omega, Or.inr ⟨by omega, by omega, by omega⟩⟩), rfl, rfl⟩))⟩ | exact ⟨_, _, _, Or.inr (Or.inr (Or.inr (Or.inl ⟨by omega, by omega, fmE_R zW (by first | exact Or.inl ⟨by omega, by omega⟩ | exact Or.inr ⟨by omega, Or.inl ⟨by omega, by omega⟩⟩ | exact Or.inr ⟨by omega, Or.inr ⟨by omega, by omega, by omega⟩⟩), rfl⟩)))⟩ | exact ⟨_, _, _, Or.inr (Or.inr (Or.inr (Or.inr (Or.inl ⟨by omega, by omega, joinM_R zJ (by first | exact Or.inl ⟨by omega, by omega⟩ | exact Or.inr ⟨by omega, Or.inl ⟨by omega, by omega⟩⟩ | exact Or.inr ⟨by omega, Or.inr ⟨by omega, by omega, by omega⟩⟩), fun q => absurd q (by omega), rfl⟩))))⟩ | exact ⟨_, _, _, Or.inr (Or.inr (Or.inr (Or.inr (Or.inr (Or.inl ⟨by omega, by omega, sumM_R zS (by first | exact Or.inl ⟨by omega, by omega⟩ | exact Or.inr ⟨by omega, Or.inl ⟨by omega, by omega⟩⟩ | exact Or.inr ⟨by omega, Or.inr ⟨by omega, by omega, by omega⟩⟩), rfl, rfl⟩)))))⟩ | exact ⟨0, 0, 0, Or.inr (Or.inl ⟨by omega, by omega, by omega⟩)⟩ | exact ⟨0, 0, 0, Or.inr (Or.inr (Or.inr (Or.inr (Or.inr (Or.inr (⟨by omega, by omega, by omega, by omega, by omega, by omega⟩))))))⟩ | omega) Tok_h180t208 Mq_h180t186 Wrd_h180 Wd9_h180t187)
              ·
                have gh188 : my_fr [(10, 7), (10, 8), (10, 27), (66, -1), (67, -1), (68, -1), (69, -1), (70, -1), (71, -1), (72, -1), (73, -1), (74, -1), (75, -1), (77, -1), (78, -1), (79, -1)] h h188 := my_fr.tr gh6 (frh188.mo rfl)
                have Wrd_h188 : Wrd h188 := Wrd_ag (my_ag.fr frh188 rfl) Wrd_h6
                have Wd9_h188 : Wd9 h188 := Wd9_ag (my_ag.fr frh188 rfl) Wd9_h6
                show wp l rho (d + 4) 185 168 [(2, 151), (0, p88_0), (0, p88_1), (0, p88_2), (0, p88_3), (0, (36 + v10)), (9, 0), (9, 0)] [] h188 Q
                have ps212 : h6 151 7 = (sN (sm h) (h 151 7)) := ps7
                rw [ps212] at xp194
                have tE213 : sm h6 = sm h := sm_eq (fun j => my_fr.at gh6 is_153 rfl) (fun j => my_fr.at gh6 is_154 rfl) (fun j => my_fr.at gh6 is_155 rfl)
                rw [tE213] at xp195
                rw [ps212] at xp195
                have q27 : h6 151 27 = h 151 27 := by omega
                have q57 : h6 157 = h 157 := funext (fun j => my_fr.at gh6 is_157 rfl)
                have zS := xp195
                simp only [q27, q57] at zS
                have pk := xp192
                have pk3 := xp193
                have kd := xp196
                refine w_goto (t := 228) gz_185_168 rfl ?_
                refine w_aload_n gz_185_228 rfl ?_
                refine v_getI (j := 8) gz_185_229 rfl is_151 rd_10 rfl (fun v214 ev214 pv214 qv214 => ?_)
                have zv214 := ev214.trans w191
                refine w_ifne (t := 269) gz_185_232 rfl (fun u215 => by exfalso; omega) (fun u215 => ?_)
                refine w_iload_n gz_185_235 rfl ?_
                refine w_ifne (t := 252) gz_185_236 rfl (fun u216 => by exfalso; omega) (fun u216 => ?_)
                refine w_iload_n gz_185_239 rfl ?_
                refine w_ifne (t := 252) gz_185_240 rfl (fun u217 => by exfalso; omega) (fun u217 => ?_)
                refine w_iload_n gz_185_243 rfl ?_
                refine w_ifne (t := 252) gz_185_244 rfl (fun u218 => by exfalso; omega) (fun u218 => ?_)
                refine w_iload gz_185_247 rfl ?_
                refine w_ifeq (t := 269) gz_185_249 rfl (fun u219 => by exfalso; omega) (fun u219 => ?_)
                refine w_aload_n gz_185_252 rfl ?_
                refine w_iload gz_185_253 rfl ?_
                have d167 : ∀ j : Int, h188 167 j = h88_0 167 j := fun j => ((my_fr.at frh188 is_167 rfl).trans ((my_up_role fh6 is_167 is_151 rfl).trans (rfl : h88_0 167 j = h88_0 167 j)))
                have d6 := d167 6
                have mr0 := Mq_h188t198
                have ce220 : h188 151 27 = k151_27 := ((my_fr.at frh188 is_151 rfl).trans ((my_up_fld fh6 (by decide)).trans c151_27_88_0))
                refine w_inv (k := 1) (as := [(0, (36 + v10))]) (r := []) (x := 151) (ls0 := [(2, 151), (0, (36 + v10)), (9, 0)]) gz_185_255 gm_182 rfl is_151 rd_10 rfl rfl rfl rfl rfl (c_Model_pane2_f0 (d := (d + 3)) (x1 := (36 + v10)) (by omega) (by omega) (ev214.symm.trans (by omega)) (pk.1) (fun h221 frh221 w222 xp223 xp224 => ?_))
                have gh221 : my_fr [(10, 7), (10, 8), (10, 27), (66, -1), (67, -1), (68, -1), (69, -1), (70, -1), (71, -1), (72, -1), (73, -1), (74, -1), (75, -1), (77, -1), (78, -1), (79, -1)] h h221 := my_fr.tr gh188 (frh221.mo rfl)
                have Wrd_h221 : Wrd h221 := Wrd_ag (my_ag.fr frh221 rfl) Wrd_h188
                have Wd9_h221 : Wd9 h221 := Wd9_ag (my_ag.fr frh221 rfl) Wd9_h188t199
                have Tok_h221 : Tok h221 := Tok_ag (my_ag.fr frh221 rfl) Tok_h188t197
                show wp l rho (d + 4) 185 258 [(2, 151), (0, p88_0), (0, p88_1), (0, p88_2), (0, p88_3), (0, (36 + v10)), (9, 0), (9, 0)] [] h221 Q
                have ag0 : my_ag M3F h188 h221 := my_ag.fr frh221 rfl
                have e27 := xp223
                have e67 : h221 167 6 = h188 167 6 := ag0.at mis_167 rfl
                have mc := ms_c e27
                try (have m3 := mc.2.2.1 kd; rw [← m3] at zW)
                try (have q58 : h188 157 = h 157 := funext (fun j => my_fr.at gh188 is_157 rfl); have j4 := mc.2.1 kd.1; rw [kd.2, q58] at j4)
                refine w_aload_n gz_185_258 rfl ?_
                refine w_getX (v := 167) gz_185_259 is_151 rd_10 rfl (by decide) rfl ?_
                refine w_bipush gz_185_262 (by decide) ?_
                refine w_dup2 gz_185_264 rfl rfl ?_
                refine w_iald gz_185_265 is_167 rd_66 (by omega) (by omega) (fun v226 ev226 pv226 qv226 => ?_)
                have zv226 := ev226.trans ((my_fr.at frh221 is_167 rfl).trans ((my_fr.at frh188 is_167 rfl).trans ev10.symm))
                refine w_iconst gz_185_266 (by decide) ?_
                refine w_iadd gz_185_267 ⟨by omega, by omega⟩ ?_
                have hi227 : 0 ≤ (v226 + 1) := by omega
                have hi228 : (v226 + 1) ≤ 6 := by omega
                refine w_iast gz_185_268 is_167 rd_66 (by omega) (by omega) (by omega) (by omega) (fun h229 fh229 => ?_)
                have gh229 : my_fr [(10, 7), (10, 8), (10, 27), (66, -1), (67, -1), (68, -1), (69, -1), (70, -1), (71, -1), (72, -1), (73, -1), (74, -1), (75, -1), (77, -1), (78, -1), (79, -1)] h h229 := my_fr.up gh221 is_167 fh229 rfl
                have Wrd_h229 : Wrd h229 := Wrd_ag (my_ag.up fh229 is_167 rfl) Wrd_h221
                have Wd9_h229 : Wd9 h229 := Wd9_ag (my_ag.up fh229 is_167 rfl) Wd9_h221
                have Tok_h229 : Tok h229 := Tok_ag (my_ag.up fh229 is_167 rfl) Tok_h221
                have Mq_h229t230 : Mq h229 wv := Mq_add mr0 (by omega) pk pk3 ag0 e27 fh229 (by omega) (by omega)
                have k6 := my_up_self fh229
                refine w_aload_n gz_185_269 rfl ?_
                refine w_bipush gz_185_270 (by decide) ?_
                have ce231 : h229 151 7 = (h188 151 7) := ((my_up_role fh229 is_151 is_167 rfl).trans ((my_fr.at frh221 is_151 rfl).trans (rfl : h188 151 7 = h188 151 7)))
                refine w_inv (k := 0) (as := [(0, 59)]) (r := []) (x := 151) (ls0 := [(2, 151), (0, 59)]) gz_185_272 gm_183 rfl is_151 rd_10 rfl rfl rfl rfl rfl (c_Model_takeSign9_f0 (d := (d + 2))  (((my_up_role fh229 is_151 is_167 rfl).trans ((my_fr.at frh221 is_151 rfl).trans ev214.symm)).trans (by omega)) Tok_h229 (fun h232 frh232 w233 w234 xp235 xp236 xp237 Tok_h232t238 => ?_) (fun h239 frh239 w240 w241 w242 xp243 xp244 xp245 Tok_h239t246 => ?_))
                ·
                  have gh232 : my_fr [(10, 7), (10, 8), (10, 27), (66, -1), (67, -1), (68, -1), (69, -1), (70, -1), (71, -1), (72, -1), (73, -1), (74, -1), (75, -1), (77, -1), (78, -1), (79, -1)] h h232 := my_fr.tr gh229 (frh232.mo rfl)
                  have Wrd_h232 : Wrd h232 := Wrd_ag (my_ag.fr frh232 rfl) Wrd_h229
                  have Wd9_h232 : Wd9 h232 := Wd9_ag (my_ag.fr frh232 rfl) Wd9_h229
                  have Mq_h232 : Mq h232 wv := Mq_ag (my_ag.fr frh232 rfl) Mq_h229t230
                  show wp l rho (d + 4) 185 275 [(2, 151), (0, p88_0), (0, p88_1), (0, p88_2), (0, p88_3), (0, (36 + v10)), (9, 0), (9, 0)] [] h232 Q
                  have ps247 : h229 151 7 = h188 151 7 := ((my_up_role fh229 is_151 is_167 rfl).trans ((my_fr.at frh221 is_151 rfl).trans (rfl : h188 151 7 = h188 151 7)))
                  rw [ps247] at xp235
                  have tE248 : sm h229 = sm h := sm_eq (fun j => my_fr.at gh229 is_153 rfl) (fun j => my_fr.at gh229 is_154 rfl) (fun j => my_fr.at gh229 is_155 rfl)
                  rw [tE248] at xp236
                  rw [ps247] at xp236
                  rw [tE248] at xp237
                  rw [ps247] at xp237
                  have psR : h232 151 7 = h232 151 7 := (rfl : h232 151 7 = h232 151 7)
                  have npsR : sm h232 = sm h := sm_eq (fun j => my_fr.at gh232 is_153 rfl) (fun j => my_fr.at gh232 is_154 rfl) (fun j => my_fr.at gh232 is_155 rfl)
                  have ce249 : h232 151 8 = (h232 151 8) := (rfl : h232 151 8 = h232 151 8)
                  have ce250 : h232 151 27 = h221 151 27 := ((my_fr.at frh232 is_151 rfl).trans ((my_up_role fh229 is_151 is_167 rfl).trans (rfl : h221 151 27 = h221 151 27)))
                  have r167 : ∀ j : Int, h232 167 j = h229 167 j := fun j => ((my_fr.at frh232 is_167 rfl).trans (rfl : h229 167 j = h229 167 j))
                  have r6 := r167 6
                  have cw9 : h232 151 27 = h221 151 27 := by omega
                  have c251 := (rfl : h232 151 8 = h232 151 8)
                  exact w_vret gz_185_275 gm_185 (k0 h232 (gh232) (by omega) (by omega) (by first | omega | exact Or.inl ⟨by omega, fillM_R zF (by first | exact Or.inl ⟨by omega, by omega⟩ | exact Or.inr ⟨by omega, Or.inl ⟨by omega, by omega⟩⟩ | exact Or.inr ⟨by omega, Or.inr ⟨by omega, by omega, by omega⟩⟩), by omega, by omega⟩ | exact Or.inr (Or.inr (Or.inl ⟨by omega, by omega, cutM_R zC (by first | exact Or.inl ⟨by omega, by omega⟩ | exact Or.inr ⟨by omega, Or.inl ⟨by omega, by omega⟩⟩ | exact Or.inr ⟨by omega, Or.inr ⟨by omega, by omega, by omega⟩⟩), by first | omega | exact cw9, by omega⟩)) | exact Or.inr (Or.inr (Or.inr (Or.inl ⟨by omega, by omega, by first | (rw [cw9]; exact fmE_R zW (by first | exact Or.inl ⟨by omega, by omega⟩ | exact Or.inr ⟨by omega, Or.inl ⟨by omega, by omega⟩⟩ | exact Or.inr ⟨by omega, Or.inr ⟨by omega, by omega, by omega⟩⟩)) | exact fmE_R zW (by first | exact Or.inl ⟨by omega, by omega⟩ | exact Or.inr ⟨by omega, Or.inl ⟨by omega, by omega⟩⟩ | exact Or.inr ⟨by omega, Or.inr ⟨by omega, by omega, by omega⟩⟩), by omega⟩))) | exact Or.inr (Or.inr (Or.inr (Or.inr (Or.inl ⟨by omega, by omega, joinM_R zJ (by first | exact Or.inl ⟨by omega, by omega⟩ | exact Or.inr ⟨by omega, Or.inl ⟨by omega, by omega⟩⟩ | exact Or.inr ⟨by omega, Or.inr ⟨by omega, by omega, by omega⟩⟩), fun _ => by omega, by omega⟩)))) | exact Or.inr (Or.inr (Or.inr (Or.inr (Or.inr (Or.inl ⟨by omega, by omega, sumM_R zS (by first | exact Or.inl ⟨by omega, by omega⟩ | exact Or.inr ⟨by omega, Or.inl ⟨by omega, by omega⟩⟩ | exact Or.inr ⟨by omega, Or.inr ⟨by omega, by omega, by omega⟩⟩), by first | omega | exact cw9, by omega⟩))))) | exact ⟨_, _, _, Or.inl ⟨by omega, fillM_R zF (by first | exact Or.inl ⟨by omega, by omega⟩ | exact Or.inr ⟨by omega, Or.inl ⟨by omega, by omega⟩⟩ | exact Or.inr ⟨by omega, Or.inr ⟨by omega, by omega, by omega⟩⟩), rfl, rfl⟩⟩ | exact ⟨_, _, _, Or.inr (Or.inr (Or.inl ⟨by omega, by omega, cutM_R zC (by first | exact Or.inl ⟨by omega, by omega⟩ | exact Or.inr ⟨by omega, Or.inl ⟨by omega, by omega⟩⟩ | exact Or.inr ⟨by omega, Or.inr ⟨by omega, by omega, by omega⟩⟩), rfl, rfl⟩))⟩ | exact ⟨_, _, _, Or.inr (Or.inr (Or.inr (Or.inl ⟨by omega, by omega, fmE_R zW (by first | exact Or.inl ⟨by omega, by omega⟩ | exact Or.inr ⟨by omega, Or.inl ⟨by omega, by omega⟩⟩ | exact Or.inr ⟨by omega, Or.inr ⟨by omega, by omega, by omega⟩⟩), rfl⟩)))⟩ | exact ⟨_, _, _, Or.inr (Or.inr (Or.inr (Or.inr (Or.inl ⟨by omega, by omega, joinM_R zJ (by first | exact Or.inl ⟨by omega, by omega⟩ | exact Or.inr ⟨by omega, Or.inl ⟨by omega, by omega⟩⟩ | exact Or.inr ⟨by omega, Or.inr ⟨by omega, by omega, by omega⟩⟩), fun q => absurd q (by omega), rfl⟩))))⟩ | exact ⟨_, _, _, Or.inr (Or.inr (Or.inr (Or.inr (Or.inr (Or.inl ⟨by omega, by omega, sumM_R zS (by first | exact Or.inl ⟨by omega, by omega⟩ | exact Or.inr ⟨by omega, Or.inl ⟨by omega, by omega⟩⟩ | exact Or.inr ⟨by omega, Or.inr ⟨by omega, by omega, by omega⟩⟩), rfl, rfl⟩)))))⟩ | exact ⟨0, 0, 0, Or.inr (Or.inl ⟨by omega, by omega, by omega⟩)⟩ | exact ⟨0, 0, 0, Or.inr (Or.inr (Or.inr (Or.inr (Or.inr (Or.inr (⟨by omega, by omega, by omega, by omega, by omega, by omega⟩))))))⟩ | omega) (by first | omega | exact Or.inl ⟨by omega, fillM_R zF (by first | exact Or.inl ⟨by omega, by omega⟩ | exact Or.inr ⟨by omega, Or.inl ⟨by omega, by omega⟩⟩ | exact Or.inr ⟨by omega, Or.inr ⟨by omega, by omega, by omega⟩⟩), by omega, by omega⟩ | exact Or.inr (Or.inr (Or.inl ⟨by omega, by omega, cutM_R zC (by first | exact Or.inl ⟨by omega, by omega⟩ | exact Or.inr ⟨by omega, Or.inl ⟨by omega, by omega⟩⟩ | exact Or.inr ⟨by omega, Or.inr ⟨by omega, by omega, by omega⟩⟩), by first | omega | exact cw9, by omega⟩)) | exact Or.inr (Or.inr (Or.inr (Or.inl ⟨by omega, by omega, by first | (rw [cw9]; exact fmE_R zW (by first | exact Or.inl ⟨by omega, by omega⟩ | exact Or.inr ⟨by omega, Or.inl ⟨by omega, by omega⟩⟩ | exact Or.inr ⟨by omega, Or.inr ⟨by omega, by omega, by omega⟩⟩)) | exact fmE_R zW (by first | exact Or.inl ⟨by omega, by omega⟩ | exact Or.inr ⟨by omega, Or.inl ⟨by omega, by omega⟩⟩ | exact Or.inr ⟨by omega, Or.inr ⟨by omega, by omega, by omega⟩⟩), by omega⟩))) | exact Or.inr (Or.inr (Or.inr (Or.inr (Or.inl ⟨by omega, by omega, joinM_R zJ (by first | exact Or.inl ⟨by omega, by omega⟩ | exact Or.inr ⟨by omega, Or.inl ⟨by omega, by omega⟩⟩ | exact Or.inr ⟨by omega, Or.inr ⟨by omega, by omega, by omega⟩⟩), fun _ => by omega, by omega⟩)))) | exact Or.inr (Or.inr (Or.inr (Or.inr (Or.inr (Or.inl ⟨by omega, by omega, sumM_R zS (by first | exact Or.inl ⟨by omega, by omega⟩ | exact Or.inr ⟨by omega, Or.inl ⟨by omega, by omega⟩⟩ | exact Or.inr ⟨by omega, Or.inr ⟨by omega, by omega, by omega⟩⟩), by first | omega | exact cw9, by omega⟩))))) | exact ⟨_, _, _, Or.inl ⟨by omega, fillM_R zF (by first | exact Or.inl ⟨by omega, by omega⟩ | exact Or.inr ⟨by omega, Or.inl ⟨by omega, by omega⟩⟩ | exact Or.inr ⟨by omega, Or.inr ⟨by omega, by omega, by omega⟩⟩), rfl, rfl⟩⟩ | exact ⟨_, _, _, Or.inr (Or.inr (Or.inl ⟨by omega, by omega, cutM_R zC (by first | exact Or.inl ⟨by omega, by omega⟩ | exact Or.inr ⟨by omega, Or.inl ⟨by omega, by omega⟩⟩ | exact Or.inr ⟨by omega, Or.inr ⟨by omega, by omega, by omega⟩⟩), rfl, rfl⟩))⟩ | exact ⟨_, _, _, Or.inr (Or.inr (Or.inr (Or.inl ⟨by omega, by omega, fmE_R zW (by first | exact Or.inl ⟨by omega, by omega⟩ | exact Or.inr ⟨by omega, Or.inl ⟨by omega, by omega⟩⟩ | exact Or.inr ⟨by omega, Or.inr ⟨by omega, by omega, by omega⟩⟩), rfl⟩)))⟩ | exact ⟨_, _, _, Or.inr (Or.inr (Or.inr (Or.inr (Or.inl ⟨by omega, by omega, joinM_R zJ (by first | exact Or.inl ⟨by omega, by omega⟩ | exact Or.inr ⟨by omega, Or.inl ⟨by omega, by omega⟩⟩ | exact Or.inr ⟨by omega, Or.inr ⟨by omega, by omega, by omega⟩⟩), fun q => absurd q (by omega), rfl⟩))))⟩ | exact ⟨_, _, _, Or.inr (Or.inr (Or.inr (Or.inr (Or.inr (Or.inl ⟨by omega, by omega, sumM_R zS (by first | exact Or.inl ⟨by omega, by omega⟩ | exact Or.inr ⟨by omega, Or.inl ⟨by omega, by omega⟩⟩ | exact Or.inr ⟨by omega, Or.inr ⟨by omega, by omega, by omega⟩⟩), rfl, rfl⟩)))))⟩ | exact ⟨0, 0, 0, Or.inr (Or.inl ⟨by omega, by omega, by omega⟩)⟩ | exact ⟨0, 0, 0, Or.inr (Or.inr (Or.inr (Or.inr (Or.inr (Or.inr (⟨by omega, by omega, by omega, by omega, by omega, by omega⟩))))))⟩ | omega) Tok_h232t238 Mq_h232 Wrd_h232 Wd9_h232)
                ·
                  have gh239 : my_fr [(10, 7), (10, 8), (10, 27), (66, -1), (67, -1), (68, -1), (69, -1), (70, -1), (71, -1), (72, -1), (73, -1), (74, -1), (75, -1), (77, -1), (78, -1), (79, -1)] h h239 := my_fr.tr gh229 (frh239.mo rfl)
                  have Wrd_h239 : Wrd h239 := Wrd_ag (my_ag.fr frh239 rfl) Wrd_h229
                  have Wd9_h239 : Wd9 h239 := Wd9_ag (my_ag.fr frh239 rfl) Wd9_h229
                  have Mq_h239 : Mq h239 wv := Mq_ag (my_ag.fr frh239 rfl) Mq_h229t230
                  show wp l rho (d + 4) 185 275 [(2, 151), (0, p88_0), (0, p88_1), (0, p88_2), (0, p88_3), (0, (36 + v10)), (9, 0), (9, 0)] [] h239 Q
                  have ps252 : h229 151 7 = h188 151 7 := ((my_up_role fh229 is_151 is_167 rfl).trans ((my_fr.at frh221 is_151 rfl).trans (rfl : h188 151 7 = h188 151 7)))
                  rw [ps252] at xp243
                  have tE253 : sm h229 = sm h := sm_eq (fun j => my_fr.at gh229 is_153 rfl) (fun j => my_fr.at gh229 is_154 rfl) (fun j => my_fr.at gh229 is_155 rfl)
                  rw [tE253] at xp244
                  rw [ps252] at xp244
                  rw [tE253] at xp245
                  rw [ps252] at xp245
                  have psR : h239 151 7 = (sN (sm h) ((h188 151 7))) := xp244
                  have npsR : sm h239 = sm h := sm_eq (fun j => my_fr.at gh239 is_153 rfl) (fun j => my_fr.at gh239 is_154 rfl) (fun j => my_fr.at gh239 is_155 rfl)
                  have ce254 : h239 151 7 = (h239 151 7) := (rfl : h239 151 7 = h239 151 7)
                  have ce255 : h239 151 8 = 0 := w242
                  have ce256 : h239 151 27 = h221 151 27 := ((my_fr.at frh239 is_151 rfl).trans ((my_up_role fh229 is_151 is_167 rfl).trans (rfl : h221 151 27 = h221 151 27)))
                  have r167 : ∀ j : Int, h239 167 j = h229 167 j := fun j => ((my_fr.at frh239 is_167 rfl).trans (rfl : h229 167 j = h229 167 j))
                  have r6 := r167 6
                  have cw9 : h239 151 27 = h221 151 27 := by omega
                  have c257 := (rfl : h239 151 7 = h239 151 7)
                  have c258 := w242
                  exact w_vret gz_185_275 gm_185 (k1 h239 (gh239) (by omega) (by omega) (by omega) (by first | omega | exact Or.inl ⟨by omega, fillM_R zF (by first | exact Or.inl ⟨by omega, by omega⟩ | exact Or.inr ⟨by omega, Or.inl ⟨by omega, by omega⟩⟩ | exact Or.inr ⟨by omega, Or.inr ⟨by omega, by omega, by omega⟩⟩), by omega, by omega⟩ | exact Or.inr (Or.inr (Or.inl ⟨by omega, by omega, cutM_R zC (by first | exact Or.inl ⟨by omega, by omega⟩ | exact Or.inr ⟨by omega, Or.inl ⟨by omega, by omega⟩⟩ | exact Or.inr ⟨by omega, Or.inr ⟨by omega, by omega, by omega⟩⟩), by first | omega | exact cw9, by omega⟩)) | exact Or.inr (Or.inr (Or.inr (Or.inl ⟨by omega, by omega, by first | (rw [cw9]; exact fmE_R zW (by first | exact Or.inl ⟨by omega, by omega⟩ | exact Or.inr ⟨by omega, Or.inl ⟨by omega, by omega⟩⟩ | exact Or.inr ⟨by omega, Or.inr ⟨by omega, by omega, by omega⟩⟩)) | exact fmE_R zW (by first | exact Or.inl ⟨by omega, by omega⟩ | exact Or.inr ⟨by omega, Or.inl ⟨by omega, by omega⟩⟩ | exact Or.inr ⟨by omega, Or.inr ⟨by omega, by omega, by omega⟩⟩), by omega⟩))) | exact Or.inr (Or.inr (Or.inr (Or.inr (Or.inl ⟨by omega, by omega, joinM_R zJ (by first | exact Or.inl ⟨by omega, by omega⟩ | exact Or.inr ⟨by omega, Or.inl ⟨by omega, by omega⟩⟩ | exact Or.inr ⟨by omega, Or.inr ⟨by omega, by omega, by omega⟩⟩), fun _ => by omega, by omega⟩)))) | exact Or.inr (Or.inr (Or.inr (Or.inr (Or.inr (Or.inl ⟨by omega, by omega, sumM_R zS (by first | exact Or.inl ⟨by omega, by omega⟩ | exact Or.inr ⟨by omega, Or.inl ⟨by omega, by omega⟩⟩ | exact Or.inr ⟨by omega, Or.inr ⟨by omega, by omega, by omega⟩⟩), by first | omega | exact cw9, by omega⟩))))) | exact ⟨_, _, _, Or.inl ⟨by omega, fillM_R zF (by first | exact Or.inl ⟨by omega, by omega⟩ | exact Or.inr ⟨by omega, Or.inl ⟨by omega, by omega⟩⟩ | exact Or.inr ⟨by omega, Or.inr ⟨by omega, by omega, by omega⟩⟩), rfl, rfl⟩⟩ | exact ⟨_, _, _, Or.inr (Or.inr (Or.inl ⟨by omega, by omega, cutM_R zC (by first | exact Or.inl ⟨by omega, by omega⟩ | exact Or.inr ⟨by omega, Or.inl ⟨by omega, by omega⟩⟩ | exact Or.inr ⟨by omega, Or.inr ⟨by omega, by omega, by omega⟩⟩), rfl, rfl⟩))⟩ | exact ⟨_, _, _, Or.inr (Or.inr (Or.inr (Or.inl ⟨by omega, by omega, fmE_R zW (by first | exact Or.inl ⟨by omega, by omega⟩ | exact Or.inr ⟨by omega, Or.inl ⟨by omega, by omega⟩⟩ | exact Or.inr ⟨by omega, Or.inr ⟨by omega, by omega, by omega⟩⟩), rfl⟩)))⟩ | exact ⟨_, _, _, Or.inr (Or.inr (Or.inr (Or.inr (Or.inl ⟨by omega, by omega, joinM_R zJ (by first | exact Or.inl ⟨by omega, by omega⟩ | exact Or.inr ⟨by omega, Or.inl ⟨by omega, by omega⟩⟩ | exact Or.inr ⟨by omega, Or.inr ⟨by omega, by omega, by omega⟩⟩), fun q => absurd q (by omega), rfl⟩))))⟩ | exact ⟨_, _, _, Or.inr (Or.inr (Or.inr (Or.inr (Or.inr (Or.inl ⟨by omega, by omega, sumM_R zS (by first | exact Or.inl ⟨by omega, by omega⟩ | exact Or.inr ⟨by omega, Or.inl ⟨by omega, by omega⟩⟩ | exact Or.inr ⟨by omega, Or.inr ⟨by omega, by omega, by omega⟩⟩), rfl, rfl⟩)))))⟩ | exact ⟨0, 0, 0, Or.inr (Or.inl ⟨by omega, by omega, by omega⟩)⟩ | exact ⟨0, 0, 0, Or.inr (Or.inr (Or.inr (Or.inr (Or.inr (Or.inr (⟨by omega, by omega, by omega, by omega, by omega, by omega⟩))))))⟩ | omega) (by first | omega | exact Or.inl ⟨by omega, fillM_R zF (by first | exact Or.inl ⟨by omega, by omega⟩ | exact Or.inr ⟨by omega, Or.inl ⟨by omega, by omega⟩⟩ | exact Or.inr ⟨by omega, Or.inr ⟨by omega, by omega, by omega⟩⟩), by omega, by omega⟩ | exact Or.inr (Or.inr (Or.inl ⟨by omega, by omega, cutM_R zC (by first | exact Or.inl ⟨by omega, by omega⟩ | exact Or.inr ⟨by omega, Or.inl ⟨by omega, by omega⟩⟩ | exact Or.inr ⟨by omega, Or.inr ⟨by omega, by omega, by omega⟩⟩), by first | omega | exact cw9, by omega⟩)) | exact Or.inr (Or.inr (Or.inr (Or.inl ⟨by omega, by omega, by first | (rw [cw9]; exact fmE_R zW (by first | exact Or.inl ⟨by omega, by omega⟩ | exact Or.inr ⟨by omega, Or.inl ⟨by omega, by omega⟩⟩ | exact Or.inr ⟨by omega, Or.inr ⟨by omega, by omega, by omega⟩⟩)) | exact fmE_R zW (by first | exact Or.inl ⟨by omega, by omega⟩ | exact Or.inr ⟨by omega, Or.inl ⟨by omega, by omega⟩⟩ | exact Or.inr ⟨by omega, Or.inr ⟨by omega, by omega, by omega⟩⟩), by omega⟩))) | exact Or.inr (Or.inr (Or.inr (Or.inr (Or.inl ⟨by omega, by omega, joinM_R zJ (by first | exact Or.inl ⟨by omega, by omega⟩ | exact Or.inr ⟨by omega, Or.inl ⟨by omega, by omega⟩⟩ | exact Or.inr ⟨by omega, Or.inr ⟨by omega, by omega, by omega⟩⟩), fun _ => by omega, by omega⟩)))) | exact Or.inr (Or.inr (Or.inr (Or.inr (Or.inr (Or.inl ⟨by omega, by omega, sumM_R zS (by first | exact Or.inl ⟨by omega, by omega⟩ | exact Or.inr ⟨by omega, Or.inl ⟨by omega, by omega⟩⟩ | exact Or.inr ⟨by omega, Or.inr ⟨by omega, by omega, by omega⟩⟩), by first | omega | exact cw9, by omega⟩))))) | exact ⟨_, _, _, Or.inl ⟨by omega, fillM_R zF (by first | exact Or.inl ⟨by omega, by omega⟩ | exact Or.inr ⟨by omega, Or.inl ⟨by omega, by omega⟩⟩ | exact Or.inr ⟨by omega, Or.inr ⟨by omega, by omega, by omega⟩⟩), rfl, rfl⟩⟩ | exact ⟨_, _, _, Or.inr (Or.inr (Or.inl ⟨by omega, by omega, cutM_R zC (by first | exact Or.inl ⟨by omega, by omega⟩ | exact Or.inr ⟨by omega, Or.inl ⟨by omega, by omega⟩⟩ | exact Or.inr ⟨by omega, Or.inr ⟨by omega, by omega, by omega⟩⟩), rfl, rfl⟩))⟩ | exact ⟨_, _, _, Or.inr (Or.inr (Or.inr (Or.inl ⟨by omega, by omega, fmE_R zW (by first | exact Or.inl ⟨by omega, by omega⟩ | exact Or.inr ⟨by omega, Or.inl ⟨by omega, by omega⟩⟩ | exact Or.inr ⟨by omega, Or.inr ⟨by omega, by omega, by omega⟩⟩), rfl⟩)))⟩ | exact ⟨_, _, _, Or.inr (Or.inr (Or.inr (Or.inr (Or.inl ⟨by omega, by omega, joinM_R zJ (by first | exact Or.inl ⟨by omega, by omega⟩ | exact Or.inr ⟨by omega, Or.inl ⟨by omega, by omega⟩⟩ | exact Or.inr ⟨by omega, Or.inr ⟨by omega, by omega, by omega⟩⟩), fun q => absurd q (by omega), rfl⟩))))⟩ | exact ⟨_, _, _, Or.inr (Or.inr (Or.inr (Or.inr (Or.inr (Or.inl ⟨by omega, by omega, sumM_R zS (by first | exact Or.inl ⟨by omega, by omega⟩ | exact Or.inr ⟨by omega, Or.inl ⟨by omega, by omega⟩⟩ | exact Or.inr ⟨by omega, Or.inr ⟨by omega, by omega, by omega⟩⟩), rfl, rfl⟩)))))⟩ | exact ⟨0, 0, 0, Or.inr (Or.inl ⟨by omega, by omega, by omega⟩)⟩ | exact ⟨0, 0, 0, Or.inr (Or.inr (Or.inr (Or.inr (Or.inr (Or.inr (⟨by omega, by omega, by omega, by omega, by omega, by omega⟩))))))⟩ | omega) Tok_h239t246 Mq_h239 Wrd_h239 Wd9_h239)
          ·
            refine w_aload_n gz_185_148 rfl ?_
            refine w_iload gz_185_149 rfl ?_
            have ce259 : h6 151 7 = (v3 + 1) := (my_up_self fh6)
            have ce260 : h6 151 27 = k151_27 := ((my_up_fld fh6 (by decide)).trans c151_27_88_0)
            have hi261 : 36 ≤ (36 + v10) := by omega
            have hi262 : (36 + v10) ≤ 41 := by omega
            refine w_inv (k := 1) (as := [(0, (36 + v10))]) (r := []) (x := 151) (ls0 := [(2, 151), (0, (36 + v10)), (9, 0)]) gz_185_151 gm_189 rfl is_151 rd_10 rfl rfl rfl rfl rfl (c_Model_readJoin9_f0 (d := d) (x1 := (36 + v10)) (wv := wv) (by omega) (by omega) (((my_up_fld fh6 (by decide)).trans ev1.symm).trans (by omega)) (by first | assumption | omega) (by first | assumption | omega) Tok_h6t8 Mq_h6 Wd9_h6 (by first | assumption | exact no_such_saying | exact Fp_told (by omega) (by omega) | omega | (subst_vars; omega) | omega) (fun h263 frh263 w264 w265 xp266 xp267 Tok_h263t268 Mq_h263t269 Wd9_h263t270 => ?_) (fun h271 frh271 w272 w273 w274 xp275 xp276 xp277 xp278 xp279 Tok_h271t280 Mq_h271t281 Wd9_h271t282 => ?_))
            ·
              have gh263 : my_fr [(10, 7), (10, 8), (10, 27), (66, -1), (67, -1), (68, -1), (69, -1), (70, -1), (71, -1), (72, -1), (73, -1), (74, -1), (75, -1), (77, -1), (78, -1), (79, -1)] h h263 := my_fr.tr gh6 (frh263.mo rfl)
              have Wrd_h263 : Wrd h263 := Wrd_ag (my_ag.fr frh263 rfl) Wrd_h6
              have Wd9_h263 : Wd9 h263 := Wd9_ag (my_ag.fr frh263 rfl) Wd9_h6
              show wp l rho (d + 4) 185 154 [(2, 151), (0, p88_0), (0, p88_1), (0, p88_2), (0, p88_3), (0, (36 + v10)), (9, 0), (9, 0)] [] h263 Q
              have ps283 : h6 151 7 = (sN (sm h) (h 151 7)) := ps7
              rw [ps283] at xp266
              have tE284 : sm h6 = sm h := sm_eq (fun j => my_fr.at gh6 is_153 rfl) (fun j => my_fr.at gh6 is_154 rfl) (fun j => my_fr.at gh6 is_155 rfl)
              rw [tE284] at xp267
              rw [ps283] at xp267
              have q27 : h6 151 27 = h 151 27 := by omega
              have q57 : h6 157 = h 157 := funext (fun j => my_fr.at gh6 is_157 rfl)
              have zJ := xp267
              simp only [q27, q57] at zJ
              refine w_goto (t := 228) gz_185_154 rfl ?_
              refine w_aload_n gz_185_228 rfl ?_
              refine v_getI (j := 8) gz_185_229 rfl is_151 rd_10 rfl (fun v285 ev285 pv285 qv285 => ?_)
              have zv285 := ev285.trans (rfl : h263 151 8 = h263 151 8)
              refine w_ifne (t := 269) gz_185_232 rfl (fun u286 => ?_) (fun u286 => by exfalso; omega)
              refine w_aload_n gz_185_269 rfl ?_
              refine w_bipush gz_185_270 (by decide) ?_
              refine w_inv (k := 0) (as := [(0, 59)]) (r := []) (x := 151) (ls0 := [(2, 151), (0, 59)]) gz_185_272 gm_183 rfl is_151 rd_10 rfl rfl rfl rfl rfl (c_Model_takeSign9_f1 (d := (d + 2))  (v285) (ev285.symm) (by omega) (by omega) Tok_h263t268 (fun w287 w288 xp289 xp290 Tok_h263t291 => ?_))
              show wp l rho (d + 4) 185 275 [(2, 151), (0, p88_0), (0, p88_1), (0, p88_2), (0, p88_3), (0, (36 + v10)), (9, 0), (9, 0)] [] h263 Q
              have psR : h263 151 7 = h263 151 7 := (rfl : h263 151 7 = h263 151 7)
              have npsR : sm h263 = sm h := sm_eq (fun j => my_fr.at gh263 is_153 rfl) (fun j => my_fr.at gh263 is_154 rfl) (fun j => my_fr.at gh263 is_155 rfl)
              have ce292 : h263 151 8 = v285 := ev285.symm
              have ce293 : h263 151 27 = k151_27 := ((my_fr.at frh263 is_151 rfl).trans ((my_up_fld fh6 (by decide)).trans c151_27_88_0))
              have r167 : ∀ j : Int, h263 167 j = h88_0 167 j := fun j => ((my_fr.at frh263 is_167 rfl).trans ((my_up_role fh6 is_167 is_151 rfl).trans (rfl : h88_0 167 j = h88_0 167 j)))
              have r6 := r167 6
              have c294 := ev285.symm
              exact w_vret gz_185_275 gm_185 (k0 h263 (gh263) (by omega) (by omega) (by first | omega | exact Or.inl ⟨by omega, fillM_R zF (by first | exact Or.inl ⟨by omega, by omega⟩ | exact Or.inr ⟨by omega, Or.inl ⟨by omega, by omega⟩⟩ | exact Or.inr ⟨by omega, Or.inr ⟨by omega, by omega, by omega⟩⟩), by omega, by omega⟩ | exact Or.inr (Or.inr (Or.inl ⟨by omega, by omega, cutM_R zC (by first | exact Or.inl ⟨by omega, by omega⟩ | exact Or.inr ⟨by omega, Or.inl ⟨by omega, by omega⟩⟩ | exact Or.inr ⟨by omega, Or.inr ⟨by omega, by omega, by omega⟩⟩), by first | omega | exact cw9, by omega⟩)) | exact Or.inr (Or.inr (Or.inr (Or.inl ⟨by omega, by omega, by first | (rw [cw9]; exact fmE_R zW (by first | exact Or.inl ⟨by omega, by omega⟩ | exact Or.inr ⟨by omega, Or.inl ⟨by omega, by omega⟩⟩ | exact Or.inr ⟨by omega, Or.inr ⟨by omega, by omega, by omega⟩⟩)) | exact fmE_R zW (by first | exact Or.inl ⟨by omega, by omega⟩ | exact Or.inr ⟨by omega, Or.inl ⟨by omega, by omega⟩⟩ | exact Or.inr ⟨by omega, Or.inr ⟨by omega, by omega, by omega⟩⟩), by omega⟩))) | exact Or.inr (Or.inr (Or.inr (Or.inr (Or.inl ⟨by omega, by omega, joinM_R zJ (by first | exact Or.inl ⟨by omega, by omega⟩ | exact Or.inr ⟨by omega, Or.inl ⟨by omega, by omega⟩⟩ | exact Or.inr ⟨by omega, Or.inr ⟨by omega, by omega, by omega⟩⟩), fun _ => by omega, by omega⟩)))) | exact Or.inr (Or.inr (Or.inr (Or.inr (Or.inr (Or.inl ⟨by omega, by omega, sumM_R zS (by first | exact Or.inl ⟨by omega, by omega⟩ | exact Or.inr ⟨by omega, Or.inl ⟨by omega, by omega⟩⟩ | exact Or.inr ⟨by omega, Or.inr ⟨by omega, by omega, by omega⟩⟩), by first | omega | exact cw9, by omega⟩))))) | exact ⟨_, _, _, Or.inl ⟨by omega, fillM_R zF (by first | exact Or.inl ⟨by omega, by omega⟩ | exact Or.inr ⟨by omega, Or.inl ⟨by omega, by omega⟩⟩ | exact Or.inr ⟨by omega, Or.inr ⟨by omega, by omega, by omega⟩⟩), rfl, rfl⟩⟩ | exact ⟨_, _, _, Or.inr (Or.inr (Or.inl ⟨by omega, by omega, cutM_R zC (by first | exact Or.inl ⟨by omega, by omega⟩ | exact Or.inr ⟨by omega, Or.inl ⟨by omega, by omega⟩⟩ | exact Or.inr ⟨by omega, Or.inr ⟨by omega, by omega, by omega⟩⟩), rfl, rfl⟩))⟩ | exact ⟨_, _, _, Or.inr (Or.inr (Or.inr (Or.inl ⟨by omega, by omega, fmE_R zW (by first | exact Or.inl ⟨by omega, by omega⟩ | exact Or.inr ⟨by omega, Or.inl ⟨by omega, by omega⟩⟩ | exact Or.inr ⟨by omega, Or.inr ⟨by omega, by omega, by omega⟩⟩), rfl⟩)))⟩ | exact ⟨_, _, _, Or.inr (Or.inr (Or.inr (Or.inr (Or.inl ⟨by omega, by omega, joinM_R zJ (by first | exact Or.inl ⟨by omega, by omega⟩ | exact Or.inr ⟨by omega, Or.inl ⟨by omega, by omega⟩⟩ | exact Or.inr ⟨by omega, Or.inr ⟨by omega, by omega, by omega⟩⟩), fun q => absurd q (by omega), rfl⟩))))⟩ | exact ⟨_, _, _, Or.inr (Or.inr (Or.inr (Or.inr (Or.inr (Or.inl ⟨by omega, by omega, sumM_R zS (by first | exact Or.inl ⟨by omega, by omega⟩ | exact Or.inr ⟨by omega, Or.inl ⟨by omega, by omega⟩⟩ | exact Or.inr ⟨by omega, Or.inr ⟨by omega, by omega, by omega⟩⟩), rfl, rfl⟩)))))⟩ | exact ⟨0, 0, 0, Or.inr (Or.inl ⟨by omega, by omega, by omega⟩)⟩ | exact ⟨0, 0, 0, Or.inr (Or.inr (Or.inr (Or.inr (Or.inr (Or.inr (⟨by omega, by omega, by omega, by omega, by omega, by omega⟩))))))⟩ | omega) (by first | omega | exact Or.inl ⟨by omega, fillM_R zF (by first | exact Or.inl ⟨by omega, by omega⟩ | exact Or.inr ⟨by omega, Or.inl ⟨by omega, by omega⟩⟩ | exact Or.inr ⟨by omega, Or.inr ⟨by omega, by omega, by omega⟩⟩), by omega, by omega⟩ | exact Or.inr (Or.inr (Or.inl ⟨by omega, by omega, cutM_R zC (by first | exact Or.inl ⟨by omega, by omega⟩ | exact Or.inr ⟨by omega, Or.inl ⟨by omega, by omega⟩⟩ | exact Or.inr ⟨by omega, Or.inr ⟨by omega, by omega, by omega⟩⟩), by first | omega | exact cw9, by omega⟩)) | exact Or.inr (Or.inr (Or.inr (Or.inl ⟨by omega, by omega, by first | (rw [cw9]; exact fmE_R zW (by first | exact Or.inl ⟨by omega, by omega⟩ | exact Or.inr ⟨by omega, Or.inl ⟨by omega, by omega⟩⟩ | exact Or.inr ⟨by omega, Or.inr ⟨by omega, by omega, by omega⟩⟩)) | exact fmE_R zW (by first | exact Or.inl ⟨by omega, by omega⟩ | exact Or.inr ⟨by omega, Or.inl ⟨by omega, by omega⟩⟩ | exact Or.inr ⟨by omega, Or.inr ⟨by omega, by omega, by omega⟩⟩), by omega⟩))) | exact Or.inr (Or.inr (Or.inr (Or.inr (Or.inl ⟨by omega, by omega, joinM_R zJ (by first | exact Or.inl ⟨by omega, by omega⟩ | exact Or.inr ⟨by omega, Or.inl ⟨by omega, by omega⟩⟩ | exact Or.inr ⟨by omega, Or.inr ⟨by omega, by omega, by omega⟩⟩), fun _ => by omega, by omega⟩)))) | exact Or.inr (Or.inr (Or.inr (Or.inr (Or.inr (Or.inl ⟨by omega, by omega, sumM_R zS (by first | exact Or.inl ⟨by omega, by omega⟩ | exact Or.inr ⟨by omega, Or.inl ⟨by omega, by omega⟩⟩ | exact Or.inr ⟨by omega, Or.inr ⟨by omega, by omega, by omega⟩⟩), by first | omega | exact cw9, by omega⟩))))) | exact ⟨_, _, _, Or.inl ⟨by omega, fillM_R zF (by first | exact Or.inl ⟨by omega, by omega⟩ | exact Or.inr ⟨by omega, Or.inl ⟨by omega, by omega⟩⟩ | exact Or.inr ⟨by omega, Or.inr ⟨by omega, by omega, by omega⟩⟩), rfl, rfl⟩⟩ | exact ⟨_, _, _, Or.inr (Or.inr (Or.inl ⟨by omega, by omega, cutM_R zC (by first | exact Or.inl ⟨by omega, by omega⟩ | exact Or.inr ⟨by omega, Or.inl ⟨by omega, by omega⟩⟩ | exact Or.inr ⟨by omega, Or.inr ⟨by omega, by omega, by omega⟩⟩), rfl, rfl⟩))⟩ | exact ⟨_, _, _, Or.inr (Or.inr (Or.inr (Or.inl ⟨by omega, by omega, fmE_R zW (by first | exact Or.inl ⟨by omega, by omega⟩ | exact Or.inr ⟨by omega, Or.inl ⟨by omega, by omega⟩⟩ | exact Or.inr ⟨by omega, Or.inr ⟨by omega, by omega, by omega⟩⟩), rfl⟩)))⟩ | exact ⟨_, _, _, Or.inr (Or.inr (Or.inr (Or.inr (Or.inl ⟨by omega, by omega, joinM_R zJ (by first | exact Or.inl ⟨by omega, by omega⟩ | exact Or.inr ⟨by omega, Or.inl ⟨by omega, by omega⟩⟩ | exact Or.inr ⟨by omega, Or.inr ⟨by omega, by omega, by omega⟩⟩), fun q => absurd q (by omega), rfl⟩))))⟩ | exact ⟨_, _, _, Or.inr (Or.inr (Or.inr (Or.inr (Or.inr (Or.inl ⟨by omega, by omega, sumM_R zS (by first | exact Or.inl ⟨by omega, by omega⟩ | exact Or.inr ⟨by omega, Or.inl ⟨by omega, by omega⟩⟩ | exact Or.inr ⟨by omega, Or.inr ⟨by omega, by omega, by omega⟩⟩), rfl, rfl⟩)))))⟩ | exact ⟨0, 0, 0, Or.inr (Or.inl ⟨by omega, by omega, by omega⟩)⟩ | exact ⟨0, 0, 0, Or.inr (Or.inr (Or.inr (Or.inr (Or.inr (Or.inr (⟨by omega, by omega, by omega, by omega, by omega, by omega⟩))))))⟩ | omega) Tok_h263t291 Mq_h263t269 Wrd_h263 Wd9_h263t270)
            ·
              have gh271 : my_fr [(10, 7), (10, 8), (10, 27), (66, -1), (67, -1), (68, -1), (69, -1), (70, -1), (71, -1), (72, -1), (73, -1), (74, -1), (75, -1), (77, -1), (78, -1), (79, -1)] h h271 := my_fr.tr gh6 (frh271.mo rfl)
              have Wrd_h271 : Wrd h271 := Wrd_ag (my_ag.fr frh271 rfl) Wrd_h6
              have Wd9_h271 : Wd9 h271 := Wd9_ag (my_ag.fr frh271 rfl) Wd9_h6
              show wp l rho (d + 4) 185 154 [(2, 151), (0, p88_0), (0, p88_1), (0, p88_2), (0, p88_3), (0, (36 + v10)), (9, 0), (9, 0)] [] h271 Q
              have ps295 : h6 151 7 = (sN (sm h) (h 151 7)) := ps7
              rw [ps295] at xp277
              have tE296 : sm h6 = sm h := sm_eq (fun j => my_fr.at gh6 is_153 rfl) (fun j => my_fr.at gh6 is_154 rfl) (fun j => my_fr.at gh6 is_155 rfl)
              rw [tE296] at xp278
              rw [ps295] at xp278
              rw [tE296] at xp279
              rw [ps295] at xp279
              have q27 : h6 151 27 = h 151 27 := by omega
              have q57 : h6 157 = h 157 := funext (fun j => my_fr.at gh6 is_157 rfl)
              have zJ := xp278
              simp only [q27, q57] at zJ
              have pk := xp275
              have pk3 := xp276
              have kd := xp279
              refine w_goto (t := 228) gz_185_154 rfl ?_
              refine w_aload_n gz_185_228 rfl ?_
              refine v_getI (j := 8) gz_185_229 rfl is_151 rd_10 rfl (fun v297 ev297 pv297 qv297 => ?_)
              have zv297 := ev297.trans w274
              refine w_ifne (t := 269) gz_185_232 rfl (fun u298 => by exfalso; omega) (fun u298 => ?_)
              refine w_iload_n gz_185_235 rfl ?_
              refine w_ifne (t := 252) gz_185_236 rfl (fun u299 => by exfalso; omega) (fun u299 => ?_)
              refine w_iload_n gz_185_239 rfl ?_
              refine w_ifne (t := 252) gz_185_240 rfl (fun u300 => by exfalso; omega) (fun u300 => ?_)
              refine w_iload_n gz_185_243 rfl ?_
              refine w_ifne (t := 252) gz_185_244 rfl (fun u301 => ?_) (fun u301 => by exfalso; omega)
              refine w_aload_n gz_185_252 rfl ?_
              refine w_iload gz_185_253 rfl ?_
              have d167 : ∀ j : Int, h271 167 j = h88_0 167 j := fun j => ((my_fr.at frh271 is_167 rfl).trans ((my_up_role fh6 is_167 is_151 rfl).trans (rfl : h88_0 167 j = h88_0 167 j)))
              have d6 := d167 6
              have mr0 := Mq_h271t281
              have ce302 : h271 151 27 = k151_27 := ((my_fr.at frh271 is_151 rfl).trans ((my_up_fld fh6 (by decide)).trans c151_27_88_0))
              refine w_inv (k := 1) (as := [(0, (36 + v10))]) (r := []) (x := 151) (ls0 := [(2, 151), (0, (36 + v10)), (9, 0)]) gz_185_255 gm_182 rfl is_151 rd_10 rfl rfl rfl rfl rfl (c_Model_pane2_f0 (d := (d + 3)) (x1 := (36 + v10)) (by omega) (by omega) (ev297.symm.trans (by omega)) (pk.1) (fun h303 frh303 w304 xp305 xp306 => ?_))
              have gh303 : my_fr [(10, 7), (10, 8), (10, 27), (66, -1), (67, -1), (68, -1), (69, -1), (70, -1), (71, -1), (72, -1), (73, -1), (74, -1), (75, -1), (77, -1), (78, -1), (79, -1)] h h303 := my_fr.tr gh271 (frh303.mo rfl)
              have Wrd_h303 : Wrd h303 := Wrd_ag (my_ag.fr frh303 rfl) Wrd_h271
              have Wd9_h303 : Wd9 h303 := Wd9_ag (my_ag.fr frh303 rfl) Wd9_h271t282
              have Tok_h303 : Tok h303 := Tok_ag (my_ag.fr frh303 rfl) Tok_h271t280
              show wp l rho (d + 4) 185 258 [(2, 151), (0, p88_0), (0, p88_1), (0, p88_2), (0, p88_3), (0, (36 + v10)), (9, 0), (9, 0)] [] h303 Q
              have ag0 : my_ag M3F h271 h303 := my_ag.fr frh303 rfl
              have e27 := xp305
              have e67 : h303 167 6 = h271 167 6 := ag0.at mis_167 rfl
              have mc := ms_c e27
              try (have m3 := mc.2.2.1 kd; rw [← m3] at zW)
              try (have q58 : h271 157 = h 157 := funext (fun j => my_fr.at gh271 is_157 rfl); have j4 := mc.2.1 kd.1; rw [kd.2, q58] at j4)
              refine w_aload_n gz_185_258 rfl ?_
              refine w_getX (v := 167) gz_185_259 is_151 rd_10 rfl (by decide) rfl ?_
              refine w_bipush gz_185_262 (by decide) ?_
              refine w_dup2 gz_185_264 rfl rfl ?_
              refine w_iald gz_185_265 is_167 rd_66 (by omega) (by omega) (fun v308 ev308 pv308 qv308 => ?_)
              have zv308 := ev308.trans ((my_fr.at frh303 is_167 rfl).trans ((my_fr.at frh271 is_167 rfl).trans ev10.symm))
              refine w_iconst gz_185_266 (by decide) ?_
              refine w_iadd gz_185_267 ⟨by omega, by omega⟩ ?_
              have hi309 : 0 ≤ (v308 + 1) := by omega
              have hi310 : (v308 + 1) ≤ 6 := by omega
              refine w_iast gz_185_268 is_167 rd_66 (by omega) (by omega) (by omega) (by omega) (fun h311 fh311 => ?_)
              have gh311 : my_fr [(10, 7), (10, 8), (10, 27), (66, -1), (67, -1), (68, -1), (69, -1), (70, -1), (71, -1), (72, -1), (73, -1), (74, -1), (75, -1), (77, -1), (78, -1), (79, -1)] h h311 := my_fr.up gh303 is_167 fh311 rfl
              have Wrd_h311 : Wrd h311 := Wrd_ag (my_ag.up fh311 is_167 rfl) Wrd_h303
              have Wd9_h311 : Wd9 h311 := Wd9_ag (my_ag.up fh311 is_167 rfl) Wd9_h303
              have Tok_h311 : Tok h311 := Tok_ag (my_ag.up fh311 is_167 rfl) Tok_h303
              have Mq_h311t312 : Mq h311 wv := Mq_add mr0 (by omega) pk pk3 ag0 e27 fh311 (by omega) (by omega)
              have k6 := my_up_self fh311
              refine w_aload_n gz_185_269 rfl ?_
              refine w_bipush gz_185_270 (by decide) ?_
              have ce313 : h311 151 7 = (h271 151 7) := ((my_up_role fh311 is_151 is_167 rfl).trans ((my_fr.at frh303 is_151 rfl).trans (rfl : h271 151 7 = h271 151 7)))
              refine w_inv (k := 0) (as := [(0, 59)]) (r := []) (x := 151) (ls0 := [(2, 151), (0, 59)]) gz_185_272 gm_183 rfl is_151 rd_10 rfl rfl rfl rfl rfl (c_Model_takeSign9_f0 (d := (d + 2))  (((my_up_role fh311 is_151 is_167 rfl).trans ((my_fr.at frh303 is_151 rfl).trans ev297.symm)).trans (by omega)) Tok_h311 (fun h314 frh314 w315 w316 xp317 xp318 xp319 Tok_h314t320 => ?_) (fun h321 frh321 w322 w323 w324 xp325 xp326 xp327 Tok_h321t328 => ?_))
              ·
                have gh314 : my_fr [(10, 7), (10, 8), (10, 27), (66, -1), (67, -1), (68, -1), (69, -1), (70, -1), (71, -1), (72, -1), (73, -1), (74, -1), (75, -1), (77, -1), (78, -1), (79, -1)] h h314 := my_fr.tr gh311 (frh314.mo rfl)
                have Wrd_h314 : Wrd h314 := Wrd_ag (my_ag.fr frh314 rfl) Wrd_h311
                have Wd9_h314 : Wd9 h314 := Wd9_ag (my_ag.fr frh314 rfl) Wd9_h311
                have Mq_h314 : Mq h314 wv := Mq_ag (my_ag.fr frh314 rfl) Mq_h311t312
                show wp l rho (d + 4) 185 275 [(2, 151), (0, p88_0), (0, p88_1), (0, p88_2), (0, p88_3), (0, (36 + v10)), (9, 0), (9, 0)] [] h314 Q
                have ps329 : h311 151 7 = h271 151 7 := ((my_up_role fh311 is_151 is_167 rfl).trans ((my_fr.at frh303 is_151 rfl).trans (rfl : h271 151 7 = h271 151 7)))
                rw [ps329] at xp317
                have tE330 : sm h311 = sm h := sm_eq (fun j => my_fr.at gh311 is_153 rfl) (fun j => my_fr.at gh311 is_154 rfl) (fun j => my_fr.at gh311 is_155 rfl)
                rw [tE330] at xp318
                rw [ps329] at xp318
                rw [tE330] at xp319
                rw [ps329] at xp319
                have psR : h314 151 7 = h314 151 7 := (rfl : h314 151 7 = h314 151 7)
                have npsR : sm h314 = sm h := sm_eq (fun j => my_fr.at gh314 is_153 rfl) (fun j => my_fr.at gh314 is_154 rfl) (fun j => my_fr.at gh314 is_155 rfl)
                have ce331 : h314 151 8 = (h314 151 8) := (rfl : h314 151 8 = h314 151 8)
                have ce332 : h314 151 27 = h303 151 27 := ((my_fr.at frh314 is_151 rfl).trans ((my_up_role fh311 is_151 is_167 rfl).trans (rfl : h303 151 27 = h303 151 27)))
                have r167 : ∀ j : Int, h314 167 j = h311 167 j := fun j => ((my_fr.at frh314 is_167 rfl).trans (rfl : h311 167 j = h311 167 j))
                have r6 := r167 6
                have cw9 : h314 151 27 = h303 151 27 := by omega
                have c333 := (rfl : h314 151 8 = h314 151 8)
                exact w_vret gz_185_275 gm_185 (k0 h314 (gh314) (by omega) (by omega) (by first | omega | exact Or.inl ⟨by omega, fillM_R zF (by first | exact Or.inl ⟨by omega, by omega⟩ | exact Or.inr ⟨by omega, Or.inl ⟨by omega, by omega⟩⟩ | exact Or.inr ⟨by omega, Or.inr ⟨by omega, by omega, by omega⟩⟩), by omega, by omega⟩ | exact Or.inr (Or.inr (Or.inl ⟨by omega, by omega, cutM_R zC (by first | exact Or.inl ⟨by omega, by omega⟩ | exact Or.inr ⟨by omega, Or.inl ⟨by omega, by omega⟩⟩ | exact Or.inr ⟨by omega, Or.inr ⟨by omega, by omega, by omega⟩⟩), by first | omega | exact cw9, by omega⟩)) | exact Or.inr (Or.inr (Or.inr (Or.inl ⟨by omega, by omega, by first | (rw [cw9]; exact fmE_R zW (by first | exact Or.inl ⟨by omega, by omega⟩ | exact Or.inr ⟨by omega, Or.inl ⟨by omega, by omega⟩⟩ | exact Or.inr ⟨by omega, Or.inr ⟨by omega, by omega, by omega⟩⟩)) | exact fmE_R zW (by first | exact Or.inl ⟨by omega, by omega⟩ | exact Or.inr ⟨by omega, Or.inl ⟨by omega, by omega⟩⟩ | exact Or.inr ⟨by omega, Or.inr ⟨by omega, by omega, by omega⟩⟩), by omega⟩))) | exact Or.inr (Or.inr (Or.inr (Or.inr (Or.inl ⟨by omega, by omega, joinM_R zJ (by first | exact Or.inl ⟨by omega, by omega⟩ | exact Or.inr ⟨by omega, Or.inl ⟨by omega, by omega⟩⟩ | exact Or.inr ⟨by omega, Or.inr ⟨by omega, by omega, by omega⟩⟩), fun _ => by omega, by omega⟩)))) | exact Or.inr (Or.inr (Or.inr (Or.inr (Or.inr (Or.inl ⟨by omega, by omega, sumM_R zS (by first | exact Or.inl ⟨by omega, by omega⟩ | exact Or.inr ⟨by omega, Or.inl ⟨by omega, by omega⟩⟩ | exact Or.inr ⟨by omega, Or.inr ⟨by omega, by omega, by omega⟩⟩), by first | omega | exact cw9, by omega⟩))))) | exact ⟨_, _, _, Or.inl ⟨by omega, fillM_R zF (by first | exact Or.inl ⟨by omega, by omega⟩ | exact Or.inr ⟨by omega, Or.inl ⟨by omega, by omega⟩⟩ | exact Or.inr ⟨by omega, Or.inr ⟨by omega, by omega, by omega⟩⟩), rfl, rfl⟩⟩ | exact ⟨_, _, _, Or.inr (Or.inr (Or.inl ⟨by omega, by omega, cutM_R zC (by first | exact Or.inl ⟨by omega, by omega⟩ | exact Or.inr ⟨by omega, Or.inl ⟨by omega, by omega⟩⟩ | exact Or.inr ⟨by omega, Or.inr ⟨by omega, by omega, by omega⟩⟩), rfl, rfl⟩))⟩ | exact ⟨_, _, _, Or.inr (Or.inr (Or.inr (Or.inl ⟨by omega, by omega, fmE_R zW (by first | exact Or.inl ⟨by omega, by omega⟩ | exact Or.inr ⟨by omega, Or.inl ⟨by omega, by omega⟩⟩ | exact Or.inr ⟨by omega, Or.inr ⟨by omega, by omega, by omega⟩⟩), rfl⟩)))⟩ | exact ⟨_, _, _, Or.inr (Or.inr (Or.inr (Or.inr (Or.inl ⟨by omega, by omega, joinM_R zJ (by first | exact Or.inl ⟨by omega, by omega⟩ | exact Or.inr ⟨by omega, Or.inl ⟨by omega, by omega⟩⟩ | exact Or.inr ⟨by omega, Or.inr ⟨by omega, by omega, by omega⟩⟩), fun q => absurd q (by omega), rfl⟩))))⟩ | exact ⟨_, _, _, Or.inr (Or.inr (Or.inr (Or.inr (Or.inr (Or.inl ⟨by omega, by omega, sumM_R zS (by first | exact Or.inl ⟨by omega, by omega⟩ | exact Or.inr ⟨by omega, Or.inl ⟨by omega, by omega⟩⟩ | exact Or.inr ⟨by omega, Or.inr ⟨by omega, by omega, by omega⟩⟩), rfl, rfl⟩)))))⟩ | exact ⟨0, 0, 0, Or.inr (Or.inl ⟨by omega, by omega, by omega⟩)⟩ | exact ⟨0, 0, 0, Or.inr (Or.inr (Or.inr (Or.inr (Or.inr (Or.inr (⟨by omega, by omega, by omega, by omega, by omega, by omega⟩))))))⟩ | omega) (by first | omega | exact Or.inl ⟨by omega, fillM_R zF (by first | exact Or.inl ⟨by omega, by omega⟩ | exact Or.inr ⟨by omega, Or.inl ⟨by omega, by omega⟩⟩ | exact Or.inr ⟨by omega, Or.inr ⟨by omega, by omega, by omega⟩⟩), by omega, by omega⟩ | exact Or.inr (Or.inr (Or.inl ⟨by omega, by omega, cutM_R zC (by first | exact Or.inl ⟨by omega, by omega⟩ | exact Or.inr ⟨by omega, Or.inl ⟨by omega, by omega⟩⟩ | exact Or.inr ⟨by omega, Or.inr ⟨by omega, by omega, by omega⟩⟩), by first | omega | exact cw9, by omega⟩)) | exact Or.inr (Or.inr (Or.inr (Or.inl ⟨by omega, by omega, by first | (rw [cw9]; exact fmE_R zW (by first | exact Or.inl ⟨by omega, by omega⟩ | exact Or.inr ⟨by omega, Or.inl ⟨by omega, by omega⟩⟩ | exact Or.inr ⟨by omega, Or.inr ⟨by omega, by omega, by omega⟩⟩)) | exact fmE_R zW (by first | exact Or.inl ⟨by omega, by omega⟩ | exact Or.inr ⟨by omega, Or.inl ⟨by omega, by omega⟩⟩ | exact Or.inr ⟨by omega, Or.inr ⟨by omega, by omega, by omega⟩⟩), by omega⟩))) | exact Or.inr (Or.inr (Or.inr (Or.inr (Or.inl ⟨by omega, by omega, joinM_R zJ (by first | exact Or.inl ⟨by omega, by omega⟩ | exact Or.inr ⟨by omega, Or.inl ⟨by omega, by omega⟩⟩ | exact Or.inr ⟨by omega, Or.inr ⟨by omega, by omega, by omega⟩⟩), fun _ => by omega, by omega⟩)))) | exact Or.inr (Or.inr (Or.inr (Or.inr (Or.inr (Or.inl ⟨by omega, by omega, sumM_R zS (by first | exact Or.inl ⟨by omega, by omega⟩ | exact Or.inr ⟨by omega, Or.inl ⟨by omega, by omega⟩⟩ | exact Or.inr ⟨by omega, Or.inr ⟨by omega, by omega, by omega⟩⟩), by first | omega | exact cw9, by omega⟩))))) | exact ⟨_, _, _, Or.inl ⟨by omega, fillM_R zF (by first | exact Or.inl ⟨by omega, by omega⟩ | exact Or.inr ⟨by omega, Or.inl ⟨by omega, by omega⟩⟩ | exact Or.inr ⟨by omega, Or.inr ⟨by omega, by omega, by omega⟩⟩), rfl, rfl⟩⟩ | exact ⟨_, _, _, Or.inr (Or.inr (Or.inl ⟨by omega, by omega, cutM_R zC (by first | exact Or.inl ⟨by omega, by omega⟩ | exact Or.inr ⟨by omega, Or.inl ⟨by omega, by omega⟩⟩ | exact Or.inr ⟨by omega, Or.inr ⟨by omega, by omega, by omega⟩⟩), rfl, rfl⟩))⟩ | exact ⟨_, _, _, Or.inr (Or.inr (Or.inr (Or.inl ⟨by omega, by omega, fmE_R zW (by first | exact Or.inl ⟨by omega, by omega⟩ | exact Or.inr ⟨by omega, Or.inl ⟨by omega, by omega⟩⟩ | exact Or.inr ⟨by omega, Or.inr ⟨by omega, by omega, by omega⟩⟩), rfl⟩)))⟩ | exact ⟨_, _, _, Or.inr (Or.inr (Or.inr (Or.inr (Or.inl ⟨by omega, by omega, joinM_R zJ (by first | exact Or.inl ⟨by omega, by omega⟩ | exact Or.inr ⟨by omega, Or.inl ⟨by omega, by omega⟩⟩ | exact Or.inr ⟨by omega, Or.inr ⟨by omega, by omega, by omega⟩⟩), fun q => absurd q (by omega), rfl⟩))))⟩ | exact ⟨_, _, _, Or.inr (Or.inr (Or.inr (Or.inr (Or.inr (Or.inl ⟨by omega, by omega, sumM_R zS (by first | exact Or.inl ⟨by omega, by omega⟩ | exact Or.inr ⟨by omega, Or.inl ⟨by omega, by omega⟩⟩ | exact Or.inr ⟨by omega, Or.inr ⟨by omega, by omega, by omega⟩⟩), rfl, rfl⟩)))))⟩ | exact ⟨0, 0, 0, Or.inr (Or.inl ⟨by omega, by omega, by omega⟩)⟩ | exact ⟨0, 0, 0, Or.inr (Or.inr (Or.inr (Or.inr (Or.inr (Or.inr (⟨by omega, by omega, by omega, by omega, by omega, by omega⟩))))))⟩ | omega) Tok_h314t320 Mq_h314 Wrd_h314 Wd9_h314)
              ·
                have gh321 : my_fr [(10, 7), (10, 8), (10, 27), (66, -1), (67, -1), (68, -1), (69, -1), (70, -1), (71, -1), (72, -1), (73, -1), (74, -1), (75, -1), (77, -1), (78, -1), (79, -1)] h h321 := my_fr.tr gh311 (frh321.mo rfl)
                have Wrd_h321 : Wrd h321 := Wrd_ag (my_ag.fr frh321 rfl) Wrd_h311
                have Wd9_h321 : Wd9 h321 := Wd9_ag (my_ag.fr frh321 rfl) Wd9_h311
                have Mq_h321 : Mq h321 wv := Mq_ag (my_ag.fr frh321 rfl) Mq_h311t312
                show wp l rho (d + 4) 185 275 [(2, 151), (0, p88_0), (0, p88_1), (0, p88_2), (0, p88_3), (0, (36 + v10)), (9, 0), (9, 0)] [] h321 Q
                have ps334 : h311 151 7 = h271 151 7 := ((my_up_role fh311 is_151 is_167 rfl).trans ((my_fr.at frh303 is_151 rfl).trans (rfl : h271 151 7 = h271 151 7)))
                rw [ps334] at xp325
                have tE335 : sm h311 = sm h := sm_eq (fun j => my_fr.at gh311 is_153 rfl) (fun j => my_fr.at gh311 is_154 rfl) (fun j => my_fr.at gh311 is_155 rfl)
                rw [tE335] at xp326
                rw [ps334] at xp326
                rw [tE335] at xp327
                rw [ps334] at xp327
                have psR : h321 151 7 = (sN (sm h) ((h271 151 7))) := xp326
                have npsR : sm h321 = sm h := sm_eq (fun j => my_fr.at gh321 is_153 rfl) (fun j => my_fr.at gh321 is_154 rfl) (fun j => my_fr.at gh321 is_155 rfl)
                have ce336 : h321 151 7 = (h321 151 7) := (rfl : h321 151 7 = h321 151 7)
                have ce337 : h321 151 8 = 0 := w324
                have ce338 : h321 151 27 = h303 151 27 := ((my_fr.at frh321 is_151 rfl).trans ((my_up_role fh311 is_151 is_167 rfl).trans (rfl : h303 151 27 = h303 151 27)))
                have r167 : ∀ j : Int, h321 167 j = h311 167 j := fun j => ((my_fr.at frh321 is_167 rfl).trans (rfl : h311 167 j = h311 167 j))
                have r6 := r167 6
                have cw9 : h321 151 27 = h303 151 27 := by omega
                have c339 := (rfl : h321 151 7 = h321 151 7)
                have c340 := w324
                exact w_vret gz_185_275 gm_185 (k1 h321 (gh321) (by omega) (by omega) (by omega) (by first | omega | exact Or.inl ⟨by omega, fillM_R zF (by first | exact Or.inl ⟨by omega, by omega⟩ | exact Or.inr ⟨by omega, Or.inl ⟨by omega, by omega⟩⟩ | exact Or.inr ⟨by omega, Or.inr ⟨by omega, by omega, by omega⟩⟩), by omega, by omega⟩ | exact Or.inr (Or.inr (Or.inl ⟨by omega, by omega, cutM_R zC (by first | exact Or.inl ⟨by omega, by omega⟩ | exact Or.inr ⟨by omega, Or.inl ⟨by omega, by omega⟩⟩ | exact Or.inr ⟨by omega, Or.inr ⟨by omega, by omega, by omega⟩⟩), by first | omega | exact cw9, by omega⟩)) | exact Or.inr (Or.inr (Or.inr (Or.inl ⟨by omega, by omega, by first | (rw [cw9]; exact fmE_R zW (by first | exact Or.inl ⟨by omega, by omega⟩ | exact Or.inr ⟨by omega, Or.inl ⟨by omega, by omega⟩⟩ | exact Or.inr ⟨by omega, Or.inr ⟨by omega, by omega, by omega⟩⟩)) | exact fmE_R zW (by first | exact Or.inl ⟨by omega, by omega⟩ | exact Or.inr ⟨by omega, Or.inl ⟨by omega, by omega⟩⟩ | exact Or.inr ⟨by omega, Or.inr ⟨by omega, by omega, by omega⟩⟩), by omega⟩))) | exact Or.inr (Or.inr (Or.inr (Or.inr (Or.inl ⟨by omega, by omega, joinM_R zJ (by first | exact Or.inl ⟨by omega, by omega⟩ | exact Or.inr ⟨by omega, Or.inl ⟨by omega, by omega⟩⟩ | exact Or.inr ⟨by omega, Or.inr ⟨by omega, by omega, by omega⟩⟩), fun _ => by omega, by omega⟩)))) | exact Or.inr (Or.inr (Or.inr (Or.inr (Or.inr (Or.inl ⟨by omega, by omega, sumM_R zS (by first | exact Or.inl ⟨by omega, by omega⟩ | exact Or.inr ⟨by omega, Or.inl ⟨by omega, by omega⟩⟩ | exact Or.inr ⟨by omega, Or.inr ⟨by omega, by omega, by omega⟩⟩), by first | omega | exact cw9, by omega⟩))))) | exact ⟨_, _, _, Or.inl ⟨by omega, fillM_R zF (by first | exact Or.inl ⟨by omega, by omega⟩ | exact Or.inr ⟨by omega, Or.inl ⟨by omega, by omega⟩⟩ | exact Or.inr ⟨by omega, Or.inr ⟨by omega, by omega, by omega⟩⟩), rfl, rfl⟩⟩ | exact ⟨_, _, _, Or.inr (Or.inr (Or.inl ⟨by omega, by omega, cutM_R zC (by first | exact Or.inl ⟨by omega, by omega⟩ | exact Or.inr ⟨by omega, Or.inl ⟨by omega, by omega⟩⟩ | exact Or.inr ⟨by omega, Or.inr ⟨by omega, by omega, by omega⟩⟩), rfl, rfl⟩))⟩ | exact ⟨_, _, _, Or.inr (Or.inr (Or.inr (Or.inl ⟨by omega, by omega, fmE_R zW (by first | exact Or.inl ⟨by omega, by omega⟩ | exact Or.inr ⟨by omega, Or.inl ⟨by omega, by omega⟩⟩ | exact Or.inr ⟨by omega, Or.inr ⟨by omega, by omega, by omega⟩⟩), rfl⟩)))⟩ | exact ⟨_, _, _, Or.inr (Or.inr (Or.inr (Or.inr (Or.inl ⟨by omega, by omega, joinM_R zJ (by first | exact Or.inl ⟨by omega, by omega⟩ | exact Or.inr ⟨by omega, Or.inl ⟨by omega, by omega⟩⟩ | exact Or.inr ⟨by omega, Or.inr ⟨by omega, by omega, by omega⟩⟩), fun q => absurd q (by omega), rfl⟩))))⟩ | exact ⟨_, _, _, Or.inr (Or.inr (Or.inr (Or.inr (Or.inr (Or.inl ⟨by omega, by omega, sumM_R zS (by first | exact Or.inl ⟨by omega, by omega⟩ | exact Or.inr ⟨by omega, Or.inl ⟨by omega, by omega⟩⟩ | exact Or.inr ⟨by omega, Or.inr ⟨by omega, by omega, by omega⟩⟩), rfl, rfl⟩)))))⟩ | exact ⟨0, 0, 0, Or.inr (Or.inl ⟨by omega, by omega, by omega⟩)⟩ | exact ⟨0, 0, 0, Or.inr (Or.inr (Or.inr (Or.inr (Or.inr (Or.inr (⟨by omega, by omega, by omega, by omega, by omega, by omega⟩))))))⟩ | omega) (by first | omega | exact Or.inl ⟨by omega, fillM_R zF (by first | exact Or.inl ⟨by omega, by omega⟩ | exact Or.inr ⟨by omega, Or.inl ⟨by omega, by omega⟩⟩ | exact Or.inr ⟨by omega, Or.inr ⟨by omega, by omega, by omega⟩⟩), by omega, by omega⟩ | exact Or.inr (Or.inr (Or.inl ⟨by omega, by omega, cutM_R zC (by first | exact Or.inl ⟨by omega, by omega⟩ | exact Or.inr ⟨by omega, Or.inl ⟨by omega, by omega⟩⟩ | exact Or.inr ⟨by omega, Or.inr ⟨by omega, by omega, by omega⟩⟩), by first | omega | exact cw9, by omega⟩)) | exact Or.inr (Or.inr (Or.inr (Or.inl ⟨by omega, by omega, by first | (rw [cw9]; exact fmE_R zW (by first | exact Or.inl ⟨by omega, by omega⟩ | exact Or.inr ⟨by omega, Or.inl ⟨by omega, by omega⟩⟩ | exact Or.inr ⟨by omega, Or.inr ⟨by omega, by omega, by omega⟩⟩)) | exact fmE_R zW (by first | exact Or.inl ⟨by omega, by omega⟩ | exact Or.inr ⟨by omega, Or.inl ⟨by omega, by omega⟩⟩ | exact Or.inr ⟨by omega, Or.inr ⟨by omega, by omega, by omega⟩⟩), by omega⟩))) | exact Or.inr (Or.inr (Or.inr (Or.inr (Or.inl ⟨by omega, by omega, joinM_R zJ (by first | exact Or.inl ⟨by omega, by omega⟩ | exact Or.inr ⟨by omega, Or.inl ⟨by omega, by omega⟩⟩ | exact Or.inr ⟨by omega, Or.inr ⟨by omega, by omega, by omega⟩⟩), fun _ => by omega, by omega⟩)))) | exact Or.inr (Or.inr (Or.inr (Or.inr (Or.inr (Or.inl ⟨by omega, by omega, sumM_R zS (by first | exact Or.inl ⟨by omega, by omega⟩ | exact Or.inr ⟨by omega, Or.inl ⟨by omega, by omega⟩⟩ | exact Or.inr ⟨by omega, Or.inr ⟨by omega, by omega, by omega⟩⟩), by first | omega | exact cw9, by omega⟩))))) | exact ⟨_, _, _, Or.inl ⟨by omega, fillM_R zF (by first | exact Or.inl ⟨by omega, by omega⟩ | exact Or.inr ⟨by omega, Or.inl ⟨by omega, by omega⟩⟩ | exact Or.inr ⟨by omega, Or.inr ⟨by omega, by omega, by omega⟩⟩), rfl, rfl⟩⟩ | exact ⟨_, _, _, Or.inr (Or.inr (Or.inl ⟨by omega, by omega, cutM_R zC (by first | exact Or.inl ⟨by omega, by omega⟩ | exact Or.inr ⟨by omega, Or.inl ⟨by omega, by omega⟩⟩ | exact Or.inr ⟨by omega, Or.inr ⟨by omega, by omega, by omega⟩⟩), rfl, rfl⟩))⟩ | exact ⟨_, _, _, Or.inr (Or.inr (Or.inr (Or.inl ⟨by omega, by omega, fmE_R zW (by first | exact Or.inl ⟨by omega, by omega⟩ | exact Or.inr ⟨by omega, Or.inl ⟨by omega, by omega⟩⟩ | exact Or.inr ⟨by omega, Or.inr ⟨by omega, by omega, by omega⟩⟩), rfl⟩)))⟩ | exact ⟨_, _, _, Or.inr (Or.inr (Or.inr (Or.inr (Or.inl ⟨by omega, by omega, joinM_R zJ (by first | exact Or.inl ⟨by omega, by omega⟩ | exact Or.inr ⟨by omega, Or.inl ⟨by omega, by omega⟩⟩ | exact Or.inr ⟨by omega, Or.inr ⟨by omega, by omega, by omega⟩⟩), fun q => absurd q (by omega), rfl⟩))))⟩ | exact ⟨_, _, _, Or.inr (Or.inr (Or.inr (Or.inr (Or.inr (Or.inl ⟨by omega, by omega, sumM_R zS (by first | exact Or.inl ⟨by omega, by omega⟩ | exact Or.inr ⟨by omega, Or.inl ⟨by omega, by omega⟩⟩ | exact Or.inr ⟨by omega, Or.inr ⟨by omega, by omega, by omega⟩⟩), rfl, rfl⟩)))))⟩ | exact ⟨0, 0, 0, Or.inr (Or.inl ⟨by omega, by omega, by omega⟩)⟩ | exact ⟨0, 0, 0, Or.inr (Or.inr (Or.inr (Or.inr (Or.inr (Or.inr (⟨by omega, by omega, by omega, by omega, by omega, by omega⟩))))))⟩ | omega) Tok_h321t328 Mq_h321 Wrd_h321 Wd9_h321)
        ·
          refine w_aload_n gz_185_135 rfl ?_
          refine w_iload gz_185_136 rfl ?_
          have ce341 : h6 151 7 = (v3 + 1) := (my_up_self fh6)
          have ce342 : h6 151 27 = k151_27 := ((my_up_fld fh6 (by decide)).trans c151_27_88_0)
          have hi343 : 36 ≤ (36 + v10) := by omega
          have hi344 : (36 + v10) ≤ 41 := by omega
          refine w_inv (k := 3) (as := [(0, (36 + v10))]) (r := []) (x := 151) (ls0 := [(2, 151), (0, (36 + v10)), (9, 0), (9, 0), (9, 0)]) gz_185_138 gm_188 rfl is_151 rd_10 rfl rfl rfl rfl rfl (c_Model_readFew9_f0 (d := (d + 1)) (x1 := (36 + v10)) (wv := wv) (by omega) (by omega) (((my_up_fld fh6 (by decide)).trans ev1.symm).trans (by omega)) (by first | assumption | omega) (by first | assumption | omega) Tok_h6t8 Mq_h6 Wd9_h6 (by first | assumption | exact no_such_saying | exact Fp_told (by omega) (by omega) | omega | (subst_vars; omega) | omega) (fun h345 frh345 xp346 xp347 xp348 xp349 xp350 Tok_h345t351 Mq_h345t352 Wd9_h345t353 => ?_))
          have gh345 : my_fr [(10, 7), (10, 8), (10, 27), (66, -1), (67, -1), (68, -1), (69, -1), (70, -1), (71, -1), (72, -1), (73, -1), (74, -1), (75, -1), (77, -1), (78, -1), (79, -1)] h h345 := my_fr.tr gh6 (frh345.mo rfl)
          have Wrd_h345 : Wrd h345 := Wrd_ag (my_ag.fr frh345 rfl) Wrd_h6
          have Wd9_h345 : Wd9 h345 := Wd9_ag (my_ag.fr frh345 rfl) Wd9_h6
          show wp l rho (d + 4) 185 141 [(2, 151), (0, p88_0), (0, p88_1), (0, p88_2), (0, p88_3), (0, (36 + v10)), (9, 0), (9, 0)] [] h345 Q
          have ps354 : h6 151 7 = (sN (sm h) (h 151 7)) := ps7
          rw [ps354] at xp348
          have tE355 : sm h6 = sm h := sm_eq (fun j => my_fr.at gh6 is_153 rfl) (fun j => my_fr.at gh6 is_154 rfl) (fun j => my_fr.at gh6 is_155 rfl)
          rw [tE355] at xp349
          rw [ps354] at xp349
          have q27 : h6 151 27 = h 151 27 := by omega
          have q57 : h6 157 = h 157 := funext (fun j => my_fr.at gh6 is_157 rfl)
          have zW := xp349
          simp only [q27, q57] at zW
          have pk := xp346
          have pk3 := xp347
          have kd := xp350
          refine w_goto (t := 228) gz_185_141 rfl ?_
          refine w_aload_n gz_185_228 rfl ?_
          refine v_getI (j := 8) gz_185_229 rfl is_151 rd_10 rfl (fun v356 ev356 pv356 qv356 => ?_)
          refine w_ifne (t := 269) gz_185_232 rfl (fun u357 => ?_) (fun u357 => ?_)
          ·
            refine w_aload_n gz_185_269 rfl ?_
            refine w_bipush gz_185_270 (by decide) ?_
            refine w_inv (k := 0) (as := [(0, 59)]) (r := []) (x := 151) (ls0 := [(2, 151), (0, 59)]) gz_185_272 gm_183 rfl is_151 rd_10 rfl rfl rfl rfl rfl (c_Model_takeSign9_f1 (d := (d + 2))  (v356) (ev356.symm) (by omega) (by omega) Tok_h345t351 (fun w358 w359 xp360 xp361 Tok_h345t362 => ?_))
            show wp l rho (d + 4) 185 275 [(2, 151), (0, p88_0), (0, p88_1), (0, p88_2), (0, p88_3), (0, (36 + v10)), (9, 0), (9, 0)] [] h345 Q
            have psR : h345 151 7 = h345 151 7 := (rfl : h345 151 7 = h345 151 7)
            have npsR : sm h345 = sm h := sm_eq (fun j => my_fr.at gh345 is_153 rfl) (fun j => my_fr.at gh345 is_154 rfl) (fun j => my_fr.at gh345 is_155 rfl)
            have ce363 : h345 151 8 = v356 := ev356.symm
            have ce364 : h345 151 27 = k151_27 := ((my_fr.at frh345 is_151 rfl).trans ((my_up_fld fh6 (by decide)).trans c151_27_88_0))
            have r167 : ∀ j : Int, h345 167 j = h88_0 167 j := fun j => ((my_fr.at frh345 is_167 rfl).trans ((my_up_role fh6 is_167 is_151 rfl).trans (rfl : h88_0 167 j = h88_0 167 j)))
            have r6 := r167 6
            have c365 := ev356.symm
            exact w_vret gz_185_275 gm_185 (k0 h345 (gh345) (by omega) (by omega) (by first | omega | exact Or.inl ⟨by omega, fillM_R zF (by first | exact Or.inl ⟨by omega, by omega⟩ | exact Or.inr ⟨by omega, Or.inl ⟨by omega, by omega⟩⟩ | exact Or.inr ⟨by omega, Or.inr ⟨by omega, by omega, by omega⟩⟩), by omega, by omega⟩ | exact Or.inr (Or.inr (Or.inl ⟨by omega, by omega, cutM_R zC (by first | exact Or.inl ⟨by omega, by omega⟩ | exact Or.inr ⟨by omega, Or.inl ⟨by omega, by omega⟩⟩ | exact Or.inr ⟨by omega, Or.inr ⟨by omega, by omega, by omega⟩⟩), by first | omega | exact cw9, by omega⟩)) | exact Or.inr (Or.inr (Or.inr (Or.inl ⟨by omega, by omega, by first | (rw [cw9]; exact fmE_R zW (by first | exact Or.inl ⟨by omega, by omega⟩ | exact Or.inr ⟨by omega, Or.inl ⟨by omega, by omega⟩⟩ | exact Or.inr ⟨by omega, Or.inr ⟨by omega, by omega, by omega⟩⟩)) | exact fmE_R zW (by first | exact Or.inl ⟨by omega, by omega⟩ | exact Or.inr ⟨by omega, Or.inl ⟨by omega, by omega⟩⟩ | exact Or.inr ⟨by omega, Or.inr ⟨by omega, by omega, by omega⟩⟩), by omega⟩))) | exact Or.inr (Or.inr (Or.inr (Or.inr (Or.inl ⟨by omega, by omega, joinM_R zJ (by first | exact Or.inl ⟨by omega, by omega⟩ | exact Or.inr ⟨by omega, Or.inl ⟨by omega, by omega⟩⟩ | exact Or.inr ⟨by omega, Or.inr ⟨by omega, by omega, by omega⟩⟩), fun _ => by omega, by omega⟩)))) | exact Or.inr (Or.inr (Or.inr (Or.inr (Or.inr (Or.inl ⟨by omega, by omega, sumM_R zS (by first | exact Or.inl ⟨by omega, by omega⟩ | exact Or.inr ⟨by omega, Or.inl ⟨by omega, by omega⟩⟩ | exact Or.inr ⟨by omega, Or.inr ⟨by omega, by omega, by omega⟩⟩), by first | omega | exact cw9, by omega⟩))))) | exact ⟨_, _, _, Or.inl ⟨by omega, fillM_R zF (by first | exact Or.inl ⟨by omega, by omega⟩ | exact Or.inr ⟨by omega, Or.inl ⟨by omega, by omega⟩⟩ | exact Or.inr ⟨by omega, Or.inr ⟨by omega, by omega, by omega⟩⟩), rfl, rfl⟩⟩ | exact ⟨_, _, _, Or.inr (Or.inr (Or.inl ⟨by omega, by omega, cutM_R zC (by first | exact Or.inl ⟨by omega, by omega⟩ | exact Or.inr ⟨by omega, Or.inl ⟨by omega, by omega⟩⟩ | exact Or.inr ⟨by omega, Or.inr ⟨by omega, by omega, by omega⟩⟩), rfl, rfl⟩))⟩ | exact ⟨_, _, _, Or.inr (Or.inr (Or.inr (Or.inl ⟨by omega, by omega, fmE_R zW (by first | exact Or.inl ⟨by omega, by omega⟩ | exact Or.inr ⟨by omega, Or.inl ⟨by omega, by omega⟩⟩ | exact Or.inr ⟨by omega, Or.inr ⟨by omega, by omega, by omega⟩⟩), rfl⟩)))⟩ | exact ⟨_, _, _, Or.inr (Or.inr (Or.inr (Or.inr (Or.inl ⟨by omega, by omega, joinM_R zJ (by first | exact Or.inl ⟨by omega, by omega⟩ | exact Or.inr ⟨by omega, Or.inl ⟨by omega, by omega⟩⟩ | exact Or.inr ⟨by omega, Or.inr ⟨by omega, by omega, by omega⟩⟩), fun q => absurd q (by omega), rfl⟩))))⟩ | exact ⟨_, _, _, Or.inr (Or.inr (Or.inr (Or.inr (Or.inr (Or.inl ⟨by omega, by omega, sumM_R zS (by first | exact Or.inl ⟨by omega, by omega⟩ | exact Or.inr ⟨by omega, Or.inl ⟨by omega, by omega⟩⟩ | exact Or.inr ⟨by omega, Or.inr ⟨by omega, by omega, by omega⟩⟩), rfl, rfl⟩)))))⟩ | exact ⟨0, 0, 0, Or.inr (Or.inl ⟨by omega, by omega, by omega⟩)⟩ | exact ⟨0, 0, 0, Or.inr (Or.inr (Or.inr (Or.inr (Or.inr (Or.inr (⟨by omega, by omega, by omega, by omega, by omega, by omega⟩))))))⟩ | omega) (by first | omega | exact Or.inl ⟨by omega, fillM_R zF (by first | exact Or.inl ⟨by omega, by omega⟩ | exact Or.inr ⟨by omega, Or.inl ⟨by omega, by omega⟩⟩ | exact Or.inr ⟨by omega, Or.inr ⟨by omega, by omega, by omega⟩⟩), by omega, by omega⟩ | exact Or.inr (Or.inr (Or.inl ⟨by omega, by omega, cutM_R zC (by first | exact Or.inl ⟨by omega, by omega⟩ | exact Or.inr ⟨by omega, Or.inl ⟨by omega, by omega⟩⟩ | exact Or.inr ⟨by omega, Or.inr ⟨by omega, by omega, by omega⟩⟩), by first | omega | exact cw9, by omega⟩)) | exact Or.inr (Or.inr (Or.inr (Or.inl ⟨by omega, by omega, by first | (rw [cw9]; exact fmE_R zW (by first | exact Or.inl ⟨by omega, by omega⟩ | exact Or.inr ⟨by omega, Or.inl ⟨by omega, by omega⟩⟩ | exact Or.inr ⟨by omega, Or.inr ⟨by omega, by omega, by omega⟩⟩)) | exact fmE_R zW (by first | exact Or.inl ⟨by omega, by omega⟩ | exact Or.inr ⟨by omega, Or.inl ⟨by omega, by omega⟩⟩ | exact Or.inr ⟨by omega, Or.inr ⟨by omega, by omega, by omega⟩⟩), by omega⟩))) | exact Or.inr (Or.inr (Or.inr (Or.inr (Or.inl ⟨by omega, by omega, joinM_R zJ (by first | exact Or.inl ⟨by omega, by omega⟩ | exact Or.inr ⟨by omega, Or.inl ⟨by omega, by omega⟩⟩ | exact Or.inr ⟨by omega, Or.inr ⟨by omega, by omega, by omega⟩⟩), fun _ => by omega, by omega⟩)))) | exact Or.inr (Or.inr (Or.inr (Or.inr (Or.inr (Or.inl ⟨by omega, by omega, sumM_R zS (by first | exact Or.inl ⟨by omega, by omega⟩ | exact Or.inr ⟨by omega, Or.inl ⟨by omega, by omega⟩⟩ | exact Or.inr ⟨by omega, Or.inr ⟨by omega, by omega, by omega⟩⟩), by first | omega | exact cw9, by omega⟩))))) | exact ⟨_, _, _, Or.inl ⟨by omega, fillM_R zF (by first | exact Or.inl ⟨by omega, by omega⟩ | exact Or.inr ⟨by omega, Or.inl ⟨by omega, by omega⟩⟩ | exact Or.inr ⟨by omega, Or.inr ⟨by omega, by omega, by omega⟩⟩), rfl, rfl⟩⟩ | exact ⟨_, _, _, Or.inr (Or.inr (Or.inl ⟨by omega, by omega, cutM_R zC (by first | exact Or.inl ⟨by omega, by omega⟩ | exact Or.inr ⟨by omega, Or.inl ⟨by omega, by omega⟩⟩ | exact Or.inr ⟨by omega, Or.inr ⟨by omega, by omega, by omega⟩⟩), rfl, rfl⟩))⟩ | exact ⟨_, _, _, Or.inr (Or.inr (Or.inr (Or.inl ⟨by omega, by omega, fmE_R zW (by first | exact Or.inl ⟨by omega, by omega⟩ | exact Or.inr ⟨by omega, Or.inl ⟨by omega, by omega⟩⟩ | exact Or.inr ⟨by omega, Or.inr ⟨by omega, by omega, by omega⟩⟩), rfl⟩)))⟩ | exact ⟨_, _, _, Or.inr (Or.inr (Or.inr (Or.inr (Or.inl ⟨by omega, by omega, joinM_R zJ (by first | exact Or.inl ⟨by omega, by omega⟩ | exact Or.inr ⟨by omega, Or.inl ⟨by omega, by omega⟩⟩ | exact Or.inr ⟨by omega, Or.inr ⟨by omega, by omega, by omega⟩⟩), fun q => absurd q (by omega), rfl⟩))))⟩ | exact ⟨_, _, _, Or.inr (Or.inr (Or.inr (Or.inr (Or.inr (Or.inl ⟨by omega, by omega, sumM_R zS (by first | exact Or.inl ⟨by omega, by omega⟩ | exact Or.inr ⟨by omega, Or.inl ⟨by omega, by omega⟩⟩ | exact Or.inr ⟨by omega, Or.inr ⟨by omega, by omega, by omega⟩⟩), rfl, rfl⟩)))))⟩ | exact ⟨0, 0, 0, Or.inr (Or.inl ⟨by omega, by omega, by omega⟩)⟩ | exact ⟨0, 0, 0, Or.inr (Or.inr (Or.inr (Or.inr (Or.inr (Or.inr (⟨by omega, by omega, by omega, by omega, by omega, by omega⟩))))))⟩ | omega) Tok_h345t362 Mq_h345t352 Wrd_h345 Wd9_h345t353)
          ·
            refine w_iload_n gz_185_235 rfl ?_
            refine w_ifne (t := 252) gz_185_236 rfl (fun u366 => by exfalso; omega) (fun u366 => ?_)
            refine w_iload_n gz_185_239 rfl ?_
            refine w_ifne (t := 252) gz_185_240 rfl (fun u367 => ?_) (fun u367 => by exfalso; omega)
            refine w_aload_n gz_185_252 rfl ?_
            refine w_iload gz_185_253 rfl ?_
            have d167 : ∀ j : Int, h345 167 j = h88_0 167 j := fun j => ((my_fr.at frh345 is_167 rfl).trans ((my_up_role fh6 is_167 is_151 rfl).trans (rfl : h88_0 167 j = h88_0 167 j)))
            have d6 := d167 6
            have mr0 := Mq_h345t352
            have ce368 : h345 151 27 = k151_27 := ((my_fr.at frh345 is_151 rfl).trans ((my_up_fld fh6 (by decide)).trans c151_27_88_0))
            refine w_inv (k := 1) (as := [(0, (36 + v10))]) (r := []) (x := 151) (ls0 := [(2, 151), (0, (36 + v10)), (9, 0)]) gz_185_255 gm_182 rfl is_151 rd_10 rfl rfl rfl rfl rfl (c_Model_pane2_f0 (d := (d + 3)) (x1 := (36 + v10)) (by omega) (by omega) (ev356.symm.trans (by omega)) (pk.1) (fun h369 frh369 w370 xp371 xp372 => ?_))
            have gh369 : my_fr [(10, 7), (10, 8), (10, 27), (66, -1), (67, -1), (68, -1), (69, -1), (70, -1), (71, -1), (72, -1), (73, -1), (74, -1), (75, -1), (77, -1), (78, -1), (79, -1)] h h369 := my_fr.tr gh345 (frh369.mo rfl)
            have Wrd_h369 : Wrd h369 := Wrd_ag (my_ag.fr frh369 rfl) Wrd_h345
            have Wd9_h369 : Wd9 h369 := Wd9_ag (my_ag.fr frh369 rfl) Wd9_h345t353
            have Tok_h369 : Tok h369 := Tok_ag (my_ag.fr frh369 rfl) Tok_h345t351
            show wp l rho (d + 4) 185 258 [(2, 151), (0, p88_0), (0, p88_1), (0, p88_2), (0, p88_3), (0, (36 + v10)), (9, 0), (9, 0)] [] h369 Q
            have ag0 : my_ag M3F h345 h369 := my_ag.fr frh369 rfl
            have e27 := xp371
            have e67 : h369 167 6 = h345 167 6 := ag0.at mis_167 rfl
            have mc := ms_c e27
            try (have m3 := mc.2.2.1 kd; rw [← m3] at zW)
            try (have q58 : h345 157 = h 157 := funext (fun j => my_fr.at gh345 is_157 rfl); have j4 := mc.2.1 kd.1; rw [kd.2, q58] at j4)
            refine w_aload_n gz_185_258 rfl ?_
            refine w_getX (v := 167) gz_185_259 is_151 rd_10 rfl (by decide) rfl ?_
            refine w_bipush gz_185_262 (by decide) ?_
            refine w_dup2 gz_185_264 rfl rfl ?_
            refine w_iald gz_185_265 is_167 rd_66 (by omega) (by omega) (fun v374 ev374 pv374 qv374 => ?_)
            have zv374 := ev374.trans ((my_fr.at frh369 is_167 rfl).trans ((my_fr.at frh345 is_167 rfl).trans ev10.symm))
            refine w_iconst gz_185_266 (by decide) ?_
            refine w_iadd gz_185_267 ⟨by omega, by omega⟩ ?_
            have hi375 : 0 ≤ (v374 + 1) := by omega
            have hi376 : (v374 + 1) ≤ 6 := by omega
            refine w_iast gz_185_268 is_167 rd_66 (by omega) (by omega) (by omega) (by omega) (fun h377 fh377 => ?_)
            have gh377 : my_fr [(10, 7), (10, 8), (10, 27), (66, -1), (67, -1), (68, -1), (69, -1), (70, -1), (71, -1), (72, -1), (73, -1), (74, -1), (75, -1), (77, -1), (78, -1), (79, -1)] h h377 := my_fr.up gh369 is_167 fh377 rfl
            have Wrd_h377 : Wrd h377 := Wrd_ag (my_ag.up fh377 is_167 rfl) Wrd_h369
            have Wd9_h377 : Wd9 h377 := Wd9_ag (my_ag.up fh377 is_167 rfl) Wd9_h369
            have Tok_h377 : Tok h377 := Tok_ag (my_ag.up fh377 is_167 rfl) Tok_h369
            have Mq_h377t378 : Mq h377 wv := Mq_add mr0 (by omega) pk pk3 ag0 e27 fh377 (by omega) (by omega)
            have k6 := my_up_self fh377
            refine w_aload_n gz_185_269 rfl ?_
            refine w_bipush gz_185_270 (by decide) ?_
            have ce379 : h377 151 7 = h345 151 7 := ((my_up_role fh377 is_151 is_167 rfl).trans ((my_fr.at frh369 is_151 rfl).trans (rfl : h345 151 7 = h345 151 7)))
            refine w_inv (k := 0) (as := [(0, 59)]) (r := []) (x := 151) (ls0 := [(2, 151), (0, 59)]) gz_185_272 gm_183 rfl is_151 rd_10 rfl rfl rfl rfl rfl (c_Model_takeSign9_f0 (d := (d + 2))  (((my_up_role fh377 is_151 is_167 rfl).trans ((my_fr.at frh369 is_151 rfl).trans ev356.symm)).trans (by omega)) Tok_h377 (fun h380 frh380 w381 w382 xp383 xp384 xp385 Tok_h380t386 => ?_) (fun h387 frh387 w388 w389 w390 xp391 xp392 xp393 Tok_h387t394 => ?_))
            ·
              have gh380 : my_fr [(10, 7), (10, 8), (10, 27), (66, -1), (67, -1), (68, -1), (69, -1), (70, -1), (71, -1), (72, -1), (73, -1), (74, -1), (75, -1), (77, -1), (78, -1), (79, -1)] h h380 := my_fr.tr gh377 (frh380.mo rfl)
              have Wrd_h380 : Wrd h380 := Wrd_ag (my_ag.fr frh380 rfl) Wrd_h377
              have Wd9_h380 : Wd9 h380 := Wd9_ag (my_ag.fr frh380 rfl) Wd9_h377
              have Mq_h380 : Mq h380 wv := Mq_ag (my_ag.fr frh380 rfl) Mq_h377t378
              show wp l rho (d + 4) 185 275 [(2, 151), (0, p88_0), (0, p88_1), (0, p88_2), (0, p88_3), (0, (36 + v10)), (9, 0), (9, 0)] [] h380 Q
              have ps395 : h377 151 7 = h345 151 7 := ((my_up_role fh377 is_151 is_167 rfl).trans ((my_fr.at frh369 is_151 rfl).trans (rfl : h345 151 7 = h345 151 7)))
              rw [ps395] at xp383
              have tE396 : sm h377 = sm h := sm_eq (fun j => my_fr.at gh377 is_153 rfl) (fun j => my_fr.at gh377 is_154 rfl) (fun j => my_fr.at gh377 is_155 rfl)
              rw [tE396] at xp384
              rw [ps395] at xp384
              rw [tE396] at xp385
              rw [ps395] at xp385
              have psR : h380 151 7 = h380 151 7 := (rfl : h380 151 7 = h380 151 7)
              have npsR : sm h380 = sm h := sm_eq (fun j => my_fr.at gh380 is_153 rfl) (fun j => my_fr.at gh380 is_154 rfl) (fun j => my_fr.at gh380 is_155 rfl)
              have ce397 : h380 151 8 = (h380 151 8) := (rfl : h380 151 8 = h380 151 8)
              have ce398 : h380 151 27 = h369 151 27 := ((my_fr.at frh380 is_151 rfl).trans ((my_up_role fh377 is_151 is_167 rfl).trans (rfl : h369 151 27 = h369 151 27)))
              have r167 : ∀ j : Int, h380 167 j = h377 167 j := fun j => ((my_fr.at frh380 is_167 rfl).trans (rfl : h377 167 j = h377 167 j))
              have r6 := r167 6
              have cw9 : h380 151 27 = h369 151 27 := by omega
              have c399 := (rfl : h380 151 8 = h380 151 8)
              exact w_vret gz_185_275 gm_185 (k0 h380 (gh380) (by omega) (by omega) (by first | omega | exact Or.inl ⟨by omega, fillM_R zF (by first | exact Or.inl ⟨by omega, by omega⟩ | exact Or.inr ⟨by omega, Or.inl ⟨by omega, by omega⟩⟩ | exact Or.inr ⟨by omega, Or.inr ⟨by omega, by omega, by omega⟩⟩), by omega, by omega⟩ | exact Or.inr (Or.inr (Or.inl ⟨by omega, by omega, cutM_R zC (by first | exact Or.inl ⟨by omega, by omega⟩ | exact Or.inr ⟨by omega, Or.inl ⟨by omega, by omega⟩⟩ | exact Or.inr ⟨by omega, Or.inr ⟨by omega, by omega, by omega⟩⟩), by first | omega | exact cw9, by omega⟩)) | exact Or.inr (Or.inr (Or.inr (Or.inl ⟨by omega, by omega, by first | (rw [cw9]; exact fmE_R zW (by first | exact Or.inl ⟨by omega, by omega⟩ | exact Or.inr ⟨by omega, Or.inl ⟨by omega, by omega⟩⟩ | exact Or.inr ⟨by omega, Or.inr ⟨by omega, by omega, by omega⟩⟩)) | exact fmE_R zW (by first | exact Or.inl ⟨by omega, by omega⟩ | exact Or.inr ⟨by omega, Or.inl ⟨by omega, by omega⟩⟩ | exact Or.inr ⟨by omega, Or.inr ⟨by omega, by omega, by omega⟩⟩), by omega⟩))) | exact Or.inr (Or.inr (Or.inr (Or.inr (Or.inl ⟨by omega, by omega, joinM_R zJ (by first | exact Or.inl ⟨by omega, by omega⟩ | exact Or.inr ⟨by omega, Or.inl ⟨by omega, by omega⟩⟩ | exact Or.inr ⟨by omega, Or.inr ⟨by omega, by omega, by omega⟩⟩), fun _ => by omega, by omega⟩)))) | exact Or.inr (Or.inr (Or.inr (Or.inr (Or.inr (Or.inl ⟨by omega, by omega, sumM_R zS (by first | exact Or.inl ⟨by omega, by omega⟩ | exact Or.inr ⟨by omega, Or.inl ⟨by omega, by omega⟩⟩ | exact Or.inr ⟨by omega, Or.inr ⟨by omega, by omega, by omega⟩⟩), by first | omega | exact cw9, by omega⟩))))) | exact ⟨_, _, _, Or.inl ⟨by omega, fillM_R zF (by first | exact Or.inl ⟨by omega, by omega⟩ | exact Or.inr ⟨by omega, Or.inl ⟨by omega, by omega⟩⟩ | exact Or.inr ⟨by omega, Or.inr ⟨by omega, by omega, by omega⟩⟩), rfl, rfl⟩⟩ | exact ⟨_, _, _, Or.inr (Or.inr (Or.inl ⟨by omega, by omega, cutM_R zC (by first | exact Or.inl ⟨by omega, by omega⟩ | exact Or.inr ⟨by omega, Or.inl ⟨by omega, by omega⟩⟩ | exact Or.inr ⟨by omega, Or.inr ⟨by omega, by omega, by omega⟩⟩), rfl, rfl⟩))⟩ | exact ⟨_, _, _, Or.inr (Or.inr (Or.inr (Or.inl ⟨by omega, by omega, fmE_R zW (by first | exact Or.inl ⟨by omega, by omega⟩ | exact Or.inr ⟨by omega, Or.inl ⟨by omega, by omega⟩⟩ | exact Or.inr ⟨by omega, Or.inr ⟨by omega, by omega, by omega⟩⟩), rfl⟩)))⟩ | exact ⟨_, _, _, Or.inr (Or.inr (Or.inr (Or.inr (Or.inl ⟨by omega, by omega, joinM_R zJ (by first | exact Or.inl ⟨by omega, by omega⟩ | exact Or.inr ⟨by omega, Or.inl ⟨by omega, by omega⟩⟩ | exact Or.inr ⟨by omega, Or.inr ⟨by omega, by omega, by omega⟩⟩), fun q => absurd q (by omega), rfl⟩))))⟩ | exact ⟨_, _, _, Or.inr (Or.inr (Or.inr (Or.inr (Or.inr (Or.inl ⟨by omega, by omega, sumM_R zS (by first | exact Or.inl ⟨by omega, by omega⟩ | exact Or.inr ⟨by omega, Or.inl ⟨by omega, by omega⟩⟩ | exact Or.inr ⟨by omega, Or.inr ⟨by omega, by omega, by omega⟩⟩), rfl, rfl⟩)))))⟩ | exact ⟨0, 0, 0, Or.inr (Or.inl ⟨by omega, by omega, by omega⟩)⟩ | exact ⟨0, 0, 0, Or.inr (Or.inr (Or.inr (Or.inr (Or.inr (Or.inr (⟨by omega, by omega, by omega, by omega, by omega, by omega⟩))))))⟩ | omega) (by first | omega | exact Or.inl ⟨by omega, fillM_R zF (by first | exact Or.inl ⟨by omega, by omega⟩ | exact Or.inr ⟨by omega, Or.inl ⟨by omega, by omega⟩⟩ | exact Or.inr ⟨by omega, Or.inr ⟨by omega, by omega, by omega⟩⟩), by omega, by omega⟩ | exact Or.inr (Or.inr (Or.inl ⟨by omega, by omega, cutM_R zC (by first | exact Or.inl ⟨by omega, by omega⟩ | exact Or.inr ⟨by omega, Or.inl ⟨by omega, by omega⟩⟩ | exact Or.inr ⟨by omega, Or.inr ⟨by omega, by omega, by omega⟩⟩), by first | omega | exact cw9, by omega⟩)) | exact Or.inr (Or.inr (Or.inr (Or.inl ⟨by omega, by omega, by first | (rw [cw9]; exact fmE_R zW (by first | exact Or.inl ⟨by omega, by omega⟩ | exact Or.inr ⟨by omega, Or.inl ⟨by omega, by omega⟩⟩ | exact Or.inr ⟨by omega, Or.inr ⟨by omega, by omega, by omega⟩⟩)) | exact fmE_R zW (by first | exact Or.inl ⟨by omega, by omega⟩ | exact Or.inr ⟨by omega, Or.inl ⟨by omega, by omega⟩⟩ | exact Or.inr ⟨by omega, Or.inr ⟨by omega, by omega, by omega⟩⟩), by omega⟩))) | exact Or.inr (Or.inr (Or.inr (Or.inr (Or.inl ⟨by omega, by omega, joinM_R zJ (by first | exact Or.inl ⟨by omega, by omega⟩ | exact Or.inr ⟨by omega, Or.inl ⟨by omega, by omega⟩⟩ | exact Or.inr ⟨by omega, Or.inr ⟨by omega, by omega, by omega⟩⟩), fun _ => by omega, by omega⟩)))) | exact Or.inr (Or.inr (Or.inr (Or.inr (Or.inr (Or.inl ⟨by omega, by omega, sumM_R zS (by first | exact Or.inl ⟨by omega, by omega⟩ | exact Or.inr ⟨by omega, Or.inl ⟨by omega, by omega⟩⟩ | exact Or.inr ⟨by omega, Or.inr ⟨by omega, by omega, by omega⟩⟩), by first | omega | exact cw9, by omega⟩))))) | exact ⟨_, _, _, Or.inl ⟨by omega, fillM_R zF (by first | exact Or.inl ⟨by omega, by omega⟩ | exact Or.inr ⟨by omega, Or.inl ⟨by omega, by omega⟩⟩ | exact Or.inr ⟨by omega, Or.inr ⟨by omega, by omega, by omega⟩⟩), rfl, rfl⟩⟩ | exact ⟨_, _, _, Or.inr (Or.inr (Or.inl ⟨by omega, by omega, cutM_R zC (by first | exact Or.inl ⟨by omega, by omega⟩ | exact Or.inr ⟨by omega, Or.inl ⟨by omega, by omega⟩⟩ | exact Or.inr ⟨by omega, Or.inr ⟨by omega, by omega, by omega⟩⟩), rfl, rfl⟩))⟩ | exact ⟨_, _, _, Or.inr (Or.inr (Or.inr (Or.inl ⟨by omega, by omega, fmE_R zW (by first | exact Or.inl ⟨by omega, by omega⟩ | exact Or.inr ⟨by omega, Or.inl ⟨by omega, by omega⟩⟩ | exact Or.inr ⟨by omega, Or.inr ⟨by omega, by omega, by omega⟩⟩), rfl⟩)))⟩ | exact ⟨_, _, _, Or.inr (Or.inr (Or.inr (Or.inr (Or.inl ⟨by omega, by omega, joinM_R zJ (by first | exact Or.inl ⟨by omega, by omega⟩ | exact Or.inr ⟨by omega, Or.inl ⟨by omega, by omega⟩⟩ | exact Or.inr ⟨by omega, Or.inr ⟨by omega, by omega, by omega⟩⟩), fun q => absurd q (by omega), rfl⟩))))⟩ | exact ⟨_, _, _, Or.inr (Or.inr (Or.inr (Or.inr (Or.inr (Or.inl ⟨by omega, by omega, sumM_R zS (by first | exact Or.inl ⟨by omega, by omega⟩ | exact Or.inr ⟨by omega, Or.inl ⟨by omega, by omega⟩⟩ | exact Or.inr ⟨by omega, Or.inr ⟨by omega, by omega, by omega⟩⟩), rfl, rfl⟩)))))⟩ | exact ⟨0, 0, 0, Or.inr (Or.inl ⟨by omega, by omega, by omega⟩)⟩ | exact ⟨0, 0, 0, Or.inr (Or.inr (Or.inr (Or.inr (Or.inr (Or.inr (⟨by omega, by omega, by omega, by omega, by omega, by omega⟩))))))⟩ | omega) Tok_h380t386 Mq_h380 Wrd_h380 Wd9_h380)
            ·
              have gh387 : my_fr [(10, 7), (10, 8), (10, 27), (66, -1), (67, -1), (68, -1), (69, -1), (70, -1), (71, -1), (72, -1), (73, -1), (74, -1), (75, -1), (77, -1), (78, -1), (79, -1)] h h387 := my_fr.tr gh377 (frh387.mo rfl)
              have Wrd_h387 : Wrd h387 := Wrd_ag (my_ag.fr frh387 rfl) Wrd_h377
              have Wd9_h387 : Wd9 h387 := Wd9_ag (my_ag.fr frh387 rfl) Wd9_h377
              have Mq_h387 : Mq h387 wv := Mq_ag (my_ag.fr frh387 rfl) Mq_h377t378
              show wp l rho (d + 4) 185 275 [(2, 151), (0, p88_0), (0, p88_1), (0, p88_2), (0, p88_3), (0, (36 + v10)), (9, 0), (9, 0)] [] h387 Q
              have ps400 : h377 151 7 = h345 151 7 := ((my_up_role fh377 is_151 is_167 rfl).trans ((my_fr.at frh369 is_151 rfl).trans (rfl : h345 151 7 = h345 151 7)))
              rw [ps400] at xp391
              have tE401 : sm h377 = sm h := sm_eq (fun j => my_fr.at gh377 is_153 rfl) (fun j => my_fr.at gh377 is_154 rfl) (fun j => my_fr.at gh377 is_155 rfl)
              rw [tE401] at xp392
              rw [ps400] at xp392
              rw [tE401] at xp393
              rw [ps400] at xp393
              have psR : h387 151 7 = (sN (sm h) ((h345 151 7))) := xp392
              have npsR : sm h387 = sm h := sm_eq (fun j => my_fr.at gh387 is_153 rfl) (fun j => my_fr.at gh387 is_154 rfl) (fun j => my_fr.at gh387 is_155 rfl)
              have ce402 : h387 151 7 = (h387 151 7) := (rfl : h387 151 7 = h387 151 7)
              have ce403 : h387 151 8 = 0 := w390
              have ce404 : h387 151 27 = h369 151 27 := ((my_fr.at frh387 is_151 rfl).trans ((my_up_role fh377 is_151 is_167 rfl).trans (rfl : h369 151 27 = h369 151 27)))
              have r167 : ∀ j : Int, h387 167 j = h377 167 j := fun j => ((my_fr.at frh387 is_167 rfl).trans (rfl : h377 167 j = h377 167 j))
              have r6 := r167 6
              have cw9 : h387 151 27 = h369 151 27 := by omega
              have c405 := (rfl : h387 151 7 = h387 151 7)
              have c406 := w390
              exact w_vret gz_185_275 gm_185 (k1 h387 (gh387) (by omega) (by omega) (by omega) (by first | omega | exact Or.inl ⟨by omega, fillM_R zF (by first | exact Or.inl ⟨by omega, by omega⟩ | exact Or.inr ⟨by omega, Or.inl ⟨by omega, by omega⟩⟩ | exact Or.inr ⟨by omega, Or.inr ⟨by omega, by omega, by omega⟩⟩), by omega, by omega⟩ | exact Or.inr (Or.inr (Or.inl ⟨by omega, by omega, cutM_R zC (by first | exact Or.inl ⟨by omega, by omega⟩ | exact Or.inr ⟨by omega, Or.inl ⟨by omega, by omega⟩⟩ | exact Or.inr ⟨by omega, Or.inr ⟨by omega, by omega, by omega⟩⟩), by first | omega | exact cw9, by omega⟩)) | exact Or.inr (Or.inr (Or.inr (Or.inl ⟨by omega, by omega, by first | (rw [cw9]; exact fmE_R zW (by first | exact Or.inl ⟨by omega, by omega⟩ | exact Or.inr ⟨by omega, Or.inl ⟨by omega, by omega⟩⟩ | exact Or.inr ⟨by omega, Or.inr ⟨by omega, by omega, by omega⟩⟩)) | exact fmE_R zW (by first | exact Or.inl ⟨by omega, by omega⟩ | exact Or.inr ⟨by omega, Or.inl ⟨by omega, by omega⟩⟩ | exact Or.inr ⟨by omega, Or.inr ⟨by omega, by omega, by omega⟩⟩), by omega⟩))) | exact Or.inr (Or.inr (Or.inr (Or.inr (Or.inl ⟨by omega, by omega, joinM_R zJ (by first | exact Or.inl ⟨by omega, by omega⟩ | exact Or.inr ⟨by omega, Or.inl ⟨by omega, by omega⟩⟩ | exact Or.inr ⟨by omega, Or.inr ⟨by omega, by omega, by omega⟩⟩), fun _ => by omega, by omega⟩)))) | exact Or.inr (Or.inr (Or.inr (Or.inr (Or.inr (Or.inl ⟨by omega, by omega, sumM_R zS (by first | exact Or.inl ⟨by omega, by omega⟩ | exact Or.inr ⟨by omega, Or.inl ⟨by omega, by omega⟩⟩ | exact Or.inr ⟨by omega, Or.inr ⟨by omega, by omega, by omega⟩⟩), by first | omega | exact cw9, by omega⟩))))) | exact ⟨_, _, _, Or.inl ⟨by omega, fillM_R zF (by first | exact Or.inl ⟨by omega, by omega⟩ | exact Or.inr ⟨by omega, Or.inl ⟨by omega, by omega⟩⟩ | exact Or.inr ⟨by omega, Or.inr ⟨by omega, by omega, by omega⟩⟩), rfl, rfl⟩⟩ | exact ⟨_, _, _, Or.inr (Or.inr (Or.inl ⟨by omega, by omega, cutM_R zC (by first | exact Or.inl ⟨by omega, by omega⟩ | exact Or.inr ⟨by omega, Or.inl ⟨by omega, by omega⟩⟩ | exact Or.inr ⟨by omega, Or.inr ⟨by omega, by omega, by omega⟩⟩), rfl, rfl⟩))⟩ | exact ⟨_, _, _, Or.inr (Or.inr (Or.inr (Or.inl ⟨by omega, by omega, fmE_R zW (by first | exact Or.inl ⟨by omega, by omega⟩ | exact Or.inr ⟨by omega, Or.inl ⟨by omega, by omega⟩⟩ | exact Or.inr ⟨by omega, Or.inr ⟨by omega, by omega, by omega⟩⟩), rfl⟩)))⟩ | exact ⟨_, _, _, Or.inr (Or.inr (Or.inr (Or.inr (Or.inl ⟨by omega, by omega, joinM_R zJ (by first | exact Or.inl ⟨by omega, by omega⟩ | exact Or.inr ⟨by omega, Or.inl ⟨by omega, by omega⟩⟩ | exact Or.inr ⟨by omega, Or.inr ⟨by omega, by omega, by omega⟩⟩), fun q => absurd q (by omega), rfl⟩))))⟩ | exact ⟨_, _, _, Or.inr (Or.inr (Or.inr (Or.inr (Or.inr (Or.inl ⟨by omega, by omega, sumM_R zS (by first | exact Or.inl ⟨by omega, by omega⟩ | exact Or.inr ⟨by omega, Or.inl ⟨by omega, by omega⟩⟩ | exact Or.inr ⟨by omega, Or.inr ⟨by omega, by omega, by omega⟩⟩), rfl, rfl⟩)))))⟩ | exact ⟨0, 0, 0, Or.inr (Or.inl ⟨by omega, by omega, by omega⟩)⟩ | exact ⟨0, 0, 0, Or.inr (Or.inr (Or.inr (Or.inr (Or.inr (Or.inr (⟨by omega, by omega, by omega, by omega, by omega, by omega⟩))))))⟩ | omega) (by first | omega | exact Or.inl ⟨by omega, fillM_R zF (by first | exact Or.inl ⟨by omega, by omega⟩ | exact Or.inr ⟨by omega, Or.inl ⟨by omega, by omega⟩⟩ | exact Or.inr ⟨by omega, Or.inr ⟨by omega, by omega, by omega⟩⟩), by omega, by omega⟩ | exact Or.inr (Or.inr (Or.inl ⟨by omega, by omega, cutM_R zC (by first | exact Or.inl ⟨by omega, by omega⟩ | exact Or.inr ⟨by omega, Or.inl ⟨by omega, by omega⟩⟩ | exact Or.inr ⟨by omega, Or.inr ⟨by omega, by omega, by omega⟩⟩), by first | omega | exact cw9, by omega⟩)) | exact Or.inr (Or.inr (Or.inr (Or.inl ⟨by omega, by omega, by first | (rw [cw9]; exact fmE_R zW (by first | exact Or.inl ⟨by omega, by omega⟩ | exact Or.inr ⟨by omega, Or.inl ⟨by omega, by omega⟩⟩ | exact Or.inr ⟨by omega, Or.inr ⟨by omega, by omega, by omega⟩⟩)) | exact fmE_R zW (by first | exact Or.inl ⟨by omega, by omega⟩ | exact Or.inr ⟨by omega, Or.inl ⟨by omega, by omega⟩⟩ | exact Or.inr ⟨by omega, Or.inr ⟨by omega, by omega, by omega⟩⟩), by omega⟩))) | exact Or.inr (Or.inr (Or.inr (Or.inr (Or.inl ⟨by omega, by omega, joinM_R zJ (by first | exact Or.inl ⟨by omega, by omega⟩ | exact Or.inr ⟨by omega, Or.inl ⟨by omega, by omega⟩⟩ | exact Or.inr ⟨by omega, Or.inr ⟨by omega, by omega, by omega⟩⟩), fun _ => by omega, by omega⟩)))) | exact Or.inr (Or.inr (Or.inr (Or.inr (Or.inr (Or.inl ⟨by omega, by omega, sumM_R zS (by first | exact Or.inl ⟨by omega, by omega⟩ | exact Or.inr ⟨by omega, Or.inl ⟨by omega, by omega⟩⟩ | exact Or.inr ⟨by omega, Or.inr ⟨by omega, by omega, by omega⟩⟩), by first | omega | exact cw9, by omega⟩))))) | exact ⟨_, _, _, Or.inl ⟨by omega, fillM_R zF (by first | exact Or.inl ⟨by omega, by omega⟩ | exact Or.inr ⟨by omega, Or.inl ⟨by omega, by omega⟩⟩ | exact Or.inr ⟨by omega, Or.inr ⟨by omega, by omega, by omega⟩⟩), rfl, rfl⟩⟩ | exact ⟨_, _, _, Or.inr (Or.inr (Or.inl ⟨by omega, by omega, cutM_R zC (by first | exact Or.inl ⟨by omega, by omega⟩ | exact Or.inr ⟨by omega, Or.inl ⟨by omega, by omega⟩⟩ | exact Or.inr ⟨by omega, Or.inr ⟨by omega, by omega, by omega⟩⟩), rfl, rfl⟩))⟩ | exact ⟨_, _, _, Or.inr (Or.inr (Or.inr (Or.inl ⟨by omega, by omega, fmE_R zW (by first | exact Or.inl ⟨by omega, by omega⟩ | exact Or.inr ⟨by omega, Or.inl ⟨by omega, by omega⟩⟩ | exact Or.inr ⟨by omega, Or.inr ⟨by omega, by omega, by omega⟩⟩), rfl⟩)))⟩ | exact ⟨_, _, _, Or.inr (Or.inr (Or.inr (Or.inr (Or.inl ⟨by omega, by omega, joinM_R zJ (by first | exact Or.inl ⟨by omega, by omega⟩ | exact Or.inr ⟨by omega, Or.inl ⟨by omega, by omega⟩⟩ | exact Or.inr ⟨by omega, Or.inr ⟨by omega, by omega, by omega⟩⟩), fun q => absurd q (by omega), rfl⟩))))⟩ | exact ⟨_, _, _, Or.inr (Or.inr (Or.inr (Or.inr (Or.inr (Or.inl ⟨by omega, by omega, sumM_R zS (by first | exact Or.inl ⟨by omega, by omega⟩ | exact Or.inr ⟨by omega, Or.inl ⟨by omega, by omega⟩⟩ | exact Or.inr ⟨by omega, Or.inr ⟨by omega, by omega, by omega⟩⟩), rfl, rfl⟩)))))⟩ | exact ⟨0, 0, 0, Or.inr (Or.inl ⟨by omega, by omega, by omega⟩)⟩ | exact ⟨0, 0, 0, Or.inr (Or.inr (Or.inr (Or.inr (Or.inr (Or.inr (⟨by omega, by omega, by omega, by omega, by omega, by omega⟩))))))⟩ | omega) Tok_h387t394 Mq_h387 Wrd_h387 Wd9_h387)
      ·
        refine w_aload_n gz_185_122 rfl ?_
        refine w_iload gz_185_123 rfl ?_
        have ce407 : h6 151 7 = (v3 + 1) := (my_up_self fh6)
        have ce408 : h6 151 27 = k151_27 := ((my_up_fld fh6 (by decide)).trans c151_27_88_0)
        have hi409 : 36 ≤ (36 + v10) := by omega
        have hi410 : (36 + v10) ≤ 41 := by omega
        refine w_inv (k := 2) (as := [(0, (36 + v10))]) (r := []) (x := 151) (ls0 := [(2, 151), (0, (36 + v10)), (9, 0), (9, 0)]) gz_185_125 gm_186 rfl is_151 rd_10 rfl rfl rfl rfl rfl (c_Model_readCut9_f0 (d := (d + 1)) (x1 := (36 + v10)) (wv := wv) (by omega) (by omega) (((my_up_fld fh6 (by decide)).trans ev1.symm).trans (by omega)) (by first | assumption | omega) (by first | assumption | omega) Tok_h6t8 Mq_h6 Wd9_h6 (by first | assumption | exact no_such_saying | exact Fp_told (by omega) (by omega) | omega | (subst_vars; omega) | omega) (fun h411 frh411 w412 w413 xp414 xp415 Tok_h411t416 Mq_h411t417 Wd9_h411t418 => ?_) (fun h419 frh419 w420 w421 w422 xp423 xp424 xp425 xp426 xp427 Tok_h419t428 Mq_h419t429 Wd9_h419t430 => ?_))
        ·
          have gh411 : my_fr [(10, 7), (10, 8), (10, 27), (66, -1), (67, -1), (68, -1), (69, -1), (70, -1), (71, -1), (72, -1), (73, -1), (74, -1), (75, -1), (77, -1), (78, -1), (79, -1)] h h411 := my_fr.tr gh6 (frh411.mo rfl)
          have Wrd_h411 : Wrd h411 := Wrd_ag (my_ag.fr frh411 rfl) Wrd_h6
          have Wd9_h411 : Wd9 h411 := Wd9_ag (my_ag.fr frh411 rfl) Wd9_h6
          show wp l rho (d + 4) 185 128 [(2, 151), (0, p88_0), (0, p88_1), (0, p88_2), (0, p88_3), (0, (36 + v10)), (9, 0), (9, 0)] [] h411 Q
          have ps431 : h6 151 7 = (sN (sm h) (h 151 7)) := ps7
          rw [ps431] at xp414
          have tE432 : sm h6 = sm h := sm_eq (fun j => my_fr.at gh6 is_153 rfl) (fun j => my_fr.at gh6 is_154 rfl) (fun j => my_fr.at gh6 is_155 rfl)
          rw [tE432] at xp415
          rw [ps431] at xp415
          have q27 : h6 151 27 = h 151 27 := by omega
          have q57 : h6 157 = h 157 := funext (fun j => my_fr.at gh6 is_157 rfl)
          have zC := xp415
          simp only [q27, q57] at zC
          refine w_goto (t := 228) gz_185_128 rfl ?_
          refine w_aload_n gz_185_228 rfl ?_
          refine v_getI (j := 8) gz_185_229 rfl is_151 rd_10 rfl (fun v433 ev433 pv433 qv433 => ?_)
          have zv433 := ev433.trans (rfl : h411 151 8 = h411 151 8)
          refine w_ifne (t := 269) gz_185_232 rfl (fun u434 => ?_) (fun u434 => by exfalso; omega)
          refine w_aload_n gz_185_269 rfl ?_
          refine w_bipush gz_185_270 (by decide) ?_
          refine w_inv (k := 0) (as := [(0, 59)]) (r := []) (x := 151) (ls0 := [(2, 151), (0, 59)]) gz_185_272 gm_183 rfl is_151 rd_10 rfl rfl rfl rfl rfl (c_Model_takeSign9_f1 (d := (d + 2))  (v433) (ev433.symm) (by omega) (by omega) Tok_h411t416 (fun w435 w436 xp437 xp438 Tok_h411t439 => ?_))
          show wp l rho (d + 4) 185 275 [(2, 151), (0, p88_0), (0, p88_1), (0, p88_2), (0, p88_3), (0, (36 + v10)), (9, 0), (9, 0)] [] h411 Q
          have psR : h411 151 7 = h411 151 7 := (rfl : h411 151 7 = h411 151 7)
          have npsR : sm h411 = sm h := sm_eq (fun j => my_fr.at gh411 is_153 rfl) (fun j => my_fr.at gh411 is_154 rfl) (fun j => my_fr.at gh411 is_155 rfl)
          have ce440 : h411 151 8 = v433 := ev433.symm
          have ce441 : h411 151 27 = k151_27 := ((my_fr.at frh411 is_151 rfl).trans ((my_up_fld fh6 (by decide)).trans c151_27_88_0))
          have r167 : ∀ j : Int, h411 167 j = h88_0 167 j := fun j => ((my_fr.at frh411 is_167 rfl).trans ((my_up_role fh6 is_167 is_151 rfl).trans (rfl : h88_0 167 j = h88_0 167 j)))
          have r6 := r167 6
          have c442 := ev433.symm
          exact w_vret gz_185_275 gm_185 (k0 h411 (gh411) (by omega) (by omega) (by first | omega | exact Or.inl ⟨by omega, fillM_R zF (by first | exact Or.inl ⟨by omega, by omega⟩ | exact Or.inr ⟨by omega, Or.inl ⟨by omega, by omega⟩⟩ | exact Or.inr ⟨by omega, Or.inr ⟨by omega, by omega, by omega⟩⟩), by omega, by omega⟩ | exact Or.inr (Or.inr (Or.inl ⟨by omega, by omega, cutM_R zC (by first | exact Or.inl ⟨by omega, by omega⟩ | exact Or.inr ⟨by omega, Or.inl ⟨by omega, by omega⟩⟩ | exact Or.inr ⟨by omega, Or.inr ⟨by omega, by omega, by omega⟩⟩), by first | omega | exact cw9, by omega⟩)) | exact Or.inr (Or.inr (Or.inr (Or.inl ⟨by omega, by omega, by first | (rw [cw9]; exact fmE_R zW (by first | exact Or.inl ⟨by omega, by omega⟩ | exact Or.inr ⟨by omega, Or.inl ⟨by omega, by omega⟩⟩ | exact Or.inr ⟨by omega, Or.inr ⟨by omega, by omega, by omega⟩⟩)) | exact fmE_R zW (by first | exact Or.inl ⟨by omega, by omega⟩ | exact Or.inr ⟨by omega, Or.inl ⟨by omega, by omega⟩⟩ | exact Or.inr ⟨by omega, Or.inr ⟨by omega, by omega, by omega⟩⟩), by omega⟩))) | exact Or.inr (Or.inr (Or.inr (Or.inr (Or.inl ⟨by omega, by omega, joinM_R zJ (by first | exact Or.inl ⟨by omega, by omega⟩ | exact Or.inr ⟨by omega, Or.inl ⟨by omega, by omega⟩⟩ | exact Or.inr ⟨by omega, Or.inr ⟨by omega, by omega, by omega⟩⟩), fun _ => by omega, by omega⟩)))) | exact Or.inr (Or.inr (Or.inr (Or.inr (Or.inr (Or.inl ⟨by omega, by omega, sumM_R zS (by first | exact Or.inl ⟨by omega, by omega⟩ | exact Or.inr ⟨by omega, Or.inl ⟨by omega, by omega⟩⟩ | exact Or.inr ⟨by omega, Or.inr ⟨by omega, by omega, by omega⟩⟩), by first | omega | exact cw9, by omega⟩))))) | exact ⟨_, _, _, Or.inl ⟨by omega, fillM_R zF (by first | exact Or.inl ⟨by omega, by omega⟩ | exact Or.inr ⟨by omega, Or.inl ⟨by omega, by omega⟩⟩ | exact Or.inr ⟨by omega, Or.inr ⟨by omega, by omega, by omega⟩⟩), rfl, rfl⟩⟩ | exact ⟨_, _, _, Or.inr (Or.inr (Or.inl ⟨by omega, by omega, cutM_R zC (by first | exact Or.inl ⟨by omega, by omega⟩ | exact Or.inr ⟨by omega, Or.inl ⟨by omega, by omega⟩⟩ | exact Or.inr ⟨by omega, Or.inr ⟨by omega, by omega, by omega⟩⟩), rfl, rfl⟩))⟩ | exact ⟨_, _, _, Or.inr (Or.inr (Or.inr (Or.inl ⟨by omega, by omega, fmE_R zW (by first | exact Or.inl ⟨by omega, by omega⟩ | exact Or.inr ⟨by omega, Or.inl ⟨by omega, by omega⟩⟩ | exact Or.inr ⟨by omega, Or.inr ⟨by omega, by omega, by omega⟩⟩), rfl⟩)))⟩ | exact ⟨_, _, _, Or.inr (Or.inr (Or.inr (Or.inr (Or.inl ⟨by omega, by omega, joinM_R zJ (by first | exact Or.inl ⟨by omega, by omega⟩ | exact Or.inr ⟨by omega, Or.inl ⟨by omega, by omega⟩⟩ | exact Or.inr ⟨by omega, Or.inr ⟨by omega, by omega, by omega⟩⟩), fun q => absurd q (by omega), rfl⟩))))⟩ | exact ⟨_, _, _, Or.inr (Or.inr (Or.inr (Or.inr (Or.inr (Or.inl ⟨by omega, by omega, sumM_R zS (by first | exact Or.inl ⟨by omega, by omega⟩ | exact Or.inr ⟨by omega, Or.inl ⟨by omega, by omega⟩⟩ | exact Or.inr ⟨by omega, Or.inr ⟨by omega, by omega, by omega⟩⟩), rfl, rfl⟩)))))⟩ | exact ⟨0, 0, 0, Or.inr (Or.inl ⟨by omega, by omega, by omega⟩)⟩ | exact ⟨0, 0, 0, Or.inr (Or.inr (Or.inr (Or.inr (Or.inr (Or.inr (⟨by omega, by omega, by omega, by omega, by omega, by omega⟩))))))⟩ | omega) (by first | omega | exact Or.inl ⟨by omega, fillM_R zF (by first | exact Or.inl ⟨by omega, by omega⟩ | exact Or.inr ⟨by omega, Or.inl ⟨by omega, by omega⟩⟩ | exact Or.inr ⟨by omega, Or.inr ⟨by omega, by omega, by omega⟩⟩), by omega, by omega⟩ | exact Or.inr (Or.inr (Or.inl ⟨by omega, by omega, cutM_R zC (by first | exact Or.inl ⟨by omega, by omega⟩ | exact Or.inr ⟨by omega, Or.inl ⟨by omega, by omega⟩⟩ | exact Or.inr ⟨by omega, Or.inr ⟨by omega, by omega, by omega⟩⟩), by first | omega | exact cw9, by omega⟩)) | exact Or.inr (Or.inr (Or.inr (Or.inl ⟨by omega, by omega, by first | (rw [cw9]; exact fmE_R zW (by first | exact Or.inl ⟨by omega, by omega⟩ | exact Or.inr ⟨by omega, Or.inl ⟨by omega, by omega⟩⟩ | exact Or.inr ⟨by omega, Or.inr ⟨by omega, by omega, by omega⟩⟩)) | exact fmE_R zW (by first | exact Or.inl ⟨by omega, by omega⟩ | exact Or.inr ⟨by omega, Or.inl ⟨by omega, by omega⟩⟩ | exact Or.inr ⟨by omega, Or.inr ⟨by omega, by omega, by omega⟩⟩), by omega⟩))) | exact Or.inr (Or.inr (Or.inr (Or.inr (Or.inl ⟨by omega, by omega, joinM_R zJ (by first | exact Or.inl ⟨by omega, by omega⟩ | exact Or.inr ⟨by omega, Or.inl ⟨by omega, by omega⟩⟩ | exact Or.inr ⟨by omega, Or.inr ⟨by omega, by omega, by omega⟩⟩), fun _ => by omega, by omega⟩)))) | exact Or.inr (Or.inr (Or.inr (Or.inr (Or.inr (Or.inl ⟨by omega, by omega, sumM_R zS (by first | exact Or.inl ⟨by omega, by omega⟩ | exact Or.inr ⟨by omega, Or.inl ⟨by omega, by omega⟩⟩ | exact Or.inr ⟨by omega, Or.inr ⟨by omega, by omega, by omega⟩⟩), by first | omega | exact cw9, by omega⟩))))) | exact ⟨_, _, _, Or.inl ⟨by omega, fillM_R zF (by first | exact Or.inl ⟨by omega, by omega⟩ | exact Or.inr ⟨by omega, Or.inl ⟨by omega, by omega⟩⟩ | exact Or.inr ⟨by omega, Or.inr ⟨by omega, by omega, by omega⟩⟩), rfl, rfl⟩⟩ | exact ⟨_, _, _, Or.inr (Or.inr (Or.inl ⟨by omega, by omega, cutM_R zC (by first | exact Or.inl ⟨by omega, by omega⟩ | exact Or.inr ⟨by omega, Or.inl ⟨by omega, by omega⟩⟩ | exact Or.inr ⟨by omega, Or.inr ⟨by omega, by omega, by omega⟩⟩), rfl, rfl⟩))⟩ | exact ⟨_, _, _, Or.inr (Or.inr (Or.inr (Or.inl ⟨by omega, by omega, fmE_R zW (by first | exact Or.inl ⟨by omega, by omega⟩ | exact Or.inr ⟨by omega, Or.inl ⟨by omega, by omega⟩⟩ | exact Or.inr ⟨by omega, Or.inr ⟨by omega, by omega, by omega⟩⟩), rfl⟩)))⟩ | exact ⟨_, _, _, Or.inr (Or.inr (Or.inr (Or.inr (Or.inl ⟨by omega, by omega, joinM_R zJ (by first | exact Or.inl ⟨by omega, by omega⟩ | exact Or.inr ⟨by omega, Or.inl ⟨by omega, by omega⟩⟩ | exact Or.inr ⟨by omega, Or.inr ⟨by omega, by omega, by omega⟩⟩), fun q => absurd q (by omega), rfl⟩))))⟩ | exact ⟨_, _, _, Or.inr (Or.inr (Or.inr (Or.inr (Or.inr (Or.inl ⟨by omega, by omega, sumM_R zS (by first | exact Or.inl ⟨by omega, by omega⟩ | exact Or.inr ⟨by omega, Or.inl ⟨by omega, by omega⟩⟩ | exact Or.inr ⟨by omega, Or.inr ⟨by omega, by omega, by omega⟩⟩), rfl, rfl⟩)))))⟩ | exact ⟨0, 0, 0, Or.inr (Or.inl ⟨by omega, by omega, by omega⟩)⟩ | exact ⟨0, 0, 0, Or.inr (Or.inr (Or.inr (Or.inr (Or.inr (Or.inr (⟨by omega, by omega, by omega, by omega, by omega, by omega⟩))))))⟩ | omega) Tok_h411t439 Mq_h411t417 Wrd_h411 Wd9_h411t418)
        ·
          have gh419 : my_fr [(10, 7), (10, 8), (10, 27), (66, -1), (67, -1), (68, -1), (69, -1), (70, -1), (71, -1), (72, -1), (73, -1), (74, -1), (75, -1), (77, -1), (78, -1), (79, -1)] h h419 := my_fr.tr gh6 (frh419.mo rfl)
          have Wrd_h419 : Wrd h419 := Wrd_ag (my_ag.fr frh419 rfl) Wrd_h6
          have Wd9_h419 : Wd9 h419 := Wd9_ag (my_ag.fr frh419 rfl) Wd9_h6
          show wp l rho (d + 4) 185 128 [(2, 151), (0, p88_0), (0, p88_1), (0, p88_2), (0, p88_3), (0, (36 + v10)), (9, 0), (9, 0)] [] h419 Q
          have ps443 : h6 151 7 = (sN (sm h) (h 151 7)) := ps7
          rw [ps443] at xp425
          have tE444 : sm h6 = sm h := sm_eq (fun j => my_fr.at gh6 is_153 rfl) (fun j => my_fr.at gh6 is_154 rfl) (fun j => my_fr.at gh6 is_155 rfl)
          rw [tE444] at xp426
          rw [ps443] at xp426
          have q27 : h6 151 27 = h 151 27 := by omega
          have q57 : h6 157 = h 157 := funext (fun j => my_fr.at gh6 is_157 rfl)
          have zC := xp426
          simp only [q27, q57] at zC
          have pk := xp423
          have pk3 := xp424
          have kd := xp427
          refine w_goto (t := 228) gz_185_128 rfl ?_
          refine w_aload_n gz_185_228 rfl ?_
          refine v_getI (j := 8) gz_185_229 rfl is_151 rd_10 rfl (fun v445 ev445 pv445 qv445 => ?_)
          have zv445 := ev445.trans w422
          refine w_ifne (t := 269) gz_185_232 rfl (fun u446 => by exfalso; omega) (fun u446 => ?_)
          refine w_iload_n gz_185_235 rfl ?_
          refine w_ifne (t := 252) gz_185_236 rfl (fun u447 => ?_) (fun u447 => by exfalso; omega)
          refine w_aload_n gz_185_252 rfl ?_
          refine w_iload gz_185_253 rfl ?_
          have d167 : ∀ j : Int, h419 167 j = h88_0 167 j := fun j => ((my_fr.at frh419 is_167 rfl).trans ((my_up_role fh6 is_167 is_151 rfl).trans (rfl : h88_0 167 j = h88_0 167 j)))
          have d6 := d167 6
          have mr0 := Mq_h419t429
          have ce448 : h419 151 27 = k151_27 := ((my_fr.at frh419 is_151 rfl).trans ((my_up_fld fh6 (by decide)).trans c151_27_88_0))
          refine w_inv (k := 1) (as := [(0, (36 + v10))]) (r := []) (x := 151) (ls0 := [(2, 151), (0, (36 + v10)), (9, 0)]) gz_185_255 gm_182 rfl is_151 rd_10 rfl rfl rfl rfl rfl (c_Model_pane2_f0 (d := (d + 3)) (x1 := (36 + v10)) (by omega) (by omega) (ev445.symm.trans (by omega)) (pk.1) (fun h449 frh449 w450 xp451 xp452 => ?_))
          have gh449 : my_fr [(10, 7), (10, 8), (10, 27), (66, -1), (67, -1), (68, -1), (69, -1), (70, -1), (71, -1), (72, -1), (73, -1), (74, -1), (75, -1), (77, -1), (78, -1), (79, -1)] h h449 := my_fr.tr gh419 (frh449.mo rfl)
          have Wrd_h449 : Wrd h449 := Wrd_ag (my_ag.fr frh449 rfl) Wrd_h419
          have Wd9_h449 : Wd9 h449 := Wd9_ag (my_ag.fr frh449 rfl) Wd9_h419t430
          have Tok_h449 : Tok h449 := Tok_ag (my_ag.fr frh449 rfl) Tok_h419t428
          show wp l rho (d + 4) 185 258 [(2, 151), (0, p88_0), (0, p88_1), (0, p88_2), (0, p88_3), (0, (36 + v10)), (9, 0), (9, 0)] [] h449 Q
          have ag0 : my_ag M3F h419 h449 := my_ag.fr frh449 rfl
          have e27 := xp451
          have e67 : h449 167 6 = h419 167 6 := ag0.at mis_167 rfl
          have mc := ms_c e27
          try (have m3 := mc.2.2.1 kd; rw [← m3] at zW)
          try (have q58 : h419 157 = h 157 := funext (fun j => my_fr.at gh419 is_157 rfl); have j4 := mc.2.1 kd.1; rw [kd.2, q58] at j4)
          refine w_aload_n gz_185_258 rfl ?_
          refine w_getX (v := 167) gz_185_259 is_151 rd_10 rfl (by decide) rfl ?_
          refine w_bipush gz_185_262 (by decide) ?_
          refine w_dup2 gz_185_264 rfl rfl ?_
          refine w_iald gz_185_265 is_167 rd_66 (by omega) (by omega) (fun v454 ev454 pv454 qv454 => ?_)
          have zv454 := ev454.trans ((my_fr.at frh449 is_167 rfl).trans ((my_fr.at frh419 is_167 rfl).trans ev10.symm))
          refine w_iconst gz_185_266 (by decide) ?_
          refine w_iadd gz_185_267 ⟨by omega, by omega⟩ ?_
          have hi455 : 0 ≤ (v454 + 1) := by omega
          have hi456 : (v454 + 1) ≤ 6 := by omega
          refine w_iast gz_185_268 is_167 rd_66 (by omega) (by omega) (by omega) (by omega) (fun h457 fh457 => ?_)
          have gh457 : my_fr [(10, 7), (10, 8), (10, 27), (66, -1), (67, -1), (68, -1), (69, -1), (70, -1), (71, -1), (72, -1), (73, -1), (74, -1), (75, -1), (77, -1), (78, -1), (79, -1)] h h457 := my_fr.up gh449 is_167 fh457 rfl
          have Wrd_h457 : Wrd h457 := Wrd_ag (my_ag.up fh457 is_167 rfl) Wrd_h449
          have Wd9_h457 : Wd9 h457 := Wd9_ag (my_ag.up fh457 is_167 rfl) Wd9_h449
          have Tok_h457 : Tok h457 := Tok_ag (my_ag.up fh457 is_167 rfl) Tok_h449
          have Mq_h457t458 : Mq h457 wv := Mq_add mr0 (by omega) pk pk3 ag0 e27 fh457 (by omega) (by omega)
          have k6 := my_up_self fh457
          refine w_aload_n gz_185_269 rfl ?_
          refine w_bipush gz_185_270 (by decide) ?_
          have ce459 : h457 151 7 = (h419 151 7) := ((my_up_role fh457 is_151 is_167 rfl).trans ((my_fr.at frh449 is_151 rfl).trans (rfl : h419 151 7 = h419 151 7)))
          refine w_inv (k := 0) (as := [(0, 59)]) (r := []) (x := 151) (ls0 := [(2, 151), (0, 59)]) gz_185_272 gm_183 rfl is_151 rd_10 rfl rfl rfl rfl rfl (c_Model_takeSign9_f0 (d := (d + 2))  (((my_up_role fh457 is_151 is_167 rfl).trans ((my_fr.at frh449 is_151 rfl).trans ev445.symm)).trans (by omega)) Tok_h457 (fun h460 frh460 w461 w462 xp463 xp464 xp465 Tok_h460t466 => ?_) (fun h467 frh467 w468 w469 w470 xp471 xp472 xp473 Tok_h467t474 => ?_))
          ·
            have gh460 : my_fr [(10, 7), (10, 8), (10, 27), (66, -1), (67, -1), (68, -1), (69, -1), (70, -1), (71, -1), (72, -1), (73, -1), (74, -1), (75, -1), (77, -1), (78, -1), (79, -1)] h h460 := my_fr.tr gh457 (frh460.mo rfl)
            have Wrd_h460 : Wrd h460 := Wrd_ag (my_ag.fr frh460 rfl) Wrd_h457
            have Wd9_h460 : Wd9 h460 := Wd9_ag (my_ag.fr frh460 rfl) Wd9_h457
            have Mq_h460 : Mq h460 wv := Mq_ag (my_ag.fr frh460 rfl) Mq_h457t458
            show wp l rho (d + 4) 185 275 [(2, 151), (0, p88_0), (0, p88_1), (0, p88_2), (0, p88_3), (0, (36 + v10)), (9, 0), (9, 0)] [] h460 Q
            have ps475 : h457 151 7 = h419 151 7 := ((my_up_role fh457 is_151 is_167 rfl).trans ((my_fr.at frh449 is_151 rfl).trans (rfl : h419 151 7 = h419 151 7)))
            rw [ps475] at xp463
            have tE476 : sm h457 = sm h := sm_eq (fun j => my_fr.at gh457 is_153 rfl) (fun j => my_fr.at gh457 is_154 rfl) (fun j => my_fr.at gh457 is_155 rfl)
            rw [tE476] at xp464
            rw [ps475] at xp464
            rw [tE476] at xp465
            rw [ps475] at xp465
            have psR : h460 151 7 = h460 151 7 := (rfl : h460 151 7 = h460 151 7)
            have npsR : sm h460 = sm h := sm_eq (fun j => my_fr.at gh460 is_153 rfl) (fun j => my_fr.at gh460 is_154 rfl) (fun j => my_fr.at gh460 is_155 rfl)
            have ce477 : h460 151 8 = (h460 151 8) := (rfl : h460 151 8 = h460 151 8)
            have ce478 : h460 151 27 = h449 151 27 := ((my_fr.at frh460 is_151 rfl).trans ((my_up_role fh457 is_151 is_167 rfl).trans (rfl : h449 151 27 = h449 151 27)))
            have r167 : ∀ j : Int, h460 167 j = h457 167 j := fun j => ((my_fr.at frh460 is_167 rfl).trans (rfl : h457 167 j = h457 167 j))
            have r6 := r167 6
            have cw9 : h460 151 27 = h449 151 27 := by omega
            have c479 := (rfl : h460 151 8 = h460 151 8)
            exact w_vret gz_185_275 gm_185 (k0 h460 (gh460) (by omega) (by omega) (by first | omega | exact Or.inl ⟨by omega, fillM_R zF (by first | exact Or.inl ⟨by omega, by omega⟩ | exact Or.inr ⟨by omega, Or.inl ⟨by omega, by omega⟩⟩ | exact Or.inr ⟨by omega, Or.inr ⟨by omega, by omega, by omega⟩⟩), by omega, by omega⟩ | exact Or.inr (Or.inr (Or.inl ⟨by omega, by omega, cutM_R zC (by first | exact Or.inl ⟨by omega, by omega⟩ | exact Or.inr ⟨by omega, Or.inl ⟨by omega, by omega⟩⟩ | exact Or.inr ⟨by omega, Or.inr ⟨by omega, by omega, by omega⟩⟩), by first | omega | exact cw9, by omega⟩)) | exact Or.inr (Or.inr (Or.inr (Or.inl ⟨by omega, by omega, by first | (rw [cw9]; exact fmE_R zW (by first | exact Or.inl ⟨by omega, by omega⟩ | exact Or.inr ⟨by omega, Or.inl ⟨by omega, by omega⟩⟩ | exact Or.inr ⟨by omega, Or.inr ⟨by omega, by omega, by omega⟩⟩)) | exact fmE_R zW (by first | exact Or.inl ⟨by omega, by omega⟩ | exact Or.inr ⟨by omega, Or.inl ⟨by omega, by omega⟩⟩ | exact Or.inr ⟨by omega, Or.inr ⟨by omega, by omega, by omega⟩⟩), by omega⟩))) | exact Or.inr (Or.inr (Or.inr (Or.inr (Or.inl ⟨by omega, by omega, joinM_R zJ (by first | exact Or.inl ⟨by omega, by omega⟩ | exact Or.inr ⟨by omega, Or.inl ⟨by omega, by omega⟩⟩ | exact Or.inr ⟨by omega, Or.inr ⟨by omega, by omega, by omega⟩⟩), fun _ => by omega, by omega⟩)))) | exact Or.inr (Or.inr (Or.inr (Or.inr (Or.inr (Or.inl ⟨by omega, by omega, sumM_R zS (by first | exact Or.inl ⟨by omega, by omega⟩ | exact Or.inr ⟨by omega, Or.inl ⟨by omega, by omega⟩⟩ | exact Or.inr ⟨by omega, Or.inr ⟨by omega, by omega, by omega⟩⟩), by first | omega | exact cw9, by omega⟩))))) | exact ⟨_, _, _, Or.inl ⟨by omega, fillM_R zF (by first | exact Or.inl ⟨by omega, by omega⟩ | exact Or.inr ⟨by omega, Or.inl ⟨by omega, by omega⟩⟩ | exact Or.inr ⟨by omega, Or.inr ⟨by omega, by omega, by omega⟩⟩), rfl, rfl⟩⟩ | exact ⟨_, _, _, Or.inr (Or.inr (Or.inl ⟨by omega, by omega, cutM_R zC (by first | exact Or.inl ⟨by omega, by omega⟩ | exact Or.inr ⟨by omega, Or.inl ⟨by omega, by omega⟩⟩ | exact Or.inr ⟨by omega, Or.inr ⟨by omega, by omega, by omega⟩⟩), rfl, rfl⟩))⟩ | exact ⟨_, _, _, Or.inr (Or.inr (Or.inr (Or.inl ⟨by omega, by omega, fmE_R zW (by first | exact Or.inl ⟨by omega, by omega⟩ | exact Or.inr ⟨by omega, Or.inl ⟨by omega, by omega⟩⟩ | exact Or.inr ⟨by omega, Or.inr ⟨by omega, by omega, by omega⟩⟩), rfl⟩)))⟩ | exact ⟨_, _, _, Or.inr (Or.inr (Or.inr (Or.inr (Or.inl ⟨by omega, by omega, joinM_R zJ (by first | exact Or.inl ⟨by omega, by omega⟩ | exact Or.inr ⟨by omega, Or.inl ⟨by omega, by omega⟩⟩ | exact Or.inr ⟨by omega, Or.inr ⟨by omega, by omega, by omega⟩⟩), fun q => absurd q (by omega), rfl⟩))))⟩ | exact ⟨_, _, _, Or.inr (Or.inr (Or.inr (Or.inr (Or.inr (Or.inl ⟨by omega, by omega, sumM_R zS (by first | exact Or.inl ⟨by omega, by omega⟩ | exact Or.inr ⟨by omega, Or.inl ⟨by omega, by omega⟩⟩ | exact Or.inr ⟨by omega, Or.inr ⟨by omega, by omega, by omega⟩⟩), rfl, rfl⟩)))))⟩ | exact ⟨0, 0, 0, Or.inr (Or.inl ⟨by omega, by omega, by omega⟩)⟩ | exact ⟨0, 0, 0, Or.inr (Or.inr (Or.inr (Or.inr (Or.inr (Or.inr (⟨by omega, by omega, by omega, by omega, by omega, by omega⟩))))))⟩ | omega) (by first | omega | exact Or.inl ⟨by omega, fillM_R zF (by first | exact Or.inl ⟨by omega, by omega⟩ | exact Or.inr ⟨by omega, Or.inl ⟨by omega, by omega⟩⟩ | exact Or.inr ⟨by omega, Or.inr ⟨by omega, by omega, by omega⟩⟩), by omega, by omega⟩ | exact Or.inr (Or.inr (Or.inl ⟨by omega, by omega, cutM_R zC (by first | exact Or.inl ⟨by omega, by omega⟩ | exact Or.inr ⟨by omega, Or.inl ⟨by omega, by omega⟩⟩ | exact Or.inr ⟨by omega, Or.inr ⟨by omega, by omega, by omega⟩⟩), by first | omega | exact cw9, by omega⟩)) | exact Or.inr (Or.inr (Or.inr (Or.inl ⟨by omega, by omega, by first | (rw [cw9]; exact fmE_R zW (by first | exact Or.inl ⟨by omega, by omega⟩ | exact Or.inr ⟨by omega, Or.inl ⟨by omega, by omega⟩⟩ | exact Or.inr ⟨by omega, Or.inr ⟨by omega, by omega, by omega⟩⟩)) | exact fmE_R zW (by first | exact Or.inl ⟨by omega, by omega⟩ | exact Or.inr ⟨by omega, Or.inl ⟨by omega, by omega⟩⟩ | exact Or.inr ⟨by omega, Or.inr ⟨by omega, by omega, by omega⟩⟩), by omega⟩))) | exact Or.inr (Or.inr (Or.inr (Or.inr (Or.inl ⟨by omega, by omega, joinM_R zJ (by first | exact Or.inl ⟨by omega, by omega⟩ | exact Or.inr ⟨by omega, Or.inl ⟨by omega, by omega⟩⟩ | exact Or.inr ⟨by omega, Or.inr ⟨by omega, by omega, by omega⟩⟩), fun _ => by omega, by omega⟩)))) | exact Or.inr (Or.inr (Or.inr (Or.inr (Or.inr (Or.inl ⟨by omega, by omega, sumM_R zS (by first | exact Or.inl ⟨by omega, by omega⟩ | exact Or.inr ⟨by omega, Or.inl ⟨by omega, by omega⟩⟩ | exact Or.inr ⟨by omega, Or.inr ⟨by omega, by omega, by omega⟩⟩), by first | omega | exact cw9, by omega⟩))))) | exact ⟨_, _, _, Or.inl ⟨by omega, fillM_R zF (by first | exact Or.inl ⟨by omega, by omega⟩ | exact Or.inr ⟨by omega, Or.inl ⟨by omega, by omega⟩⟩ | exact Or.inr ⟨by omega, Or.inr ⟨by omega, by omega, by omega⟩⟩), rfl, rfl⟩⟩ | exact ⟨_, _, _, Or.inr (Or.inr (Or.inl ⟨by omega, by omega, cutM_R zC (by first | exact Or.inl ⟨by omega, by omega⟩ | exact Or.inr ⟨by omega, Or.inl ⟨by omega, by omega⟩⟩ | exact Or.inr ⟨by omega, Or.inr ⟨by omega, by omega, by omega⟩⟩), rfl, rfl⟩))⟩ | exact ⟨_, _, _, Or.inr (Or.inr (Or.inr (Or.inl ⟨by omega, by omega, fmE_R zW (by first | exact Or.inl ⟨by omega, by omega⟩ | exact Or.inr ⟨by omega, Or.inl ⟨by omega, by omega⟩⟩ | exact Or.inr ⟨by omega, Or.inr ⟨by omega, by omega, by omega⟩⟩), rfl⟩)))⟩ | exact ⟨_, _, _, Or.inr (Or.inr (Or.inr (Or.inr (Or.inl ⟨by omega, by omega, joinM_R zJ (by first | exact Or.inl ⟨by omega, by omega⟩ | exact Or.inr ⟨by omega, Or.inl ⟨by omega, by omega⟩⟩ | exact Or.inr ⟨by omega, Or.inr ⟨by omega, by omega, by omega⟩⟩), fun q => absurd q (by omega), rfl⟩))))⟩ | exact ⟨_, _, _, Or.inr (Or.inr (Or.inr (Or.inr (Or.inr (Or.inl ⟨by omega, by omega, sumM_R zS (by first | exact Or.inl ⟨by omega, by omega⟩ | exact Or.inr ⟨by omega, Or.inl ⟨by omega, by omega⟩⟩ | exact Or.inr ⟨by omega, Or.inr ⟨by omega, by omega, by omega⟩⟩), rfl, rfl⟩)))))⟩ | exact ⟨0, 0, 0, Or.inr (Or.inl ⟨by omega, by omega, by omega⟩)⟩ | exact ⟨0, 0, 0, Or.inr (Or.inr (Or.inr (Or.inr (Or.inr (Or.inr (⟨by omega, by omega, by omega, by omega, by omega, by omega⟩))))))⟩ | omega) Tok_h460t466 Mq_h460 Wrd_h460 Wd9_h460)
          ·
            have gh467 : my_fr [(10, 7), (10, 8), (10, 27), (66, -1), (67, -1), (68, -1), (69, -1), (70, -1), (71, -1), (72, -1), (73, -1), (74, -1), (75, -1), (77, -1), (78, -1), (79, -1)] h h467 := my_fr.tr gh457 (frh467.mo rfl)
            have Wrd_h467 : Wrd h467 := Wrd_ag (my_ag.fr frh467 rfl) Wrd_h457
            have Wd9_h467 : Wd9 h467 := Wd9_ag (my_ag.fr frh467 rfl) Wd9_h457
            have Mq_h467 : Mq h467 wv := Mq_ag (my_ag.fr frh467 rfl) Mq_h457t458
            show wp l rho (d + 4) 185 275 [(2, 151), (0, p88_0), (0, p88_1), (0, p88_2), (0, p88_3), (0, (36 + v10)), (9, 0), (9, 0)] [] h467 Q
            have ps480 : h457 151 7 = h419 151 7 := ((my_up_role fh457 is_151 is_167 rfl).trans ((my_fr.at frh449 is_151 rfl).trans (rfl : h419 151 7 = h419 151 7)))
            rw [ps480] at xp471
            have tE481 : sm h457 = sm h := sm_eq (fun j => my_fr.at gh457 is_153 rfl) (fun j => my_fr.at gh457 is_154 rfl) (fun j => my_fr.at gh457 is_155 rfl)
            rw [tE481] at xp472
            rw [ps480] at xp472
            rw [tE481] at xp473
            rw [ps480] at xp473
            have psR : h467 151 7 = (sN (sm h) ((h419 151 7))) := xp472
            have npsR : sm h467 = sm h := sm_eq (fun j => my_fr.at gh467 is_153 rfl) (fun j => my_fr.at gh467 is_154 rfl) (fun j => my_fr.at gh467 is_155 rfl)
            have ce482 : h467 151 7 = (h467 151 7) := (rfl : h467 151 7 = h467 151 7)
            have ce483 : h467 151 8 = 0 := w470
            have ce484 : h467 151 27 = h449 151 27 := ((my_fr.at frh467 is_151 rfl).trans ((my_up_role fh457 is_151 is_167 rfl).trans (rfl : h449 151 27 = h449 151 27)))
            have r167 : ∀ j : Int, h467 167 j = h457 167 j := fun j => ((my_fr.at frh467 is_167 rfl).trans (rfl : h457 167 j = h457 167 j))
            have r6 := r167 6
            have cw9 : h467 151 27 = h449 151 27 := by omega
            have c485 := (rfl : h467 151 7 = h467 151 7)
            have c486 := w470
            exact w_vret gz_185_275 gm_185 (k1 h467 (gh467) (by omega) (by omega) (by omega) (by first | omega | exact Or.inl ⟨by omega, fillM_R zF (by first | exact Or.inl ⟨by omega, by omega⟩ | exact Or.inr ⟨by omega, Or.inl ⟨by omega, by omega⟩⟩ | exact Or.inr ⟨by omega, Or.inr ⟨by omega, by omega, by omega⟩⟩), by omega, by omega⟩ | exact Or.inr (Or.inr (Or.inl ⟨by omega, by omega, cutM_R zC (by first | exact Or.inl ⟨by omega, by omega⟩ | exact Or.inr ⟨by omega, Or.inl ⟨by omega, by omega⟩⟩ | exact Or.inr ⟨by omega, Or.inr ⟨by omega, by omega, by omega⟩⟩), by first | omega | exact cw9, by omega⟩)) | exact Or.inr (Or.inr (Or.inr (Or.inl ⟨by omega, by omega, by first | (rw [cw9]; exact fmE_R zW (by first | exact Or.inl ⟨by omega, by omega⟩ | exact Or.inr ⟨by omega, Or.inl ⟨by omega, by omega⟩⟩ | exact Or.inr ⟨by omega, Or.inr ⟨by omega, by omega, by omega⟩⟩)) | exact fmE_R zW (by first | exact Or.inl ⟨by omega, by omega⟩ | exact Or.inr ⟨by omega, Or.inl ⟨by omega, by omega⟩⟩ | exact Or.inr ⟨by omega, Or.inr ⟨by omega, by omega, by omega⟩⟩), by omega⟩))) | exact Or.inr (Or.inr (Or.inr (Or.inr (Or.inl ⟨by omega, by omega, joinM_R zJ (by first | exact Or.inl ⟨by omega, by omega⟩ | exact Or.inr ⟨by omega, Or.inl ⟨by omega, by omega⟩⟩ | exact Or.inr ⟨by omega, Or.inr ⟨by omega, by omega, by omega⟩⟩), fun _ => by omega, by omega⟩)))) | exact Or.inr (Or.inr (Or.inr (Or.inr (Or.inr (Or.inl ⟨by omega, by omega, sumM_R zS (by first | exact Or.inl ⟨by omega, by omega⟩ | exact Or.inr ⟨by omega, Or.inl ⟨by omega, by omega⟩⟩ | exact Or.inr ⟨by omega, Or.inr ⟨by omega, by omega, by omega⟩⟩), by first | omega | exact cw9, by omega⟩))))) | exact ⟨_, _, _, Or.inl ⟨by omega, fillM_R zF (by first | exact Or.inl ⟨by omega, by omega⟩ | exact Or.inr ⟨by omega, Or.inl ⟨by omega, by omega⟩⟩ | exact Or.inr ⟨by omega, Or.inr ⟨by omega, by omega, by omega⟩⟩), rfl, rfl⟩⟩ | exact ⟨_, _, _, Or.inr (Or.inr (Or.inl ⟨by omega, by omega, cutM_R zC (by first | exact Or.inl ⟨by omega, by omega⟩ | exact Or.inr ⟨by omega, Or.inl ⟨by omega, by omega⟩⟩ | exact Or.inr ⟨by omega, Or.inr ⟨by omega, by omega, by omega⟩⟩), rfl, rfl⟩))⟩ | exact ⟨_, _, _, Or.inr (Or.inr (Or.inr (Or.inl ⟨by omega, by omega, fmE_R zW (by first | exact Or.inl ⟨by omega, by omega⟩ | exact Or.inr ⟨by omega, Or.inl ⟨by omega, by omega⟩⟩ | exact Or.inr ⟨by omega, Or.inr ⟨by omega, by omega, by omega⟩⟩), rfl⟩)))⟩ | exact ⟨_, _, _, Or.inr (Or.inr (Or.inr (Or.inr (Or.inl ⟨by omega, by omega, joinM_R zJ (by first | exact Or.inl ⟨by omega, by omega⟩ | exact Or.inr ⟨by omega, Or.inl ⟨by omega, by omega⟩⟩ | exact Or.inr ⟨by omega, Or.inr ⟨by omega, by omega, by omega⟩⟩), fun q => absurd q (by omega), rfl⟩))))⟩ | exact ⟨_, _, _, Or.inr (Or.inr (Or.inr (Or.inr (Or.inr (Or.inl ⟨by omega, by omega, sumM_R zS (by first | exact Or.inl ⟨by omega, by omega⟩ | exact Or.inr ⟨by omega, Or.inl ⟨by omega, by omega⟩⟩ | exact Or.inr ⟨by omega, Or.inr ⟨by omega, by omega, by omega⟩⟩), rfl, rfl⟩)))))⟩ | exact ⟨0, 0, 0, Or.inr (Or.inl ⟨by omega, by omega, by omega⟩)⟩ | exact ⟨0, 0, 0, Or.inr (Or.inr (Or.inr (Or.inr (Or.inr (Or.inr (⟨by omega, by omega, by omega, by omega, by omega, by omega⟩))))))⟩ | omega) (by first | omega | exact Or.inl ⟨by omega, fillM_R zF (by first | exact Or.inl ⟨by omega, by omega⟩ | exact Or.inr ⟨by omega, Or.inl ⟨by omega, by omega⟩⟩ | exact Or.inr ⟨by omega, Or.inr ⟨by omega, by omega, by omega⟩⟩), by omega, by omega⟩ | exact Or.inr (Or.inr (Or.inl ⟨by omega, by omega, cutM_R zC (by first | exact Or.inl ⟨by omega, by omega⟩ | exact Or.inr ⟨by omega, Or.inl ⟨by omega, by omega⟩⟩ | exact Or.inr ⟨by omega, Or.inr ⟨by omega, by omega, by omega⟩⟩), by first | omega | exact cw9, by omega⟩)) | exact Or.inr (Or.inr (Or.inr (Or.inl ⟨by omega, by omega, by first | (rw [cw9]; exact fmE_R zW (by first | exact Or.inl ⟨by omega, by omega⟩ | exact Or.inr ⟨by omega, Or.inl ⟨by omega, by omega⟩⟩ | exact Or.inr ⟨by omega, Or.inr ⟨by omega, by omega, by omega⟩⟩)) | exact fmE_R zW (by first | exact Or.inl ⟨by omega, by omega⟩ | exact Or.inr ⟨by omega, Or.inl ⟨by omega, by omega⟩⟩ | exact Or.inr ⟨by omega, Or.inr ⟨by omega, by omega, by omega⟩⟩), by omega⟩))) | exact Or.inr (Or.inr (Or.inr (Or.inr (Or.inl ⟨by omega, by omega, joinM_R zJ (by first | exact Or.inl ⟨by omega, by omega⟩ | exact Or.inr ⟨by omega, Or.inl ⟨by omega, by omega⟩⟩ | exact Or.inr ⟨by omega, Or.inr ⟨by omega, by omega, by omega⟩⟩), fun _ => by omega, by omega⟩)))) | exact Or.inr (Or.inr (Or.inr (Or.inr (Or.inr (Or.inl ⟨by omega, by omega, sumM_R zS (by first | exact Or.inl ⟨by omega, by omega⟩ | exact Or.inr ⟨by omega, Or.inl ⟨by omega, by omega⟩⟩ | exact Or.inr ⟨by omega, Or.inr ⟨by omega, by omega, by omega⟩⟩), by first | omega | exact cw9, by omega⟩))))) | exact ⟨_, _, _, Or.inl ⟨by omega, fillM_R zF (by first | exact Or.inl ⟨by omega, by omega⟩ | exact Or.inr ⟨by omega, Or.inl ⟨by omega, by omega⟩⟩ | exact Or.inr ⟨by omega, Or.inr ⟨by omega, by omega, by omega⟩⟩), rfl, rfl⟩⟩ | exact ⟨_, _, _, Or.inr (Or.inr (Or.inl ⟨by omega, by omega, cutM_R zC (by first | exact Or.inl ⟨by omega, by omega⟩ | exact Or.inr ⟨by omega, Or.inl ⟨by omega, by omega⟩⟩ | exact Or.inr ⟨by omega, Or.inr ⟨by omega, by omega, by omega⟩⟩), rfl, rfl⟩))⟩ | exact ⟨_, _, _, Or.inr (Or.inr (Or.inr (Or.inl ⟨by omega, by omega, fmE_R zW (by first | exact Or.inl ⟨by omega, by omega⟩ | exact Or.inr ⟨by omega, Or.inl ⟨by omega, by omega⟩⟩ | exact Or.inr ⟨by omega, Or.inr ⟨by omega, by omega, by omega⟩⟩), rfl⟩)))⟩ | exact ⟨_, _, _, Or.inr (Or.inr (Or.inr (Or.inr (Or.inl ⟨by omega, by omega, joinM_R zJ (by first | exact Or.inl ⟨by omega, by omega⟩ | exact Or.inr ⟨by omega, Or.inl ⟨by omega, by omega⟩⟩ | exact Or.inr ⟨by omega, Or.inr ⟨by omega, by omega, by omega⟩⟩), fun q => absurd q (by omega), rfl⟩))))⟩ | exact ⟨_, _, _, Or.inr (Or.inr (Or.inr (Or.inr (Or.inr (Or.inl ⟨by omega, by omega, sumM_R zS (by first | exact Or.inl ⟨by omega, by omega⟩ | exact Or.inr ⟨by omega, Or.inl ⟨by omega, by omega⟩⟩ | exact Or.inr ⟨by omega, Or.inr ⟨by omega, by omega, by omega⟩⟩), rfl, rfl⟩)))))⟩ | exact ⟨0, 0, 0, Or.inr (Or.inl ⟨by omega, by omega, by omega⟩)⟩ | exact ⟨0, 0, 0, Or.inr (Or.inr (Or.inr (Or.inr (Or.inr (Or.inr (⟨by omega, by omega, by omega, by omega, by omega, by omega⟩))))))⟩ | omega) Tok_h467t474 Mq_h467 Wrd_h467 Wd9_h467)
    ·
      have psR : h88_0 151 7 = h 151 7 := am_88_0
      have npsR : sm h88_0 = sm h := sm_eq (fun j => my_fr.at gh_88_0 is_153 rfl) (fun j => my_fr.at gh_88_0 is_154 rfl) (fun j => my_fr.at gh_88_0 is_155 rfl)
      have ce487 : h88_0 151 7 = k151_7 := c151_7_88_0
      have ce488 : h88_0 151 8 = v1 := ev1.symm
      have ce489 : h88_0 151 27 = k151_27 := c151_27_88_0
      have r167 : ∀ j : Int, h88_0 167 j = h88_0 167 j := fun _ => rfl
      have r6 := r167 6
      have c490 := ev1.symm
      exact w_vret gz_185_95 gm_185 (k0 h88_0 (gh_88_0) (by omega) (by omega) (by first | omega | exact Or.inl ⟨by omega, fillM_R zF (by first | exact Or.inl ⟨by omega, by omega⟩ | exact Or.inr ⟨by omega, Or.inl ⟨by omega, by omega⟩⟩ | exact Or.inr ⟨by omega, Or.inr ⟨by omega, by omega, by omega⟩⟩), by omega, by omega⟩ | exact Or.inr (Or.inr (Or.inl ⟨by omega, by omega, cutM_R zC (by first | exact Or.inl ⟨by omega, by omega⟩ | exact Or.inr ⟨by omega, Or.inl ⟨by omega, by omega⟩⟩ | exact Or.inr ⟨by omega, Or.inr ⟨by omega, by omega, by omega⟩⟩), by first | omega | exact cw9, by omega⟩)) | exact Or.inr (Or.inr (Or.inr (Or.inl ⟨by omega, by omega, by first | (rw [cw9]; exact fmE_R zW (by first | exact Or.inl ⟨by omega, by omega⟩ | exact Or.inr ⟨by omega, Or.inl ⟨by omega, by omega⟩⟩ | exact Or.inr ⟨by omega, Or.inr ⟨by omega, by omega, by omega⟩⟩)) | exact fmE_R zW (by first | exact Or.inl ⟨by omega, by omega⟩ | exact Or.inr ⟨by omega, Or.inl ⟨by omega, by omega⟩⟩ | exact Or.inr ⟨by omega, Or.inr ⟨by omega, by omega, by omega⟩⟩), by omega⟩))) | exact Or.inr (Or.inr (Or.inr (Or.inr (Or.inl ⟨by omega, by omega, joinM_R zJ (by first | exact Or.inl ⟨by omega, by omega⟩ | exact Or.inr ⟨by omega, Or.inl ⟨by omega, by omega⟩⟩ | exact Or.inr ⟨by omega, Or.inr ⟨by omega, by omega, by omega⟩⟩), fun _ => by omega, by omega⟩)))) | exact Or.inr (Or.inr (Or.inr (Or.inr (Or.inr (Or.inl ⟨by omega, by omega, sumM_R zS (by first | exact Or.inl ⟨by omega, by omega⟩ | exact Or.inr ⟨by omega, Or.inl ⟨by omega, by omega⟩⟩ | exact Or.inr ⟨by omega, Or.inr ⟨by omega, by omega, by omega⟩⟩), by first | omega | exact cw9, by omega⟩))))) | exact ⟨_, _, _, Or.inl ⟨by omega, fillM_R zF (by first | exact Or.inl ⟨by omega, by omega⟩ | exact Or.inr ⟨by omega, Or.inl ⟨by omega, by omega⟩⟩ | exact Or.inr ⟨by omega, Or.inr ⟨by omega, by omega, by omega⟩⟩), rfl, rfl⟩⟩ | exact ⟨_, _, _, Or.inr (Or.inr (Or.inl ⟨by omega, by omega, cutM_R zC (by first | exact Or.inl ⟨by omega, by omega⟩ | exact Or.inr ⟨by omega, Or.inl ⟨by omega, by omega⟩⟩ | exact Or.inr ⟨by omega, Or.inr ⟨by omega, by omega, by omega⟩⟩), rfl, rfl⟩))⟩ | exact ⟨_, _, _, Or.inr (Or.inr (Or.inr (Or.inl ⟨by omega, by omega, fmE_R zW (by first | exact Or.inl ⟨by omega, by omega⟩ | exact Or.inr ⟨by omega, Or.inl ⟨by omega, by omega⟩⟩ | exact Or.inr ⟨by omega, Or.inr ⟨by omega, by omega, by omega⟩⟩), rfl⟩)))⟩ | exact ⟨_, _, _, Or.inr (Or.inr (Or.inr (Or.inr (Or.inl ⟨by omega, by omega, joinM_R zJ (by first | exact Or.inl ⟨by omega, by omega⟩ | exact Or.inr ⟨by omega, Or.inl ⟨by omega, by omega⟩⟩ | exact Or.inr ⟨by omega, Or.inr ⟨by omega, by omega, by omega⟩⟩), fun q => absurd q (by omega), rfl⟩))))⟩ | exact ⟨_, _, _, Or.inr (Or.inr (Or.inr (Or.inr (Or.inr (Or.inl ⟨by omega, by omega, sumM_R zS (by first | exact Or.inl ⟨by omega, by omega⟩ | exact Or.inr ⟨by omega, Or.inl ⟨by omega, by omega⟩⟩ | exact Or.inr ⟨by omega, Or.inr ⟨by omega, by omega, by omega⟩⟩), rfl, rfl⟩)))))⟩ | exact ⟨0, 0, 0, Or.inr (Or.inl ⟨by omega, by omega, by omega⟩)⟩ | exact ⟨0, 0, 0, Or.inr (Or.inr (Or.inr (Or.inr (Or.inr (Or.inr (⟨by omega, by omega, by omega, by omega, by omega, by omega⟩))))))⟩ | omega) (by first | omega | exact Or.inl ⟨by omega, fillM_R zF (by first | exact Or.inl ⟨by omega, by omega⟩ | exact Or.inr ⟨by omega, Or.inl ⟨by omega, by omega⟩⟩ | exact Or.inr ⟨by omega, Or.inr ⟨by omega, by omega, by omega⟩⟩), by omega, by omega⟩ | exact Or.inr (Or.inr (Or.inl ⟨by omega, by omega, cutM_R zC (by first | exact Or.inl ⟨by omega, by omega⟩ | exact Or.inr ⟨by omega, Or.inl ⟨by omega, by omega⟩⟩ | exact Or.inr ⟨by omega, Or.inr ⟨by omega, by omega, by omega⟩⟩), by first | omega | exact cw9, by omega⟩)) | exact Or.inr (Or.inr (Or.inr (Or.inl ⟨by omega, by omega, by first | (rw [cw9]; exact fmE_R zW (by first | exact Or.inl ⟨by omega, by omega⟩ | exact Or.inr ⟨by omega, Or.inl ⟨by omega, by omega⟩⟩ | exact Or.inr ⟨by omega, Or.inr ⟨by omega, by omega, by omega⟩⟩)) | exact fmE_R zW (by first | exact Or.inl ⟨by omega, by omega⟩ | exact Or.inr ⟨by omega, Or.inl ⟨by omega, by omega⟩⟩ | exact Or.inr ⟨by omega, Or.inr ⟨by omega, by omega, by omega⟩⟩), by omega⟩))) | exact Or.inr (Or.inr (Or.inr (Or.inr (Or.inl ⟨by omega, by omega, joinM_R zJ (by first | exact Or.inl ⟨by omega, by omega⟩ | exact Or.inr ⟨by omega, Or.inl ⟨by omega, by omega⟩⟩ | exact Or.inr ⟨by omega, Or.inr ⟨by omega, by omega, by omega⟩⟩), fun _ => by omega, by omega⟩)))) | exact Or.inr (Or.inr (Or.inr (Or.inr (Or.inr (Or.inl ⟨by omega, by omega, sumM_R zS (by first | exact Or.inl ⟨by omega, by omega⟩ | exact Or.inr ⟨by omega, Or.inl ⟨by omega, by omega⟩⟩ | exact Or.inr ⟨by omega, Or.inr ⟨by omega, by omega, by omega⟩⟩), by first | omega | exact cw9, by omega⟩))))) | exact ⟨_, _, _, Or.inl ⟨by omega, fillM_R zF (by first | exact Or.inl ⟨by omega, by omega⟩ | exact Or.inr ⟨by omega, Or.inl ⟨by omega, by omega⟩⟩ | exact Or.inr ⟨by omega, Or.inr ⟨by omega, by omega, by omega⟩⟩), rfl, rfl⟩⟩ | exact ⟨_, _, _, Or.inr (Or.inr (Or.inl ⟨by omega, by omega, cutM_R zC (by first | exact Or.inl ⟨by omega, by omega⟩ | exact Or.inr ⟨by omega, Or.inl ⟨by omega, by omega⟩⟩ | exact Or.inr ⟨by omega, Or.inr ⟨by omega, by omega, by omega⟩⟩), rfl, rfl⟩))⟩ | exact ⟨_, _, _, Or.inr (Or.inr (Or.inr (Or.inl ⟨by omega, by omega, fmE_R zW (by first | exact Or.inl ⟨by omega, by omega⟩ | exact Or.inr ⟨by omega, Or.inl ⟨by omega, by omega⟩⟩ | exact Or.inr ⟨by omega, Or.inr ⟨by omega, by omega, by omega⟩⟩), rfl⟩)))⟩ | exact ⟨_, _, _, Or.inr (Or.inr (Or.inr (Or.inr (Or.inl ⟨by omega, by omega, joinM_R zJ (by first | exact Or.inl ⟨by omega, by omega⟩ | exact Or.inr ⟨by omega, Or.inl ⟨by omega, by omega⟩⟩ | exact Or.inr ⟨by omega, Or.inr ⟨by omega, by omega, by omega⟩⟩), fun q => absurd q (by omega), rfl⟩))))⟩ | exact ⟨_, _, _, Or.inr (Or.inr (Or.inr (Or.inr (Or.inr (Or.inl ⟨by omega, by omega, sumM_R zS (by first | exact Or.inl ⟨by omega, by omega⟩ | exact Or.inr ⟨by omega, Or.inl ⟨by omega, by omega⟩⟩ | exact Or.inr ⟨by omega, Or.inr ⟨by omega, by omega, by omega⟩⟩), rfl, rfl⟩)))))⟩ | exact ⟨0, 0, 0, Or.inr (Or.inl ⟨by omega, by omega, by omega⟩)⟩ | exact ⟨0, 0, 0, Or.inr (Or.inr (Or.inr (Or.inr (Or.inr (Or.inr (⟨by omega, by omega, by omega, by omega, by omega, by omega⟩))))))⟩ | omega) n_Tok_88_0 n_Mq_88_0 n_Wrd_88_0 n_Wd9_88_0)
  refine w_aload_n gz_185_0 rfl ?_
  refine w_iconst gz_185_1 (by decide) ?_
  refine w_inv (k := 0) (as := [(0, 3)]) (r := []) (x := 151) (ls0 := [(2, 151), (0, 3)]) gz_185_2 gm_177 rfl is_151 rd_10 rfl rfl rfl rfl rfl (c_Model_isWord9_f0 (d := (d + 3)) (x1 := 3) (by omega) (by omega) (cf.trans (by omega)) n_Wd9 (fun w491 xp492 => ?_) (fun w493 xp494 xp495 xp496 xp497 => ?_))
  ·
    show wp l rho (d + 4) 185 5 [(2, 151), (9, 0), (9, 0), (9, 0), (9, 0), (9, 0), (9, 0), (9, 0)] [(0, 0)] h Q
    rw [show wm 3 = 4904 from by decide] at xp492
    refine w_istore_n (ls' := [(2, 151), (0, 0), (9, 0), (9, 0), (9, 0), (9, 0), (9, 0), (9, 0)]) gz_185_5 gm_185 rfl rfl rfl ?_
    refine w_aload_n gz_185_6 rfl ?_
    refine w_bipush gz_185_7 (by decide) ?_
    refine w_inv (k := 0) (as := [(0, 7)]) (r := []) (x := 151) (ls0 := [(2, 151), (0, 7)]) gz_185_9 gm_177 rfl is_151 rd_10 rfl rfl rfl rfl rfl (c_Model_isWord9_f0 (d := (d + 3)) (x1 := 7) (by omega) (by omega) (cf.trans (by omega)) n_Wd9 (fun w498 xp499 => ?_) (fun w500 xp501 xp502 xp503 xp504 => ?_))
    ·
      show wp l rho (d + 4) 185 12 [(2, 151), (0, 0), (9, 0), (9, 0), (9, 0), (9, 0), (9, 0), (9, 0)] [(0, 0)] h Q
      rw [show wm 7 = 8422 from by decide] at xp499
      refine w_istore_n (ls' := [(2, 151), (0, 0), (0, 0), (9, 0), (9, 0), (9, 0), (9, 0), (9, 0)]) gz_185_12 gm_185 rfl rfl rfl ?_
      refine w_aload_n gz_185_13 rfl ?_
      refine w_bipush gz_185_14 (by decide) ?_
      refine w_inv (k := 0) (as := [(0, 8)]) (r := []) (x := 151) (ls0 := [(2, 151), (0, 8)]) gz_185_16 gm_177 rfl is_151 rd_10 rfl rfl rfl rfl rfl (c_Model_isWord9_f0 (d := (d + 3)) (x1 := 8) (by omega) (by omega) (cf.trans (by omega)) n_Wd9 (fun w505 xp506 => ?_) (fun w507 xp508 xp509 xp510 xp511 => ?_))
      ·
        show wp l rho (d + 4) 185 19 [(2, 151), (0, 0), (0, 0), (9, 0), (9, 0), (9, 0), (9, 0), (9, 0)] [(0, 0)] h Q
        rw [show wm 8 = 527412 from by decide] at xp506
        refine w_istore_n (ls' := [(2, 151), (0, 0), (0, 0), (0, 0), (9, 0), (9, 0), (9, 0), (9, 0)]) gz_185_19 gm_185 rfl rfl rfl ?_
        refine w_aload_n gz_185_20 rfl ?_
        refine w_bipush gz_185_21 (by decide) ?_
        refine w_inv (k := 0) (as := [(0, 11)]) (r := []) (x := 151) (ls0 := [(2, 151), (0, 11)]) gz_185_23 gm_177 rfl is_151 rd_10 rfl rfl rfl rfl rfl (c_Model_isWord9_f0 (d := (d + 3)) (x1 := 11) (by omega) (by omega) (cf.trans (by omega)) n_Wd9 (fun w512 xp513 => ?_) (fun w514 xp515 xp516 xp517 xp518 => ?_))
        ·
          show wp l rho (d + 4) 185 26 [(2, 151), (0, 0), (0, 0), (0, 0), (9, 0), (9, 0), (9, 0), (9, 0)] [(0, 0)] h Q
          rw [show wm 11 = 26801 from by decide] at xp513
          refine w_istore (ls' := [(2, 151), (0, 0), (0, 0), (0, 0), (0, 0), (9, 0), (9, 0), (9, 0)]) gz_185_26 gm_185 rfl rfl rfl ?_
          refine w_iload_n gz_185_28 rfl ?_
          refine w_ifne (t := 62) gz_185_29 rfl (fun u519 => by exfalso; omega) (fun u519 => ?_)
          refine w_iload_n gz_185_32 rfl ?_
          refine w_ifne (t := 62) gz_185_33 rfl (fun u520 => by exfalso; omega) (fun u520 => ?_)
          refine w_iload_n gz_185_36 rfl ?_
          refine w_ifne (t := 62) gz_185_37 rfl (fun u521 => by exfalso; omega) (fun u521 => ?_)
          refine w_iload gz_185_40 rfl ?_
          refine w_ifne (t := 62) gz_185_42 rfl (fun u522 => by exfalso; omega) (fun u522 => ?_)
          refine w_aload_n gz_185_45 rfl ?_
          refine w_bipush gz_185_46 (by decide) ?_
          refine w_inv (k := 0) (as := [(0, 10)]) (r := []) (x := 151) (ls0 := [(2, 151), (0, 10)]) gz_185_48 gm_177 rfl is_151 rd_10 rfl rfl rfl rfl rfl (c_Model_isWord9_f0 (d := (d + 3)) (x1 := 10) (by omega) (by omega) (cf.trans (by omega)) n_Wd9 (fun w523 xp524 => ?_) (fun w525 xp526 xp527 xp528 xp529 => ?_))
          ·
            show wp l rho (d + 4) 185 51 [(2, 151), (0, 0), (0, 0), (0, 0), (0, 0), (9, 0), (9, 0), (9, 0)] [(0, 0)] h Q
            rw [show wm 10 = 316695 from by decide] at xp524
            refine w_ifne (t := 62) gz_185_51 rfl (fun u530 => by exfalso; omega) (fun u530 => ?_)
            refine w_aload_n gz_185_54 rfl ?_
            refine w_iconst gz_185_55 (by decide) ?_
            refine w_inv (k := 0) (as := [(0, 1)]) (r := []) (x := 151) (ls0 := [(2, 151), (0, 1)]) gz_185_56 gm_178 rfl is_151 rd_10 rfl rfl rfl rfl rfl ?_
            refine w_aload_n gz_178_0 rfl ?_
            refine v_getI (j := 8) gz_178_1 rfl is_151 rd_10 rfl (fun v531 ev531 pv531 qv531 => ?_)
            have zv531 := ev531.trans cf
            refine w_ifne (t := 25) gz_178_4 rfl (fun u532 => by exfalso; omega) (fun u532 => ?_)
            refine w_aload_n gz_178_7 rfl ?_
            refine w_iload_n gz_178_8 rfl ?_
            refine w_bipush gz_178_9 (by decide) ?_
            refine w_aload_n gz_178_11 rfl ?_
            refine w_getX (v := 154) gz_178_12 is_151 rd_10 rfl (by decide) rfl ?_
            refine w_aload_n gz_178_15 rfl ?_
            refine v_getI (j := 7) gz_178_16 rfl is_151 rd_10 rfl (fun v534 ev534 pv534 qv534 => ?_)
            have zv534 := ev534.trans ek151_7.symm
            refine w_iald gz_178_19 is_154 rd_53 (by omega) (by omega) (fun v535 ev535 pv535 qv535 => ?_)
            have nz536 : v535 = sP (sm h) (h 151 7) := by
              have q := ev535.trans (my_fr.at (j := v534) my_fr.rf is_154 rfl)
              rw [show (v534 : Int) = h 151 7 from by omega] at q
              exact q
            refine w_imul gz_178_20 ⟨by omega, by omega⟩ ?_
            refine w_iadd gz_178_21 ⟨by omega, by omega⟩ ?_
            refine v_putI (j := 8) gz_178_22 rfl is_151 rd_10 rfl (by omega) (by omega) rfl (fun h537 fh537 => ?_)
            have gh537 : my_fr [(10, 7), (10, 8), (10, 27), (66, -1), (67, -1), (68, -1), (69, -1), (70, -1), (71, -1), (72, -1), (73, -1), (74, -1), (75, -1), (77, -1), (78, -1), (79, -1)] h h537 := my_fr.up my_fr.rf is_151 fh537 rfl
            have Tok_h537 : Tok h537 := Tok_ag (my_ag.up fh537 is_151 rfl) n_Tok
            have Mq_h537 : Mq h537 wv := Mq_ag (my_ag.up fh537 is_151 rfl) n_Mq
            have Wrd_h537 : Wrd h537 := Wrd_ag (my_ag.up fh537 is_151 rfl) n_Wrd
            have Wd9_h537 : Wd9 h537 := Wd9_ag (my_ag.up fh537 is_151 rfl) n_Wd9
            refine w_vret gz_178_25 gm_178 ?_
            show wp l rho (d + 4) 185 59 [(2, 151), (0, 0), (0, 0), (0, 0), (0, 0), (9, 0), (9, 0), (9, 0)] [] h537 Q
            refine w_goto (t := 88) gz_185_59 rfl ?_
            have psJ : h537 151 7 = h 151 7 := ((my_up_fld fh537 (by decide)).trans (rfl : h 151 7 = h 151 7))
            have npsJ : sm h537 = sm h := sm_eq (fun j => my_fr.at gh537 is_153 rfl) (fun j => my_fr.at gh537 is_154 rfl) (fun j => my_fr.at gh537 is_155 rfl)
            have ce538 : h537 151 7 = v534 := ((my_up_fld fh537 (by decide)).trans ev534.symm)
            have ce539 : h537 151 8 = (1 + (16 * v535)) := (my_up_self fh537)
            have ce540 : h537 151 27 = k151_27 := ((my_up_fld fh537 (by decide)).trans ek151_27.symm)
            have j167 : ∀ j : Int, h537 167 j = h 167 j := fun j => ((my_up_role fh537 is_167 is_151 rfl).trans (rfl : h 167 j = h 167 j))
            have j6 := j167 6
            exact J88_0 (0) (0) (0) (0) ((1 + (16 * v535))) h537 (gh537) (by omega) (by omega) (by omega) (by omega) (by omega) (by omega) (by omega) (by omega) (by omega) (by omega) (((my_up_fld fh537 (by decide)).trans ek151_27.symm).trans (by omega)) (((my_up_fld fh537 (by decide)).trans ek151_33.symm).trans (by omega)) (((my_up_fld fh537 (by decide)).trans ev534.symm).trans (by omega)) ((my_up_self fh537).trans (by omega)) Tok_h537 Mq_h537 Wrd_h537 Wd9_h537 (by first | (intro q; exfalso; omega) | (intro _; assumption) | omega) (by first | (intro q; exfalso; omega) | (intro _ q; omega) | (intro _ q; exfalso; have w := Wrd_h537; unfold Wrd at w; omega) | omega) (by omega) (by omega) (by omega) (by first | (intro q; exfalso; omega) | (intro q; omega) | omega) (by first | (intro q; exfalso; omega) | (intro q; omega) | omega)
          ·
            show wp l rho (d + 4) 185 51 [(2, 151), (0, 0), (0, 0), (0, 0), (0, 0), (9, 0), (9, 0), (9, 0)] [(0, 1)] h Q
            rw [show wm 10 = 316695 from by decide] at xp529
            refine w_ifne (t := 62) gz_185_51 rfl (fun u541 => ?_) (fun u541 => by exfalso; omega)
            refine w_aload_n gz_185_62 rfl ?_
            refine w_bipush gz_185_63 (by decide) ?_
            refine w_inv (k := 0) (as := [(0, 10)]) (r := []) (x := 151) (ls0 := [(2, 151), (0, 10)]) gz_185_65 gm_177 rfl is_151 rd_10 rfl rfl rfl rfl rfl (c_Model_isWord9_f0 (d := (d + 3)) (x1 := 10) (by omega) (by omega) (cf.trans (by omega)) n_Wd9 (fun w542 xp543 => ?_) (fun w544 xp545 xp546 xp547 xp548 => ?_))
            ·
              show wp l rho (d + 4) 185 68 [(2, 151), (0, 0), (0, 0), (0, 0), (0, 0), (9, 0), (9, 0), (9, 0)] [(0, 0)] h Q
              rw [show wm 10 = 316695 from by decide] at xp543
              refine w_ifne (t := 88) gz_185_68 rfl (fun u549 => by exfalso; omega) (fun u549 => ?_)
              refine w_aload_n gz_185_71 rfl ?_
              refine w_getX (v := 167) gz_185_72 is_151 rd_10 rfl (by decide) rfl ?_
              refine w_bipush gz_185_75 (by decide) ?_
              refine w_iald gz_185_77 is_167 rd_66 (by omega) (by omega) (fun v551 ev551 pv551 qv551 => ?_)
              refine w_bipush gz_185_78 (by decide) ?_
              refine w_icne (t := 88) gz_185_80 rfl (fun u552 => ?_) (fun u552 => ?_)
              ·
                have psJ : h 151 7 = h 151 7 := (rfl : h 151 7 = h 151 7)
                have npsJ : sm h = sm h := rfl
                have ce553 : h 151 7 = k151_7 := ek151_7.symm
                have ce554 : h 151 8 = 0 := cf
                have ce555 : h 151 27 = k151_27 := ek151_27.symm
                have j167 : ∀ j : Int, h 167 j = h 167 j := fun _ => rfl
                have j6 := j167 6
                exact J88_0 (0) (0) (0) (0) (0) h (my_fr.rf) (by omega) (by omega) (by omega) (by omega) (by omega) (by omega) (by omega) (by omega) (by omega) (by omega) (ek151_27.symm.trans (by omega)) (ek151_33.symm.trans (by omega)) (ek151_7.symm.trans (by omega)) (cf.trans (by omega)) n_Tok n_Mq n_Wrd n_Wd9 (by first | (intro q; exfalso; omega) | (intro _; assumption) | omega) (by first | (intro q; exfalso; omega) | (intro _ q; omega) | (intro _ q; exfalso; have w := n_Wrd; unfold Wrd at w; omega) | omega) (by omega) (by omega) (by omega) (by first | (intro q; exfalso; omega) | (intro q; omega) | omega) (by first | (intro q; exfalso; omega) | (intro q; omega) | omega)
              ·
                refine w_aload_n gz_185_83 rfl ?_
                refine w_iconst gz_185_84 (by decide) ?_
                refine w_inv (k := 0) (as := [(0, 5)]) (r := []) (x := 151) (ls0 := [(2, 151), (0, 5)]) gz_185_85 gm_178 rfl is_151 rd_10 rfl rfl rfl rfl rfl ?_
                refine w_aload_n gz_178_0 rfl ?_
                refine v_getI (j := 8) gz_178_1 rfl is_151 rd_10 rfl (fun v556 ev556 pv556 qv556 => ?_)
                have zv556 := ev556.trans cf
                refine w_ifne (t := 25) gz_178_4 rfl (fun u557 => by exfalso; omega) (fun u557 => ?_)
                refine w_aload_n gz_178_7 rfl ?_
                refine w_iload_n gz_178_8 rfl ?_
                refine w_bipush gz_178_9 (by decide) ?_
                refine w_aload_n gz_178_11 rfl ?_
                refine w_getX (v := 154) gz_178_12 is_151 rd_10 rfl (by decide) rfl ?_
                refine w_aload_n gz_178_15 rfl ?_
                refine v_getI (j := 7) gz_178_16 rfl is_151 rd_10 rfl (fun v559 ev559 pv559 qv559 => ?_)
                have zv559 := ev559.trans ek151_7.symm
                refine w_iald gz_178_19 is_154 rd_53 (by omega) (by omega) (fun v560 ev560 pv560 qv560 => ?_)
                have nz561 : v560 = sP (sm h) (h 151 7) := by
                  have q := ev560.trans (my_fr.at (j := v559) my_fr.rf is_154 rfl)
                  rw [show (v559 : Int) = h 151 7 from by omega] at q
                  exact q
                refine w_imul gz_178_20 ⟨by omega, by omega⟩ ?_
                refine w_iadd gz_178_21 ⟨by omega, by omega⟩ ?_
                refine v_putI (j := 8) gz_178_22 rfl is_151 rd_10 rfl (by omega) (by omega) rfl (fun h562 fh562 => ?_)
                have gh562 : my_fr [(10, 7), (10, 8), (10, 27), (66, -1), (67, -1), (68, -1), (69, -1), (70, -1), (71, -1), (72, -1), (73, -1), (74, -1), (75, -1), (77, -1), (78, -1), (79, -1)] h h562 := my_fr.up my_fr.rf is_151 fh562 rfl
                have Tok_h562 : Tok h562 := Tok_ag (my_ag.up fh562 is_151 rfl) n_Tok
                have Mq_h562 : Mq h562 wv := Mq_ag (my_ag.up fh562 is_151 rfl) n_Mq
                have Wrd_h562 : Wrd h562 := Wrd_ag (my_ag.up fh562 is_151 rfl) n_Wrd
                have Wd9_h562 : Wd9 h562 := Wd9_ag (my_ag.up fh562 is_151 rfl) n_Wd9
                refine w_vret gz_178_25 gm_178 ?_
                show wp l rho (d + 4) 185 88 [(2, 151), (0, 0), (0, 0), (0, 0), (0, 0), (9, 0), (9, 0), (9, 0)] [] h562 Q
                have psJ : h562 151 7 = h 151 7 := ((my_up_fld fh562 (by decide)).trans (rfl : h 151 7 = h 151 7))
                have npsJ : sm h562 = sm h := sm_eq (fun j => my_fr.at gh562 is_153 rfl) (fun j => my_fr.at gh562 is_154 rfl) (fun j => my_fr.at gh562 is_155 rfl)
                have ce563 : h562 151 7 = v559 := ((my_up_fld fh562 (by decide)).trans ev559.symm)
                have ce564 : h562 151 8 = (5 + (16 * v560)) := (my_up_self fh562)
                have ce565 : h562 151 27 = k151_27 := ((my_up_fld fh562 (by decide)).trans ek151_27.symm)
                have j167 : ∀ j : Int, h562 167 j = h 167 j := fun j => ((my_up_role fh562 is_167 is_151 rfl).trans (rfl : h 167 j = h 167 j))
                have j6 := j167 6
                exact J88_0 (0) (0) (0) (0) ((5 + (16 * v560))) h562 (gh562) (by omega) (by omega) (by omega) (by omega) (by omega) (by omega) (by omega) (by omega) (by omega) (by omega) (((my_up_fld fh562 (by decide)).trans ek151_27.symm).trans (by omega)) (((my_up_fld fh562 (by decide)).trans ek151_33.symm).trans (by omega)) (((my_up_fld fh562 (by decide)).trans ev559.symm).trans (by omega)) ((my_up_self fh562).trans (by omega)) Tok_h562 Mq_h562 Wrd_h562 Wd9_h562 (by first | (intro q; exfalso; omega) | (intro _; assumption) | omega) (by first | (intro q; exfalso; omega) | (intro _ q; omega) | (intro _ q; exfalso; have w := Wrd_h562; unfold Wrd at w; omega) | omega) (by omega) (by omega) (by omega) (by first | (intro q; exfalso; omega) | (intro q; omega) | omega) (by first | (intro q; exfalso; omega) | (intro q; omega) | omega)
            ·
              show wp l rho (d + 4) 185 68 [(2, 151), (0, 0), (0, 0), (0, 0), (0, 0), (9, 0), (9, 0), (9, 0)] [(0, 1)] h Q
              rw [show wm 10 = 316695 from by decide] at xp548
              refine w_ifne (t := 88) gz_185_68 rfl (fun u566 => ?_) (fun u566 => by exfalso; omega)
              have psJ : h 151 7 = h 151 7 := (rfl : h 151 7 = h 151 7)
              have npsJ : sm h = sm h := rfl
              have ce567 : h 151 7 = k151_7 := ek151_7.symm
              have ce568 : h 151 8 = 0 := cf
              have ce569 : h 151 27 = k151_27 := ek151_27.symm
              have j167 : ∀ j : Int, h 167 j = h 167 j := fun _ => rfl
              have j6 := j167 6
              exact J88_0 (0) (0) (0) (0) (0) h (my_fr.rf) (by omega) (by omega) (by omega) (by omega) (by omega) (by omega) (by omega) (by omega) (by omega) (by omega) (ek151_27.symm.trans (by omega)) (ek151_33.symm.trans (by omega)) (ek151_7.symm.trans (by omega)) (cf.trans (by omega)) n_Tok n_Mq n_Wrd n_Wd9 (by first | (intro q; exfalso; omega) | (intro _; assumption) | omega) (by first | (intro q; exfalso; omega) | (intro _ q; omega) | (intro _ q; exfalso; have w := n_Wrd; unfold Wrd at w; omega) | omega) (by omega) (by omega) (by omega) (by first | (intro q; exfalso; omega) | (intro q; omega) | omega) (by first | (intro q; exfalso; omega) | (intro q; omega) | omega)
        ·
          show wp l rho (d + 4) 185 26 [(2, 151), (0, 0), (0, 0), (0, 0), (9, 0), (9, 0), (9, 0), (9, 0)] [(0, 1)] h Q
          rw [show wm 11 = 26801 from by decide] at xp518
          refine w_istore (ls' := [(2, 151), (0, 0), (0, 0), (0, 0), (0, 1), (9, 0), (9, 0), (9, 0)]) gz_185_26 gm_185 rfl rfl rfl ?_
          refine w_iload_n gz_185_28 rfl ?_
          refine w_ifne (t := 62) gz_185_29 rfl (fun u570 => by exfalso; omega) (fun u570 => ?_)
          refine w_iload_n gz_185_32 rfl ?_
          refine w_ifne (t := 62) gz_185_33 rfl (fun u571 => by exfalso; omega) (fun u571 => ?_)
          refine w_iload_n gz_185_36 rfl ?_
          refine w_ifne (t := 62) gz_185_37 rfl (fun u572 => by exfalso; omega) (fun u572 => ?_)
          refine w_iload gz_185_40 rfl ?_
          refine w_ifne (t := 62) gz_185_42 rfl (fun u573 => ?_) (fun u573 => by exfalso; omega)
          refine w_aload_n gz_185_62 rfl ?_
          refine w_bipush gz_185_63 (by decide) ?_
          refine w_inv (k := 0) (as := [(0, 10)]) (r := []) (x := 151) (ls0 := [(2, 151), (0, 10)]) gz_185_65 gm_177 rfl is_151 rd_10 rfl rfl rfl rfl rfl (c_Model_isWord9_f0 (d := (d + 3)) (x1 := 10) (by omega) (by omega) (cf.trans (by omega)) n_Wd9 (fun w574 xp575 => ?_) (fun w576 xp577 xp578 xp579 xp580 => ?_))
          ·
            show wp l rho (d + 4) 185 68 [(2, 151), (0, 0), (0, 0), (0, 0), (0, 1), (9, 0), (9, 0), (9, 0)] [(0, 0)] h Q
            rw [show wm 10 = 316695 from by decide] at xp575
            refine w_ifne (t := 88) gz_185_68 rfl (fun u581 => by exfalso; omega) (fun u581 => ?_)
            refine w_aload_n gz_185_71 rfl ?_
            refine w_getX (v := 167) gz_185_72 is_151 rd_10 rfl (by decide) rfl ?_
            refine w_bipush gz_185_75 (by decide) ?_
            refine w_iald gz_185_77 is_167 rd_66 (by omega) (by omega) (fun v583 ev583 pv583 qv583 => ?_)
            refine w_bipush gz_185_78 (by decide) ?_
            refine w_icne (t := 88) gz_185_80 rfl (fun u584 => ?_) (fun u584 => ?_)
            ·
              have psJ : h 151 7 = h 151 7 := (rfl : h 151 7 = h 151 7)
              have npsJ : sm h = sm h := rfl
              have ce585 : h 151 7 = k151_7 := ek151_7.symm
              have ce586 : h 151 8 = 0 := cf
              have ce587 : h 151 27 = k151_27 := ek151_27.symm
              have j167 : ∀ j : Int, h 167 j = h 167 j := fun _ => rfl
              have j6 := j167 6
              exact J88_0 (0) (0) (0) (1) (0) h (my_fr.rf) (by omega) (by omega) (by omega) (by omega) (by omega) (by omega) (by omega) (by omega) (by omega) (by omega) (ek151_27.symm.trans (by omega)) (ek151_33.symm.trans (by omega)) (ek151_7.symm.trans (by omega)) (cf.trans (by omega)) n_Tok n_Mq n_Wrd n_Wd9 (by first | (intro q; exfalso; omega) | (intro _; assumption) | omega) (by first | (intro q; exfalso; omega) | (intro _ q; omega) | (intro _ q; exfalso; have w := n_Wrd; unfold Wrd at w; omega) | omega) (by omega) (by omega) (by omega) (by first | (intro q; exfalso; omega) | (intro q; omega) | omega) (by first | (intro q; exfalso; omega) | (intro q; omega) | omega)
            ·
              refine w_aload_n gz_185_83 rfl ?_
              refine w_iconst gz_185_84 (by decide) ?_
              refine w_inv (k := 0) (as := [(0, 5)]) (r := []) (x := 151) (ls0 := [(2, 151), (0, 5)]) gz_185_85 gm_178 rfl is_151 rd_10 rfl rfl rfl rfl rfl ?_
              refine w_aload_n gz_178_0 rfl ?_
              refine v_getI (j := 8) gz_178_1 rfl is_151 rd_10 rfl (fun v588 ev588 pv588 qv588 => ?_)
              have zv588 := ev588.trans cf
              refine w_ifne (t := 25) gz_178_4 rfl (fun u589 => by exfalso; omega) (fun u589 => ?_)
              refine w_aload_n gz_178_7 rfl ?_
              refine w_iload_n gz_178_8 rfl ?_
              refine w_bipush gz_178_9 (by decide) ?_
              refine w_aload_n gz_178_11 rfl ?_
              refine w_getX (v := 154) gz_178_12 is_151 rd_10 rfl (by decide) rfl ?_
              refine w_aload_n gz_178_15 rfl ?_
              refine v_getI (j := 7) gz_178_16 rfl is_151 rd_10 rfl (fun v591 ev591 pv591 qv591 => ?_)
              have zv591 := ev591.trans ek151_7.symm
              refine w_iald gz_178_19 is_154 rd_53 (by omega) (by omega) (fun v592 ev592 pv592 qv592 => ?_)
              have nz593 : v592 = sP (sm h) (h 151 7) := by
                have q := ev592.trans (my_fr.at (j := v591) my_fr.rf is_154 rfl)
                rw [show (v591 : Int) = h 151 7 from by omega] at q
                exact q
              refine w_imul gz_178_20 ⟨by omega, by omega⟩ ?_
              refine w_iadd gz_178_21 ⟨by omega, by omega⟩ ?_
              refine v_putI (j := 8) gz_178_22 rfl is_151 rd_10 rfl (by omega) (by omega) rfl (fun h594 fh594 => ?_)
              have gh594 : my_fr [(10, 7), (10, 8), (10, 27), (66, -1), (67, -1), (68, -1), (69, -1), (70, -1), (71, -1), (72, -1), (73, -1), (74, -1), (75, -1), (77, -1), (78, -1), (79, -1)] h h594 := my_fr.up my_fr.rf is_151 fh594 rfl
              have Tok_h594 : Tok h594 := Tok_ag (my_ag.up fh594 is_151 rfl) n_Tok
              have Mq_h594 : Mq h594 wv := Mq_ag (my_ag.up fh594 is_151 rfl) n_Mq
              have Wrd_h594 : Wrd h594 := Wrd_ag (my_ag.up fh594 is_151 rfl) n_Wrd
              have Wd9_h594 : Wd9 h594 := Wd9_ag (my_ag.up fh594 is_151 rfl) n_Wd9
              refine w_vret gz_178_25 gm_178 ?_
              show wp l rho (d + 4) 185 88 [(2, 151), (0, 0), (0, 0), (0, 0), (0, 1), (9, 0), (9, 0), (9, 0)] [] h594 Q
              have psJ : h594 151 7 = h 151 7 := ((my_up_fld fh594 (by decide)).trans (rfl : h 151 7 = h 151 7))
              have npsJ : sm h594 = sm h := sm_eq (fun j => my_fr.at gh594 is_153 rfl) (fun j => my_fr.at gh594 is_154 rfl) (fun j => my_fr.at gh594 is_155 rfl)
              have ce595 : h594 151 7 = v591 := ((my_up_fld fh594 (by decide)).trans ev591.symm)
              have ce596 : h594 151 8 = (5 + (16 * v592)) := (my_up_self fh594)
              have ce597 : h594 151 27 = k151_27 := ((my_up_fld fh594 (by decide)).trans ek151_27.symm)
              have j167 : ∀ j : Int, h594 167 j = h 167 j := fun j => ((my_up_role fh594 is_167 is_151 rfl).trans (rfl : h 167 j = h 167 j))
              have j6 := j167 6
              exact J88_0 (0) (0) (0) (1) ((5 + (16 * v592))) h594 (gh594) (by omega) (by omega) (by omega) (by omega) (by omega) (by omega) (by omega) (by omega) (by omega) (by omega) (((my_up_fld fh594 (by decide)).trans ek151_27.symm).trans (by omega)) (((my_up_fld fh594 (by decide)).trans ek151_33.symm).trans (by omega)) (((my_up_fld fh594 (by decide)).trans ev591.symm).trans (by omega)) ((my_up_self fh594).trans (by omega)) Tok_h594 Mq_h594 Wrd_h594 Wd9_h594 (by first | (intro q; exfalso; omega) | (intro _; assumption) | omega) (by first | (intro q; exfalso; omega) | (intro _ q; omega) | (intro _ q; exfalso; have w := Wrd_h594; unfold Wrd at w; omega) | omega) (by omega) (by omega) (by omega) (by first | (intro q; exfalso; omega) | (intro q; omega) | omega) (by first | (intro q; exfalso; omega) | (intro q; omega) | omega)
          ·
            show wp l rho (d + 4) 185 68 [(2, 151), (0, 0), (0, 0), (0, 0), (0, 1), (9, 0), (9, 0), (9, 0)] [(0, 1)] h Q
            rw [show wm 10 = 316695 from by decide] at xp580
            refine w_ifne (t := 88) gz_185_68 rfl (fun u598 => ?_) (fun u598 => by exfalso; omega)
            have psJ : h 151 7 = h 151 7 := (rfl : h 151 7 = h 151 7)
            have npsJ : sm h = sm h := rfl
            have ce599 : h 151 7 = k151_7 := ek151_7.symm
            have ce600 : h 151 8 = 0 := cf
            have ce601 : h 151 27 = k151_27 := ek151_27.symm
            have j167 : ∀ j : Int, h 167 j = h 167 j := fun _ => rfl
            have j6 := j167 6
            exact J88_0 (0) (0) (0) (1) (0) h (my_fr.rf) (by omega) (by omega) (by omega) (by omega) (by omega) (by omega) (by omega) (by omega) (by omega) (by omega) (ek151_27.symm.trans (by omega)) (ek151_33.symm.trans (by omega)) (ek151_7.symm.trans (by omega)) (cf.trans (by omega)) n_Tok n_Mq n_Wrd n_Wd9 (by first | (intro q; exfalso; omega) | (intro _; assumption) | omega) (by first | (intro q; exfalso; omega) | (intro _ q; omega) | (intro _ q; exfalso; have w := n_Wrd; unfold Wrd at w; omega) | omega) (by omega) (by omega) (by omega) (by first | (intro q; exfalso; omega) | (intro q; omega) | omega) (by first | (intro q; exfalso; omega) | (intro q; omega) | omega)
      ·
        show wp l rho (d + 4) 185 19 [(2, 151), (0, 0), (0, 0), (9, 0), (9, 0), (9, 0), (9, 0), (9, 0)] [(0, 1)] h Q
        rw [show wm 8 = 527412 from by decide] at xp511
        refine w_istore_n (ls' := [(2, 151), (0, 0), (0, 0), (0, 1), (9, 0), (9, 0), (9, 0), (9, 0)]) gz_185_19 gm_185 rfl rfl rfl ?_
        refine w_aload_n gz_185_20 rfl ?_
        refine w_bipush gz_185_21 (by decide) ?_
        refine w_inv (k := 0) (as := [(0, 11)]) (r := []) (x := 151) (ls0 := [(2, 151), (0, 11)]) gz_185_23 gm_177 rfl is_151 rd_10 rfl rfl rfl rfl rfl (c_Model_isWord9_f0 (d := (d + 3)) (x1 := 11) (by omega) (by omega) (cf.trans (by omega)) n_Wd9 (fun w602 xp603 => ?_) (fun w604 xp605 xp606 xp607 xp608 => ?_))
        ·
          show wp l rho (d + 4) 185 26 [(2, 151), (0, 0), (0, 0), (0, 1), (9, 0), (9, 0), (9, 0), (9, 0)] [(0, 0)] h Q
          rw [show wm 11 = 26801 from by decide] at xp603
          refine w_istore (ls' := [(2, 151), (0, 0), (0, 0), (0, 1), (0, 0), (9, 0), (9, 0), (9, 0)]) gz_185_26 gm_185 rfl rfl rfl ?_
          refine w_iload_n gz_185_28 rfl ?_
          refine w_ifne (t := 62) gz_185_29 rfl (fun u609 => by exfalso; omega) (fun u609 => ?_)
          refine w_iload_n gz_185_32 rfl ?_
          refine w_ifne (t := 62) gz_185_33 rfl (fun u610 => by exfalso; omega) (fun u610 => ?_)
          refine w_iload_n gz_185_36 rfl ?_
          refine w_ifne (t := 62) gz_185_37 rfl (fun u611 => ?_) (fun u611 => by exfalso; omega)
          refine w_aload_n gz_185_62 rfl ?_
          refine w_bipush gz_185_63 (by decide) ?_
          refine w_inv (k := 0) (as := [(0, 10)]) (r := []) (x := 151) (ls0 := [(2, 151), (0, 10)]) gz_185_65 gm_177 rfl is_151 rd_10 rfl rfl rfl rfl rfl (c_Model_isWord9_f0 (d := (d + 3)) (x1 := 10) (by omega) (by omega) (cf.trans (by omega)) n_Wd9 (fun w612 xp613 => ?_) (fun w614 xp615 xp616 xp617 xp618 => ?_))
          ·
            show wp l rho (d + 4) 185 68 [(2, 151), (0, 0), (0, 0), (0, 1), (0, 0), (9, 0), (9, 0), (9, 0)] [(0, 0)] h Q
            rw [show wm 10 = 316695 from by decide] at xp613
            refine w_ifne (t := 88) gz_185_68 rfl (fun u619 => by exfalso; omega) (fun u619 => ?_)
            refine w_aload_n gz_185_71 rfl ?_
            refine w_getX (v := 167) gz_185_72 is_151 rd_10 rfl (by decide) rfl ?_
            refine w_bipush gz_185_75 (by decide) ?_
            refine w_iald gz_185_77 is_167 rd_66 (by omega) (by omega) (fun v621 ev621 pv621 qv621 => ?_)
            refine w_bipush gz_185_78 (by decide) ?_
            refine w_icne (t := 88) gz_185_80 rfl (fun u622 => ?_) (fun u622 => ?_)
            ·
              have psJ : h 151 7 = h 151 7 := (rfl : h 151 7 = h 151 7)
              have npsJ : sm h = sm h := rfl
              have ce623 : h 151 7 = k151_7 := ek151_7.symm
              have ce624 : h 151 8 = 0 := cf
              have ce625 : h 151 27 = k151_27 := ek151_27.symm
              have j167 : ∀ j : Int, h 167 j = h 167 j := fun _ => rfl
              have j6 := j167 6
              exact J88_0 (0) (0) (1) (0) (0) h (my_fr.rf) (by omega) (by omega) (by omega) (by omega) (by omega) (by omega) (by omega) (by omega) (by omega) (by omega) (ek151_27.symm.trans (by omega)) (ek151_33.symm.trans (by omega)) (ek151_7.symm.trans (by omega)) (cf.trans (by omega)) n_Tok n_Mq n_Wrd n_Wd9 (by first | (intro q; exfalso; omega) | (intro _; assumption) | omega) (by first | (intro q; exfalso; omega) | (intro _ q; omega) | (intro _ q; exfalso; have w := n_Wrd; unfold Wrd at w; omega) | omega) (by omega) (by omega) (by omega) (by first | (intro q; exfalso; omega) | (intro q; omega) | omega) (by first | (intro q; exfalso; omega) | (intro q; omega) | omega)
            ·
              refine w_aload_n gz_185_83 rfl ?_
              refine w_iconst gz_185_84 (by decide) ?_
              refine w_inv (k := 0) (as := [(0, 5)]) (r := []) (x := 151) (ls0 := [(2, 151), (0, 5)]) gz_185_85 gm_178 rfl is_151 rd_10 rfl rfl rfl rfl rfl ?_
              refine w_aload_n gz_178_0 rfl ?_
              refine v_getI (j := 8) gz_178_1 rfl is_151 rd_10 rfl (fun v626 ev626 pv626 qv626 => ?_)
              have zv626 := ev626.trans cf
              refine w_ifne (t := 25) gz_178_4 rfl (fun u627 => by exfalso; omega) (fun u627 => ?_)
              refine w_aload_n gz_178_7 rfl ?_
              refine w_iload_n gz_178_8 rfl ?_
              refine w_bipush gz_178_9 (by decide) ?_
              refine w_aload_n gz_178_11 rfl ?_
              refine w_getX (v := 154) gz_178_12 is_151 rd_10 rfl (by decide) rfl ?_
              refine w_aload_n gz_178_15 rfl ?_
              refine v_getI (j := 7) gz_178_16 rfl is_151 rd_10 rfl (fun v629 ev629 pv629 qv629 => ?_)
              have zv629 := ev629.trans ek151_7.symm
              refine w_iald gz_178_19 is_154 rd_53 (by omega) (by omega) (fun v630 ev630 pv630 qv630 => ?_)
              have nz631 : v630 = sP (sm h) (h 151 7) := by
                have q := ev630.trans (my_fr.at (j := v629) my_fr.rf is_154 rfl)
                rw [show (v629 : Int) = h 151 7 from by omega] at q
                exact q
              refine w_imul gz_178_20 ⟨by omega, by omega⟩ ?_
              refine w_iadd gz_178_21 ⟨by omega, by omega⟩ ?_
              refine v_putI (j := 8) gz_178_22 rfl is_151 rd_10 rfl (by omega) (by omega) rfl (fun h632 fh632 => ?_)
              have gh632 : my_fr [(10, 7), (10, 8), (10, 27), (66, -1), (67, -1), (68, -1), (69, -1), (70, -1), (71, -1), (72, -1), (73, -1), (74, -1), (75, -1), (77, -1), (78, -1), (79, -1)] h h632 := my_fr.up my_fr.rf is_151 fh632 rfl
              have Tok_h632 : Tok h632 := Tok_ag (my_ag.up fh632 is_151 rfl) n_Tok
              have Mq_h632 : Mq h632 wv := Mq_ag (my_ag.up fh632 is_151 rfl) n_Mq
              have Wrd_h632 : Wrd h632 := Wrd_ag (my_ag.up fh632 is_151 rfl) n_Wrd
              have Wd9_h632 : Wd9 h632 := Wd9_ag (my_ag.up fh632 is_151 rfl) n_Wd9
              refine w_vret gz_178_25 gm_178 ?_
              show wp l rho (d + 4) 185 88 [(2, 151), (0, 0), (0, 0), (0, 1), (0, 0), (9, 0), (9, 0), (9, 0)] [] h632 Q
              have psJ : h632 151 7 = h 151 7 := ((my_up_fld fh632 (by decide)).trans (rfl : h 151 7 = h 151 7))
              have npsJ : sm h632 = sm h := sm_eq (fun j => my_fr.at gh632 is_153 rfl) (fun j => my_fr.at gh632 is_154 rfl) (fun j => my_fr.at gh632 is_155 rfl)
              have ce633 : h632 151 7 = v629 := ((my_up_fld fh632 (by decide)).trans ev629.symm)
              have ce634 : h632 151 8 = (5 + (16 * v630)) := (my_up_self fh632)
              have ce635 : h632 151 27 = k151_27 := ((my_up_fld fh632 (by decide)).trans ek151_27.symm)
              have j167 : ∀ j : Int, h632 167 j = h 167 j := fun j => ((my_up_role fh632 is_167 is_151 rfl).trans (rfl : h 167 j = h 167 j))
              have j6 := j167 6
              exact J88_0 (0) (0) (1) (0) ((5 + (16 * v630))) h632 (gh632) (by omega) (by omega) (by omega) (by omega) (by omega) (by omega) (by omega) (by omega) (by omega) (by omega) (((my_up_fld fh632 (by decide)).trans ek151_27.symm).trans (by omega)) (((my_up_fld fh632 (by decide)).trans ek151_33.symm).trans (by omega)) (((my_up_fld fh632 (by decide)).trans ev629.symm).trans (by omega)) ((my_up_self fh632).trans (by omega)) Tok_h632 Mq_h632 Wrd_h632 Wd9_h632 (by first | (intro q; exfalso; omega) | (intro _; assumption) | omega) (by first | (intro q; exfalso; omega) | (intro _ q; omega) | (intro _ q; exfalso; have w := Wrd_h632; unfold Wrd at w; omega) | omega) (by omega) (by omega) (by omega) (by first | (intro q; exfalso; omega) | (intro q; omega) | omega) (by first | (intro q; exfalso; omega) | (intro q; omega) | omega)
          ·
            show wp l rho (d + 4) 185 68 [(2, 151), (0, 0), (0, 0), (0, 1), (0, 0), (9, 0), (9, 0), (9, 0)] [(0, 1)] h Q
            rw [show wm 10 = 316695 from by decide] at xp618
            refine w_ifne (t := 88) gz_185_68 rfl (fun u636 => ?_) (fun u636 => by exfalso; omega)
            have psJ : h 151 7 = h 151 7 := (rfl : h 151 7 = h 151 7)
            have npsJ : sm h = sm h := rfl
            have ce637 : h 151 7 = k151_7 := ek151_7.symm
            have ce638 : h 151 8 = 0 := cf
            have ce639 : h 151 27 = k151_27 := ek151_27.symm
            have j167 : ∀ j : Int, h 167 j = h 167 j := fun _ => rfl
            have j6 := j167 6
            exact J88_0 (0) (0) (1) (0) (0) h (my_fr.rf) (by omega) (by omega) (by omega) (by omega) (by omega) (by omega) (by omega) (by omega) (by omega) (by omega) (ek151_27.symm.trans (by omega)) (ek151_33.symm.trans (by omega)) (ek151_7.symm.trans (by omega)) (cf.trans (by omega)) n_Tok n_Mq n_Wrd n_Wd9 (by first | (intro q; exfalso; omega) | (intro _; assumption) | omega) (by first | (intro q; exfalso; omega) | (intro _ q; omega) | (intro _ q; exfalso; have w := n_Wrd; unfold Wrd at w; omega) | omega) (by omega) (by omega) (by omega) (by first | (intro q; exfalso; omega) | (intro q; omega) | omega) (by first | (intro q; exfalso; omega) | (intro q; omega) | omega)
        ·
          show wp l rho (d + 4) 185 26 [(2, 151), (0, 0), (0, 0), (0, 1), (9, 0), (9, 0), (9, 0), (9, 0)] [(0, 1)] h Q
          rw [show wm 11 = 26801 from by decide] at xp608
          refine w_istore (ls' := [(2, 151), (0, 0), (0, 0), (0, 1), (0, 1), (9, 0), (9, 0), (9, 0)]) gz_185_26 gm_185 rfl rfl rfl ?_
          refine w_iload_n gz_185_28 rfl ?_
          refine w_ifne (t := 62) gz_185_29 rfl (fun u640 => by exfalso; omega) (fun u640 => ?_)
          refine w_iload_n gz_185_32 rfl ?_
          refine w_ifne (t := 62) gz_185_33 rfl (fun u641 => by exfalso; omega) (fun u641 => ?_)
          refine w_iload_n gz_185_36 rfl ?_
          refine w_ifne (t := 62) gz_185_37 rfl (fun u642 => ?_) (fun u642 => by exfalso; omega)
          refine w_aload_n gz_185_62 rfl ?_
          refine w_bipush gz_185_63 (by decide) ?_
          refine w_inv (k := 0) (as := [(0, 10)]) (r := []) (x := 151) (ls0 := [(2, 151), (0, 10)]) gz_185_65 gm_177 rfl is_151 rd_10 rfl rfl rfl rfl rfl (c_Model_isWord9_f0 (d := (d + 3)) (x1 := 10) (by omega) (by omega) (cf.trans (by omega)) n_Wd9 (fun w643 xp644 => ?_) (fun w645 xp646 xp647 xp648 xp649 => ?_))
          ·
            show wp l rho (d + 4) 185 68 [(2, 151), (0, 0), (0, 0), (0, 1), (0, 1), (9, 0), (9, 0), (9, 0)] [(0, 0)] h Q
            rw [show wm 10 = 316695 from by decide] at xp644
            refine w_ifne (t := 88) gz_185_68 rfl (fun u650 => by exfalso; omega) (fun u650 => ?_)
            refine w_aload_n gz_185_71 rfl ?_
            refine w_getX (v := 167) gz_185_72 is_151 rd_10 rfl (by decide) rfl ?_
            refine w_bipush gz_185_75 (by decide) ?_
            refine w_iald gz_185_77 is_167 rd_66 (by omega) (by omega) (fun v652 ev652 pv652 qv652 => ?_)
            refine w_bipush gz_185_78 (by decide) ?_
            refine w_icne (t := 88) gz_185_80 rfl (fun u653 => ?_) (fun u653 => ?_)
            ·
              have psJ : h 151 7 = h 151 7 := (rfl : h 151 7 = h 151 7)
              have npsJ : sm h = sm h := rfl
              have ce654 : h 151 7 = k151_7 := ek151_7.symm
              have ce655 : h 151 8 = 0 := cf
              have ce656 : h 151 27 = k151_27 := ek151_27.symm
              have j167 : ∀ j : Int, h 167 j = h 167 j := fun _ => rfl
              have j6 := j167 6
              exact J88_0 (0) (0) (1) (1) (0) h (my_fr.rf) (by omega) (by omega) (by omega) (by omega) (by omega) (by omega) (by omega) (by omega) (by omega) (by omega) (ek151_27.symm.trans (by omega)) (ek151_33.symm.trans (by omega)) (ek151_7.symm.trans (by omega)) (cf.trans (by omega)) n_Tok n_Mq n_Wrd n_Wd9 (by first | (intro q; exfalso; omega) | (intro _; assumption) | omega) (by first | (intro q; exfalso; omega) | (intro _ q; omega) | (intro _ q; exfalso; have w := n_Wrd; unfold Wrd at w; omega) | omega) (by omega) (by omega) (by omega) (by first | (intro q; exfalso; omega) | (intro q; omega) | omega) (by first | (intro q; exfalso; omega) | (intro q; omega) | omega)
            ·
              refine w_aload_n gz_185_83 rfl ?_
              refine w_iconst gz_185_84 (by decide) ?_
              refine w_inv (k := 0) (as := [(0, 5)]) (r := []) (x := 151) (ls0 := [(2, 151), (0, 5)]) gz_185_85 gm_178 rfl is_151 rd_10 rfl rfl rfl rfl rfl ?_
              refine w_aload_n gz_178_0 rfl ?_
              refine v_getI (j := 8) gz_178_1 rfl is_151 rd_10 rfl (fun v657 ev657 pv657 qv657 => ?_)
              have zv657 := ev657.trans cf
              refine w_ifne (t := 25) gz_178_4 rfl (fun u658 => by exfalso; omega) (fun u658 => ?_)
              refine w_aload_n gz_178_7 rfl ?_
              refine w_iload_n gz_178_8 rfl ?_
              refine w_bipush gz_178_9 (by decide) ?_
              refine w_aload_n gz_178_11 rfl ?_
              refine w_getX (v := 154) gz_178_12 is_151 rd_10 rfl (by decide) rfl ?_
              refine w_aload_n gz_178_15 rfl ?_
              refine v_getI (j := 7) gz_178_16 rfl is_151 rd_10 rfl (fun v660 ev660 pv660 qv660 => ?_)
              have zv660 := ev660.trans ek151_7.symm
              refine w_iald gz_178_19 is_154 rd_53 (by omega) (by omega) (fun v661 ev661 pv661 qv661 => ?_)
              have nz662 : v661 = sP (sm h) (h 151 7) := by
                have q := ev661.trans (my_fr.at (j := v660) my_fr.rf is_154 rfl)
                rw [show (v660 : Int) = h 151 7 from by omega] at q
                exact q
              refine w_imul gz_178_20 ⟨by omega, by omega⟩ ?_
              refine w_iadd gz_178_21 ⟨by omega, by omega⟩ ?_
              refine v_putI (j := 8) gz_178_22 rfl is_151 rd_10 rfl (by omega) (by omega) rfl (fun h663 fh663 => ?_)
              have gh663 : my_fr [(10, 7), (10, 8), (10, 27), (66, -1), (67, -1), (68, -1), (69, -1), (70, -1), (71, -1), (72, -1), (73, -1), (74, -1), (75, -1), (77, -1), (78, -1), (79, -1)] h h663 := my_fr.up my_fr.rf is_151 fh663 rfl
              have Tok_h663 : Tok h663 := Tok_ag (my_ag.up fh663 is_151 rfl) n_Tok
              have Mq_h663 : Mq h663 wv := Mq_ag (my_ag.up fh663 is_151 rfl) n_Mq
              have Wrd_h663 : Wrd h663 := Wrd_ag (my_ag.up fh663 is_151 rfl) n_Wrd
              have Wd9_h663 : Wd9 h663 := Wd9_ag (my_ag.up fh663 is_151 rfl) n_Wd9
              refine w_vret gz_178_25 gm_178 ?_
              show wp l rho (d + 4) 185 88 [(2, 151), (0, 0), (0, 0), (0, 1), (0, 1), (9, 0), (9, 0), (9, 0)] [] h663 Q
              have psJ : h663 151 7 = h 151 7 := ((my_up_fld fh663 (by decide)).trans (rfl : h 151 7 = h 151 7))
              have npsJ : sm h663 = sm h := sm_eq (fun j => my_fr.at gh663 is_153 rfl) (fun j => my_fr.at gh663 is_154 rfl) (fun j => my_fr.at gh663 is_155 rfl)
              have ce664 : h663 151 7 = v660 := ((my_up_fld fh663 (by decide)).trans ev660.symm)
              have ce665 : h663 151 8 = (5 + (16 * v661)) := (my_up_self fh663)
              have ce666 : h663 151 27 = k151_27 := ((my_up_fld fh663 (by decide)).trans ek151_27.symm)
              have j167 : ∀ j : Int, h663 167 j = h 167 j := fun j => ((my_up_role fh663 is_167 is_151 rfl).trans (rfl : h 167 j = h 167 j))
              have j6 := j167 6
              exact J88_0 (0) (0) (1) (1) ((5 + (16 * v661))) h663 (gh663) (by omega) (by omega) (by omega) (by omega) (by omega) (by omega) (by omega) (by omega) (by omega) (by omega) (((my_up_fld fh663 (by decide)).trans ek151_27.symm).trans (by omega)) (((my_up_fld fh663 (by decide)).trans ek151_33.symm).trans (by omega)) (((my_up_fld fh663 (by decide)).trans ev660.symm).trans (by omega)) ((my_up_self fh663).trans (by omega)) Tok_h663 Mq_h663 Wrd_h663 Wd9_h663 (by first | (intro q; exfalso; omega) | (intro _; assumption) | omega) (by first | (intro q; exfalso; omega) | (intro _ q; omega) | (intro _ q; exfalso; have w := Wrd_h663; unfold Wrd at w; omega) | omega) (by omega) (by omega) (by omega) (by first | (intro q; exfalso; omega) | (intro q; omega) | omega) (by first | (intro q; exfalso; omega) | (intro q; omega) | omega)
          ·
            show wp l rho (d + 4) 185 68 [(2, 151), (0, 0), (0, 0), (0, 1), (0, 1), (9, 0), (9, 0), (9, 0)] [(0, 1)] h Q
            rw [show wm 10 = 316695 from by decide] at xp649
            refine w_ifne (t := 88) gz_185_68 rfl (fun u667 => ?_) (fun u667 => by exfalso; omega)
            have psJ : h 151 7 = h 151 7 := (rfl : h 151 7 = h 151 7)
            have npsJ : sm h = sm h := rfl
            have ce668 : h 151 7 = k151_7 := ek151_7.symm
            have ce669 : h 151 8 = 0 := cf
            have ce670 : h 151 27 = k151_27 := ek151_27.symm
            have j167 : ∀ j : Int, h 167 j = h 167 j := fun _ => rfl
            have j6 := j167 6
            exact J88_0 (0) (0) (1) (1) (0) h (my_fr.rf) (by omega) (by omega) (by omega) (by omega) (by omega) (by omega) (by omega) (by omega) (by omega) (by omega) (ek151_27.symm.trans (by omega)) (ek151_33.symm.trans (by omega)) (ek151_7.symm.trans (by omega)) (cf.trans (by omega)) n_Tok n_Mq n_Wrd n_Wd9 (by first | (intro q; exfalso; omega) | (intro _; assumption) | omega) (by first | (intro q; exfalso; omega) | (intro _ q; omega) | (intro _ q; exfalso; have w := n_Wrd; unfold Wrd at w; omega) | omega) (by omega) (by omega) (by omega) (by first | (intro q; exfalso; omega) | (intro q; omega) | omega) (by first | (intro q; exfalso; omega) | (intro q; omega) | omega)
    ·
      show wp l rho (d + 4) 185 12 [(2, 151), (0, 0), (9, 0), (9, 0), (9, 0), (9, 0), (9, 0), (9, 0)] [(0, 1)] h Q
      rw [show wm 7 = 8422 from by decide] at xp504
      refine w_istore_n (ls' := [(2, 151), (0, 0), (0, 1), (9, 0), (9, 0), (9, 0), (9, 0), (9, 0)]) gz_185_12 gm_185 rfl rfl rfl ?_
      refine w_aload_n gz_185_13 rfl ?_
      refine w_bipush gz_185_14 (by decide) ?_
      refine w_inv (k := 0) (as := [(0, 8)]) (r := []) (x := 151) (ls0 := [(2, 151), (0, 8)]) gz_185_16 gm_177 rfl is_151 rd_10 rfl rfl rfl rfl rfl (c_Model_isWord9_f0 (d := (d + 3)) (x1 := 8) (by omega) (by omega) (cf.trans (by omega)) n_Wd9 (fun w671 xp672 => ?_) (fun w673 xp674 xp675 xp676 xp677 => ?_))
      ·
        show wp l rho (d + 4) 185 19 [(2, 151), (0, 0), (0, 1), (9, 0), (9, 0), (9, 0), (9, 0), (9, 0)] [(0, 0)] h Q
        rw [show wm 8 = 527412 from by decide] at xp672
        refine w_istore_n (ls' := [(2, 151), (0, 0), (0, 1), (0, 0), (9, 0), (9, 0), (9, 0), (9, 0)]) gz_185_19 gm_185 rfl rfl rfl ?_
        refine w_aload_n gz_185_20 rfl ?_
        refine w_bipush gz_185_21 (by decide) ?_
        refine w_inv (k := 0) (as := [(0, 11)]) (r := []) (x := 151) (ls0 := [(2, 151), (0, 11)]) gz_185_23 gm_177 rfl is_151 rd_10 rfl rfl rfl rfl rfl (c_Model_isWord9_f0 (d := (d + 3)) (x1 := 11) (by omega) (by omega) (cf.trans (by omega)) n_Wd9 (fun w678 xp679 => ?_) (fun w680 xp681 xp682 xp683 xp684 => ?_))
        ·
          show wp l rho (d + 4) 185 26 [(2, 151), (0, 0), (0, 1), (0, 0), (9, 0), (9, 0), (9, 0), (9, 0)] [(0, 0)] h Q
          rw [show wm 11 = 26801 from by decide] at xp679
          refine w_istore (ls' := [(2, 151), (0, 0), (0, 1), (0, 0), (0, 0), (9, 0), (9, 0), (9, 0)]) gz_185_26 gm_185 rfl rfl rfl ?_
          refine w_iload_n gz_185_28 rfl ?_
          refine w_ifne (t := 62) gz_185_29 rfl (fun u685 => by exfalso; omega) (fun u685 => ?_)
          refine w_iload_n gz_185_32 rfl ?_
          refine w_ifne (t := 62) gz_185_33 rfl (fun u686 => ?_) (fun u686 => by exfalso; omega)
          refine w_aload_n gz_185_62 rfl ?_
          refine w_bipush gz_185_63 (by decide) ?_
          refine w_inv (k := 0) (as := [(0, 10)]) (r := []) (x := 151) (ls0 := [(2, 151), (0, 10)]) gz_185_65 gm_177 rfl is_151 rd_10 rfl rfl rfl rfl rfl (c_Model_isWord9_f0 (d := (d + 3)) (x1 := 10) (by omega) (by omega) (cf.trans (by omega)) n_Wd9 (fun w687 xp688 => ?_) (fun w689 xp690 xp691 xp692 xp693 => ?_))
          ·
            show wp l rho (d + 4) 185 68 [(2, 151), (0, 0), (0, 1), (0, 0), (0, 0), (9, 0), (9, 0), (9, 0)] [(0, 0)] h Q
            rw [show wm 10 = 316695 from by decide] at xp688
            refine w_ifne (t := 88) gz_185_68 rfl (fun u694 => by exfalso; omega) (fun u694 => ?_)
            refine w_aload_n gz_185_71 rfl ?_
            refine w_getX (v := 167) gz_185_72 is_151 rd_10 rfl (by decide) rfl ?_
            refine w_bipush gz_185_75 (by decide) ?_
            refine w_iald gz_185_77 is_167 rd_66 (by omega) (by omega) (fun v696 ev696 pv696 qv696 => ?_)
            refine w_bipush gz_185_78 (by decide) ?_
            refine w_icne (t := 88) gz_185_80 rfl (fun u697 => ?_) (fun u697 => ?_)
            ·
              have psJ : h 151 7 = h 151 7 := (rfl : h 151 7 = h 151 7)
              have npsJ : sm h = sm h := rfl
              have ce698 : h 151 7 = k151_7 := ek151_7.symm
              have ce699 : h 151 8 = 0 := cf
              have ce700 : h 151 27 = k151_27 := ek151_27.symm
              have j167 : ∀ j : Int, h 167 j = h 167 j := fun _ => rfl
              have j6 := j167 6
              exact J88_0 (0) (1) (0) (0) (0) h (my_fr.rf) (by omega) (by omega) (by omega) (by omega) (by omega) (by omega) (by omega) (by omega) (by omega) (by omega) (ek151_27.symm.trans (by omega)) (ek151_33.symm.trans (by omega)) (ek151_7.symm.trans (by omega)) (cf.trans (by omega)) n_Tok n_Mq n_Wrd n_Wd9 (by first | (intro q; exfalso; omega) | (intro _; assumption) | omega) (by first | (intro q; exfalso; omega) | (intro _ q; omega) | (intro _ q; exfalso; have w := n_Wrd; unfold Wrd at w; omega) | omega) (by omega) (by omega) (by omega) (by first | (intro q; exfalso; omega) | (intro q; omega) | omega) (by first | (intro q; exfalso; omega) | (intro q; omega) | omega)
            ·
              refine w_aload_n gz_185_83 rfl ?_
              refine w_iconst gz_185_84 (by decide) ?_
              refine w_inv (k := 0) (as := [(0, 5)]) (r := []) (x := 151) (ls0 := [(2, 151), (0, 5)]) gz_185_85 gm_178 rfl is_151 rd_10 rfl rfl rfl rfl rfl ?_
              refine w_aload_n gz_178_0 rfl ?_
              refine v_getI (j := 8) gz_178_1 rfl is_151 rd_10 rfl (fun v701 ev701 pv701 qv701 => ?_)
              have zv701 := ev701.trans cf
              refine w_ifne (t := 25) gz_178_4 rfl (fun u702 => by exfalso; omega) (fun u702 => ?_)
              refine w_aload_n gz_178_7 rfl ?_
              refine w_iload_n gz_178_8 rfl ?_
              refine w_bipush gz_178_9 (by decide) ?_
              refine w_aload_n gz_178_11 rfl ?_
              refine w_getX (v := 154) gz_178_12 is_151 rd_10 rfl (by decide) rfl ?_
              refine w_aload_n gz_178_15 rfl ?_
              refine v_getI (j := 7) gz_178_16 rfl is_151 rd_10 rfl (fun v704 ev704 pv704 qv704 => ?_)
              have zv704 := ev704.trans ek151_7.symm
              refine w_iald gz_178_19 is_154 rd_53 (by omega) (by omega) (fun v705 ev705 pv705 qv705 => ?_)
              have nz706 : v705 = sP (sm h) (h 151 7) := by
                have q := ev705.trans (my_fr.at (j := v704) my_fr.rf is_154 rfl)
                rw [show (v704 : Int) = h 151 7 from by omega] at q
                exact q
              refine w_imul gz_178_20 ⟨by omega, by omega⟩ ?_
              refine w_iadd gz_178_21 ⟨by omega, by omega⟩ ?_
              refine v_putI (j := 8) gz_178_22 rfl is_151 rd_10 rfl (by omega) (by omega) rfl (fun h707 fh707 => ?_)
              have gh707 : my_fr [(10, 7), (10, 8), (10, 27), (66, -1), (67, -1), (68, -1), (69, -1), (70, -1), (71, -1), (72, -1), (73, -1), (74, -1), (75, -1), (77, -1), (78, -1), (79, -1)] h h707 := my_fr.up my_fr.rf is_151 fh707 rfl
              have Tok_h707 : Tok h707 := Tok_ag (my_ag.up fh707 is_151 rfl) n_Tok
              have Mq_h707 : Mq h707 wv := Mq_ag (my_ag.up fh707 is_151 rfl) n_Mq
              have Wrd_h707 : Wrd h707 := Wrd_ag (my_ag.up fh707 is_151 rfl) n_Wrd
              have Wd9_h707 : Wd9 h707 := Wd9_ag (my_ag.up fh707 is_151 rfl) n_Wd9
              refine w_vret gz_178_25 gm_178 ?_
              show wp l rho (d + 4) 185 88 [(2, 151), (0, 0), (0, 1), (0, 0), (0, 0), (9, 0), (9, 0), (9, 0)] [] h707 Q
              have psJ : h707 151 7 = h 151 7 := ((my_up_fld fh707 (by decide)).trans (rfl : h 151 7 = h 151 7))
              have npsJ : sm h707 = sm h := sm_eq (fun j => my_fr.at gh707 is_153 rfl) (fun j => my_fr.at gh707 is_154 rfl) (fun j => my_fr.at gh707 is_155 rfl)
              have ce708 : h707 151 7 = v704 := ((my_up_fld fh707 (by decide)).trans ev704.symm)
              have ce709 : h707 151 8 = (5 + (16 * v705)) := (my_up_self fh707)
              have ce710 : h707 151 27 = k151_27 := ((my_up_fld fh707 (by decide)).trans ek151_27.symm)
              have j167 : ∀ j : Int, h707 167 j = h 167 j := fun j => ((my_up_role fh707 is_167 is_151 rfl).trans (rfl : h 167 j = h 167 j))
              have j6 := j167 6
              exact J88_0 (0) (1) (0) (0) ((5 + (16 * v705))) h707 (gh707) (by omega) (by omega) (by omega) (by omega) (by omega) (by omega) (by omega) (by omega) (by omega) (by omega) (((my_up_fld fh707 (by decide)).trans ek151_27.symm).trans (by omega)) (((my_up_fld fh707 (by decide)).trans ek151_33.symm).trans (by omega)) (((my_up_fld fh707 (by decide)).trans ev704.symm).trans (by omega)) ((my_up_self fh707).trans (by omega)) Tok_h707 Mq_h707 Wrd_h707 Wd9_h707 (by first | (intro q; exfalso; omega) | (intro _; assumption) | omega) (by first | (intro q; exfalso; omega) | (intro _ q; omega) | (intro _ q; exfalso; have w := Wrd_h707; unfold Wrd at w; omega) | omega) (by omega) (by omega) (by omega) (by first | (intro q; exfalso; omega) | (intro q; omega) | omega) (by first | (intro q; exfalso; omega) | (intro q; omega) | omega)
          ·
            show wp l rho (d + 4) 185 68 [(2, 151), (0, 0), (0, 1), (0, 0), (0, 0), (9, 0), (9, 0), (9, 0)] [(0, 1)] h Q
            rw [show wm 10 = 316695 from by decide] at xp693
            refine w_ifne (t := 88) gz_185_68 rfl (fun u711 => ?_) (fun u711 => by exfalso; omega)
            have psJ : h 151 7 = h 151 7 := (rfl : h 151 7 = h 151 7)
            have npsJ : sm h = sm h := rfl
            have ce712 : h 151 7 = k151_7 := ek151_7.symm
            have ce713 : h 151 8 = 0 := cf
            have ce714 : h 151 27 = k151_27 := ek151_27.symm
            have j167 : ∀ j : Int, h 167 j = h 167 j := fun _ => rfl
            have j6 := j167 6
            exact J88_0 (0) (1) (0) (0) (0) h (my_fr.rf) (by omega) (by omega) (by omega) (by omega) (by omega) (by omega) (by omega) (by omega) (by omega) (by omega) (ek151_27.symm.trans (by omega)) (ek151_33.symm.trans (by omega)) (ek151_7.symm.trans (by omega)) (cf.trans (by omega)) n_Tok n_Mq n_Wrd n_Wd9 (by first | (intro q; exfalso; omega) | (intro _; assumption) | omega) (by first | (intro q; exfalso; omega) | (intro _ q; omega) | (intro _ q; exfalso; have w := n_Wrd; unfold Wrd at w; omega) | omega) (by omega) (by omega) (by omega) (by first | (intro q; exfalso; omega) | (intro q; omega) | omega) (by first | (intro q; exfalso; omega) | (intro q; omega) | omega)
        ·
          show wp l rho (d + 4) 185 26 [(2, 151), (0, 0), (0, 1), (0, 0), (9, 0), (9, 0), (9, 0), (9, 0)] [(0, 1)] h Q
          rw [show wm 11 = 26801 from by decide] at xp684
          refine w_istore (ls' := [(2, 151), (0, 0), (0, 1), (0, 0), (0, 1), (9, 0), (9, 0), (9, 0)]) gz_185_26 gm_185 rfl rfl rfl ?_
          refine w_iload_n gz_185_28 rfl ?_
          refine w_ifne (t := 62) gz_185_29 rfl (fun u715 => by exfalso; omega) (fun u715 => ?_)
          refine w_iload_n gz_185_32 rfl ?_
          refine w_ifne (t := 62) gz_185_33 rfl (fun u716 => ?_) (fun u716 => by exfalso; omega)
          refine w_aload_n gz_185_62 rfl ?_
          refine w_bipush gz_185_63 (by decide) ?_
          refine w_inv (k := 0) (as := [(0, 10)]) (r := []) (x := 151) (ls0 := [(2, 151), (0, 10)]) gz_185_65 gm_177 rfl is_151 rd_10 rfl rfl rfl rfl rfl (c_Model_isWord9_f0 (d := (d + 3)) (x1 := 10) (by omega) (by omega) (cf.trans (by omega)) n_Wd9 (fun w717 xp718 => ?_) (fun w719 xp720 xp721 xp722 xp723 => ?_))
          ·
            show wp l rho (d + 4) 185 68 [(2, 151), (0, 0), (0, 1), (0, 0), (0, 1), (9, 0), (9, 0), (9, 0)] [(0, 0)] h Q
            rw [show wm 10 = 316695 from by decide] at xp718
            refine w_ifne (t := 88) gz_185_68 rfl (fun u724 => by exfalso; omega) (fun u724 => ?_)
            refine w_aload_n gz_185_71 rfl ?_
            refine w_getX (v := 167) gz_185_72 is_151 rd_10 rfl (by decide) rfl ?_
            refine w_bipush gz_185_75 (by decide) ?_
            refine w_iald gz_185_77 is_167 rd_66 (by omega) (by omega) (fun v726 ev726 pv726 qv726 => ?_)
            refine w_bipush gz_185_78 (by decide) ?_
            refine w_icne (t := 88) gz_185_80 rfl (fun u727 => ?_) (fun u727 => ?_)
            ·
              have psJ : h 151 7 = h 151 7 := (rfl : h 151 7 = h 151 7)
              have npsJ : sm h = sm h := rfl
              have ce728 : h 151 7 = k151_7 := ek151_7.symm
              have ce729 : h 151 8 = 0 := cf
              have ce730 : h 151 27 = k151_27 := ek151_27.symm
              have j167 : ∀ j : Int, h 167 j = h 167 j := fun _ => rfl
              have j6 := j167 6
              exact J88_0 (0) (1) (0) (1) (0) h (my_fr.rf) (by omega) (by omega) (by omega) (by omega) (by omega) (by omega) (by omega) (by omega) (by omega) (by omega) (ek151_27.symm.trans (by omega)) (ek151_33.symm.trans (by omega)) (ek151_7.symm.trans (by omega)) (cf.trans (by omega)) n_Tok n_Mq n_Wrd n_Wd9 (by first | (intro q; exfalso; omega) | (intro _; assumption) | omega) (by first | (intro q; exfalso; omega) | (intro _ q; omega) | (intro _ q; exfalso; have w := n_Wrd; unfold Wrd at w; omega) | omega) (by omega) (by omega) (by omega) (by first | (intro q; exfalso; omega) | (intro q; omega) | omega) (by first | (intro q; exfalso; omega) | (intro q; omega) | omega)
            ·
              refine w_aload_n gz_185_83 rfl ?_
              refine w_iconst gz_185_84 (by decide) ?_
              refine w_inv (k := 0) (as := [(0, 5)]) (r := []) (x := 151) (ls0 := [(2, 151), (0, 5)]) gz_185_85 gm_178 rfl is_151 rd_10 rfl rfl rfl rfl rfl ?_
              refine w_aload_n gz_178_0 rfl ?_
              refine v_getI (j := 8) gz_178_1 rfl is_151 rd_10 rfl (fun v731 ev731 pv731 qv731 => ?_)
              have zv731 := ev731.trans cf
              refine w_ifne (t := 25) gz_178_4 rfl (fun u732 => by exfalso; omega) (fun u732 => ?_)
              refine w_aload_n gz_178_7 rfl ?_
              refine w_iload_n gz_178_8 rfl ?_
              refine w_bipush gz_178_9 (by decide) ?_
              refine w_aload_n gz_178_11 rfl ?_
              refine w_getX (v := 154) gz_178_12 is_151 rd_10 rfl (by decide) rfl ?_
              refine w_aload_n gz_178_15 rfl ?_
              refine v_getI (j := 7) gz_178_16 rfl is_151 rd_10 rfl (fun v734 ev734 pv734 qv734 => ?_)
              have zv734 := ev734.trans ek151_7.symm
              refine w_iald gz_178_19 is_154 rd_53 (by omega) (by omega) (fun v735 ev735 pv735 qv735 => ?_)
              have nz736 : v735 = sP (sm h) (h 151 7) := by
                have q := ev735.trans (my_fr.at (j := v734) my_fr.rf is_154 rfl)
                rw [show (v734 : Int) = h 151 7 from by omega] at q
                exact q
              refine w_imul gz_178_20 ⟨by omega, by omega⟩ ?_
              refine w_iadd gz_178_21 ⟨by omega, by omega⟩ ?_
              refine v_putI (j := 8) gz_178_22 rfl is_151 rd_10 rfl (by omega) (by omega) rfl (fun h737 fh737 => ?_)
              have gh737 : my_fr [(10, 7), (10, 8), (10, 27), (66, -1), (67, -1), (68, -1), (69, -1), (70, -1), (71, -1), (72, -1), (73, -1), (74, -1), (75, -1), (77, -1), (78, -1), (79, -1)] h h737 := my_fr.up my_fr.rf is_151 fh737 rfl
              have Tok_h737 : Tok h737 := Tok_ag (my_ag.up fh737 is_151 rfl) n_Tok
              have Mq_h737 : Mq h737 wv := Mq_ag (my_ag.up fh737 is_151 rfl) n_Mq
              have Wrd_h737 : Wrd h737 := Wrd_ag (my_ag.up fh737 is_151 rfl) n_Wrd
              have Wd9_h737 : Wd9 h737 := Wd9_ag (my_ag.up fh737 is_151 rfl) n_Wd9
              refine w_vret gz_178_25 gm_178 ?_
              show wp l rho (d + 4) 185 88 [(2, 151), (0, 0), (0, 1), (0, 0), (0, 1), (9, 0), (9, 0), (9, 0)] [] h737 Q
              have psJ : h737 151 7 = h 151 7 := ((my_up_fld fh737 (by decide)).trans (rfl : h 151 7 = h 151 7))
              have npsJ : sm h737 = sm h := sm_eq (fun j => my_fr.at gh737 is_153 rfl) (fun j => my_fr.at gh737 is_154 rfl) (fun j => my_fr.at gh737 is_155 rfl)
              have ce738 : h737 151 7 = v734 := ((my_up_fld fh737 (by decide)).trans ev734.symm)
              have ce739 : h737 151 8 = (5 + (16 * v735)) := (my_up_self fh737)
              have ce740 : h737 151 27 = k151_27 := ((my_up_fld fh737 (by decide)).trans ek151_27.symm)
              have j167 : ∀ j : Int, h737 167 j = h 167 j := fun j => ((my_up_role fh737 is_167 is_151 rfl).trans (rfl : h 167 j = h 167 j))
              have j6 := j167 6
              exact J88_0 (0) (1) (0) (1) ((5 + (16 * v735))) h737 (gh737) (by omega) (by omega) (by omega) (by omega) (by omega) (by omega) (by omega) (by omega) (by omega) (by omega) (((my_up_fld fh737 (by decide)).trans ek151_27.symm).trans (by omega)) (((my_up_fld fh737 (by decide)).trans ek151_33.symm).trans (by omega)) (((my_up_fld fh737 (by decide)).trans ev734.symm).trans (by omega)) ((my_up_self fh737).trans (by omega)) Tok_h737 Mq_h737 Wrd_h737 Wd9_h737 (by first | (intro q; exfalso; omega) | (intro _; assumption) | omega) (by first | (intro q; exfalso; omega) | (intro _ q; omega) | (intro _ q; exfalso; have w := Wrd_h737; unfold Wrd at w; omega) | omega) (by omega) (by omega) (by omega) (by first | (intro q; exfalso; omega) | (intro q; omega) | omega) (by first | (intro q; exfalso; omega) | (intro q; omega) | omega)
          ·
            show wp l rho (d + 4) 185 68 [(2, 151), (0, 0), (0, 1), (0, 0), (0, 1), (9, 0), (9, 0), (9, 0)] [(0, 1)] h Q
            rw [show wm 10 = 316695 from by decide] at xp723
            refine w_ifne (t := 88) gz_185_68 rfl (fun u741 => ?_) (fun u741 => by exfalso; omega)
            have psJ : h 151 7 = h 151 7 := (rfl : h 151 7 = h 151 7)
            have npsJ : sm h = sm h := rfl
            have ce742 : h 151 7 = k151_7 := ek151_7.symm
            have ce743 : h 151 8 = 0 := cf
            have ce744 : h 151 27 = k151_27 := ek151_27.symm
            have j167 : ∀ j : Int, h 167 j = h 167 j := fun _ => rfl
            have j6 := j167 6
            exact J88_0 (0) (1) (0) (1) (0) h (my_fr.rf) (by omega) (by omega) (by omega) (by omega) (by omega) (by omega) (by omega) (by omega) (by omega) (by omega) (ek151_27.symm.trans (by omega)) (ek151_33.symm.trans (by omega)) (ek151_7.symm.trans (by omega)) (cf.trans (by omega)) n_Tok n_Mq n_Wrd n_Wd9 (by first | (intro q; exfalso; omega) | (intro _; assumption) | omega) (by first | (intro q; exfalso; omega) | (intro _ q; omega) | (intro _ q; exfalso; have w := n_Wrd; unfold Wrd at w; omega) | omega) (by omega) (by omega) (by omega) (by first | (intro q; exfalso; omega) | (intro q; omega) | omega) (by first | (intro q; exfalso; omega) | (intro q; omega) | omega)
      ·
        show wp l rho (d + 4) 185 19 [(2, 151), (0, 0), (0, 1), (9, 0), (9, 0), (9, 0), (9, 0), (9, 0)] [(0, 1)] h Q
        rw [show wm 8 = 527412 from by decide] at xp677
        refine w_istore_n (ls' := [(2, 151), (0, 0), (0, 1), (0, 1), (9, 0), (9, 0), (9, 0), (9, 0)]) gz_185_19 gm_185 rfl rfl rfl ?_
        refine w_aload_n gz_185_20 rfl ?_
        refine w_bipush gz_185_21 (by decide) ?_
        refine w_inv (k := 0) (as := [(0, 11)]) (r := []) (x := 151) (ls0 := [(2, 151), (0, 11)]) gz_185_23 gm_177 rfl is_151 rd_10 rfl rfl rfl rfl rfl (c_Model_isWord9_f0 (d := (d + 3)) (x1 := 11) (by omega) (by omega) (cf.trans (by omega)) n_Wd9 (fun w745 xp746 => ?_) (fun w747 xp748 xp749 xp750 xp751 => ?_))
        ·
          show wp l rho (d + 4) 185 26 [(2, 151), (0, 0), (0, 1), (0, 1), (9, 0), (9, 0), (9, 0), (9, 0)] [(0, 0)] h Q
          rw [show wm 11 = 26801 from by decide] at xp746
          refine w_istore (ls' := [(2, 151), (0, 0), (0, 1), (0, 1), (0, 0), (9, 0), (9, 0), (9, 0)]) gz_185_26 gm_185 rfl rfl rfl ?_
          refine w_iload_n gz_185_28 rfl ?_
          refine w_ifne (t := 62) gz_185_29 rfl (fun u752 => by exfalso; omega) (fun u752 => ?_)
          refine w_iload_n gz_185_32 rfl ?_
          refine w_ifne (t := 62) gz_185_33 rfl (fun u753 => ?_) (fun u753 => by exfalso; omega)
          refine w_aload_n gz_185_62 rfl ?_
          refine w_bipush gz_185_63 (by decide) ?_
          refine w_inv (k := 0) (as := [(0, 10)]) (r := []) (x := 151) (ls0 := [(2, 151), (0, 10)]) gz_185_65 gm_177 rfl is_151 rd_10 rfl rfl rfl rfl rfl (c_Model_isWord9_f0 (d := (d + 3)) (x1 := 10) (by omega) (by omega) (cf.trans (by omega)) n_Wd9 (fun w754 xp755 => ?_) (fun w756 xp757 xp758 xp759 xp760 => ?_))
          ·
            show wp l rho (d + 4) 185 68 [(2, 151), (0, 0), (0, 1), (0, 1), (0, 0), (9, 0), (9, 0), (9, 0)] [(0, 0)] h Q
            rw [show wm 10 = 316695 from by decide] at xp755
            refine w_ifne (t := 88) gz_185_68 rfl (fun u761 => by exfalso; omega) (fun u761 => ?_)
            refine w_aload_n gz_185_71 rfl ?_
            refine w_getX (v := 167) gz_185_72 is_151 rd_10 rfl (by decide) rfl ?_
            refine w_bipush gz_185_75 (by decide) ?_
            refine w_iald gz_185_77 is_167 rd_66 (by omega) (by omega) (fun v763 ev763 pv763 qv763 => ?_)
            refine w_bipush gz_185_78 (by decide) ?_
            refine w_icne (t := 88) gz_185_80 rfl (fun u764 => ?_) (fun u764 => ?_)
            ·
              have psJ : h 151 7 = h 151 7 := (rfl : h 151 7 = h 151 7)
              have npsJ : sm h = sm h := rfl
              have ce765 : h 151 7 = k151_7 := ek151_7.symm
              have ce766 : h 151 8 = 0 := cf
              have ce767 : h 151 27 = k151_27 := ek151_27.symm
              have j167 : ∀ j : Int, h 167 j = h 167 j := fun _ => rfl
              have j6 := j167 6
              exact J88_0 (0) (1) (1) (0) (0) h (my_fr.rf) (by omega) (by omega) (by omega) (by omega) (by omega) (by omega) (by omega) (by omega) (by omega) (by omega) (ek151_27.symm.trans (by omega)) (ek151_33.symm.trans (by omega)) (ek151_7.symm.trans (by omega)) (cf.trans (by omega)) n_Tok n_Mq n_Wrd n_Wd9 (by first | (intro q; exfalso; omega) | (intro _; assumption) | omega) (by first | (intro q; exfalso; omega) | (intro _ q; omega) | (intro _ q; exfalso; have w := n_Wrd; unfold Wrd at w; omega) | omega) (by omega) (by omega) (by omega) (by first | (intro q; exfalso; omega) | (intro q; omega) | omega) (by first | (intro q; exfalso; omega) | (intro q; omega) | omega)
            ·
              refine w_aload_n gz_185_83 rfl ?_
              refine w_iconst gz_185_84 (by decide) ?_
              refine w_inv (k := 0) (as := [(0, 5)]) (r := []) (x := 151) (ls0 := [(2, 151), (0, 5)]) gz_185_85 gm_178 rfl is_151 rd_10 rfl rfl rfl rfl rfl ?_
              refine w_aload_n gz_178_0 rfl ?_
              refine v_getI (j := 8) gz_178_1 rfl is_151 rd_10 rfl (fun v768 ev768 pv768 qv768 => ?_)
              have zv768 := ev768.trans cf
              refine w_ifne (t := 25) gz_178_4 rfl (fun u769 => by exfalso; omega) (fun u769 => ?_)
              refine w_aload_n gz_178_7 rfl ?_
              refine w_iload_n gz_178_8 rfl ?_
              refine w_bipush gz_178_9 (by decide) ?_
              refine w_aload_n gz_178_11 rfl ?_
              refine w_getX (v := 154) gz_178_12 is_151 rd_10 rfl (by decide) rfl ?_
              refine w_aload_n gz_178_15 rfl ?_
              refine v_getI (j := 7) gz_178_16 rfl is_151 rd_10 rfl (fun v771 ev771 pv771 qv771 => ?_)
              have zv771 := ev771.trans ek151_7.symm
              refine w_iald gz_178_19 is_154 rd_53 (by omega) (by omega) (fun v772 ev772 pv772 qv772 => ?_)
              have nz773 : v772 = sP (sm h) (h 151 7) := by
                have q := ev772.trans (my_fr.at (j := v771) my_fr.rf is_154 rfl)
                rw [show (v771 : Int) = h 151 7 from by omega] at q
                exact q
              refine w_imul gz_178_20 ⟨by omega, by omega⟩ ?_
              refine w_iadd gz_178_21 ⟨by omega, by omega⟩ ?_
              refine v_putI (j := 8) gz_178_22 rfl is_151 rd_10 rfl (by omega) (by omega) rfl (fun h774 fh774 => ?_)
              have gh774 : my_fr [(10, 7), (10, 8), (10, 27), (66, -1), (67, -1), (68, -1), (69, -1), (70, -1), (71, -1), (72, -1), (73, -1), (74, -1), (75, -1), (77, -1), (78, -1), (79, -1)] h h774 := my_fr.up my_fr.rf is_151 fh774 rfl
              have Tok_h774 : Tok h774 := Tok_ag (my_ag.up fh774 is_151 rfl) n_Tok
              have Mq_h774 : Mq h774 wv := Mq_ag (my_ag.up fh774 is_151 rfl) n_Mq
              have Wrd_h774 : Wrd h774 := Wrd_ag (my_ag.up fh774 is_151 rfl) n_Wrd
              have Wd9_h774 : Wd9 h774 := Wd9_ag (my_ag.up fh774 is_151 rfl) n_Wd9
              refine w_vret gz_178_25 gm_178 ?_
              show wp l rho (d + 4) 185 88 [(2, 151), (0, 0), (0, 1), (0, 1), (0, 0), (9, 0), (9, 0), (9, 0)] [] h774 Q
              have psJ : h774 151 7 = h 151 7 := ((my_up_fld fh774 (by decide)).trans (rfl : h 151 7 = h 151 7))
              have npsJ : sm h774 = sm h := sm_eq (fun j => my_fr.at gh774 is_153 rfl) (fun j => my_fr.at gh774 is_154 rfl) (fun j => my_fr.at gh774 is_155 rfl)
              have ce775 : h774 151 7 = v771 := ((my_up_fld fh774 (by decide)).trans ev771.symm)
              have ce776 : h774 151 8 = (5 + (16 * v772)) := (my_up_self fh774)
              have ce777 : h774 151 27 = k151_27 := ((my_up_fld fh774 (by decide)).trans ek151_27.symm)
              have j167 : ∀ j : Int, h774 167 j = h 167 j := fun j => ((my_up_role fh774 is_167 is_151 rfl).trans (rfl : h 167 j = h 167 j))
              have j6 := j167 6
              exact J88_0 (0) (1) (1) (0) ((5 + (16 * v772))) h774 (gh774) (by omega) (by omega) (by omega) (by omega) (by omega) (by omega) (by omega) (by omega) (by omega) (by omega) (((my_up_fld fh774 (by decide)).trans ek151_27.symm).trans (by omega)) (((my_up_fld fh774 (by decide)).trans ek151_33.symm).trans (by omega)) (((my_up_fld fh774 (by decide)).trans ev771.symm).trans (by omega)) ((my_up_self fh774).trans (by omega)) Tok_h774 Mq_h774 Wrd_h774 Wd9_h774 (by first | (intro q; exfalso; omega) | (intro _; assumption) | omega) (by first | (intro q; exfalso; omega) | (intro _ q; omega) | (intro _ q; exfalso; have w := Wrd_h774; unfold Wrd at w; omega) | omega) (by omega) (by omega) (by omega) (by first | (intro q; exfalso; omega) | (intro q; omega) | omega) (by first | (intro q; exfalso; omega) | (intro q; omega) | omega)
          ·
            show wp l rho (d + 4) 185 68 [(2, 151), (0, 0), (0, 1), (0, 1), (0, 0), (9, 0), (9, 0), (9, 0)] [(0, 1)] h Q
            rw [show wm 10 = 316695 from by decide] at xp760
            refine w_ifne (t := 88) gz_185_68 rfl (fun u778 => ?_) (fun u778 => by exfalso; omega)
            have psJ : h 151 7 = h 151 7 := (rfl : h 151 7 = h 151 7)
            have npsJ : sm h = sm h := rfl
            have ce779 : h 151 7 = k151_7 := ek151_7.symm
            have ce780 : h 151 8 = 0 := cf
            have ce781 : h 151 27 = k151_27 := ek151_27.symm
            have j167 : ∀ j : Int, h 167 j = h 167 j := fun _ => rfl
            have j6 := j167 6
            exact J88_0 (0) (1) (1) (0) (0) h (my_fr.rf) (by omega) (by omega) (by omega) (by omega) (by omega) (by omega) (by omega) (by omega) (by omega) (by omega) (ek151_27.symm.trans (by omega)) (ek151_33.symm.trans (by omega)) (ek151_7.symm.trans (by omega)) (cf.trans (by omega)) n_Tok n_Mq n_Wrd n_Wd9 (by first | (intro q; exfalso; omega) | (intro _; assumption) | omega) (by first | (intro q; exfalso; omega) | (intro _ q; omega) | (intro _ q; exfalso; have w := n_Wrd; unfold Wrd at w; omega) | omega) (by omega) (by omega) (by omega) (by first | (intro q; exfalso; omega) | (intro q; omega) | omega) (by first | (intro q; exfalso; omega) | (intro q; omega) | omega)
        ·
          show wp l rho (d + 4) 185 26 [(2, 151), (0, 0), (0, 1), (0, 1), (9, 0), (9, 0), (9, 0), (9, 0)] [(0, 1)] h Q
          rw [show wm 11 = 26801 from by decide] at xp751
          refine w_istore (ls' := [(2, 151), (0, 0), (0, 1), (0, 1), (0, 1), (9, 0), (9, 0), (9, 0)]) gz_185_26 gm_185 rfl rfl rfl ?_
          refine w_iload_n gz_185_28 rfl ?_
          refine w_ifne (t := 62) gz_185_29 rfl (fun u782 => by exfalso; omega) (fun u782 => ?_)
          refine w_iload_n gz_185_32 rfl ?_
          refine w_ifne (t := 62) gz_185_33 rfl (fun u783 => ?_) (fun u783 => by exfalso; omega)
          refine w_aload_n gz_185_62 rfl ?_
          refine w_bipush gz_185_63 (by decide) ?_
          refine w_inv (k := 0) (as := [(0, 10)]) (r := []) (x := 151) (ls0 := [(2, 151), (0, 10)]) gz_185_65 gm_177 rfl is_151 rd_10 rfl rfl rfl rfl rfl (c_Model_isWord9_f0 (d := (d + 3)) (x1 := 10) (by omega) (by omega) (cf.trans (by omega)) n_Wd9 (fun w784 xp785 => ?_) (fun w786 xp787 xp788 xp789 xp790 => ?_))
          ·
            show wp l rho (d + 4) 185 68 [(2, 151), (0, 0), (0, 1), (0, 1), (0, 1), (9, 0), (9, 0), (9, 0)] [(0, 0)] h Q
            rw [show wm 10 = 316695 from by decide] at xp785
            refine w_ifne (t := 88) gz_185_68 rfl (fun u791 => by exfalso; omega) (fun u791 => ?_)
            refine w_aload_n gz_185_71 rfl ?_
            refine w_getX (v := 167) gz_185_72 is_151 rd_10 rfl (by decide) rfl ?_
            refine w_bipush gz_185_75 (by decide) ?_
            refine w_iald gz_185_77 is_167 rd_66 (by omega) (by omega) (fun v793 ev793 pv793 qv793 => ?_)
            refine w_bipush gz_185_78 (by decide) ?_
            refine w_icne (t := 88) gz_185_80 rfl (fun u794 => ?_) (fun u794 => ?_)
            ·
              have psJ : h 151 7 = h 151 7 := (rfl : h 151 7 = h 151 7)
              have npsJ : sm h = sm h := rfl
              have ce795 : h 151 7 = k151_7 := ek151_7.symm
              have ce796 : h 151 8 = 0 := cf
              have ce797 : h 151 27 = k151_27 := ek151_27.symm
              have j167 : ∀ j : Int, h 167 j = h 167 j := fun _ => rfl
              have j6 := j167 6
              exact J88_0 (0) (1) (1) (1) (0) h (my_fr.rf) (by omega) (by omega) (by omega) (by omega) (by omega) (by omega) (by omega) (by omega) (by omega) (by omega) (ek151_27.symm.trans (by omega)) (ek151_33.symm.trans (by omega)) (ek151_7.symm.trans (by omega)) (cf.trans (by omega)) n_Tok n_Mq n_Wrd n_Wd9 (by first | (intro q; exfalso; omega) | (intro _; assumption) | omega) (by first | (intro q; exfalso; omega) | (intro _ q; omega) | (intro _ q; exfalso; have w := n_Wrd; unfold Wrd at w; omega) | omega) (by omega) (by omega) (by omega) (by first | (intro q; exfalso; omega) | (intro q; omega) | omega) (by first | (intro q; exfalso; omega) | (intro q; omega) | omega)
            ·
              refine w_aload_n gz_185_83 rfl ?_
              refine w_iconst gz_185_84 (by decide) ?_
              refine w_inv (k := 0) (as := [(0, 5)]) (r := []) (x := 151) (ls0 := [(2, 151), (0, 5)]) gz_185_85 gm_178 rfl is_151 rd_10 rfl rfl rfl rfl rfl ?_
              refine w_aload_n gz_178_0 rfl ?_
              refine v_getI (j := 8) gz_178_1 rfl is_151 rd_10 rfl (fun v798 ev798 pv798 qv798 => ?_)
              have zv798 := ev798.trans cf
              refine w_ifne (t := 25) gz_178_4 rfl (fun u799 => by exfalso; omega) (fun u799 => ?_)
              refine w_aload_n gz_178_7 rfl ?_
              refine w_iload_n gz_178_8 rfl ?_
              refine w_bipush gz_178_9 (by decide) ?_
              refine w_aload_n gz_178_11 rfl ?_
              refine w_getX (v := 154) gz_178_12 is_151 rd_10 rfl (by decide) rfl ?_
              refine w_aload_n gz_178_15 rfl ?_
              refine v_getI (j := 7) gz_178_16 rfl is_151 rd_10 rfl (fun v801 ev801 pv801 qv801 => ?_)
              have zv801 := ev801.trans ek151_7.symm
              refine w_iald gz_178_19 is_154 rd_53 (by omega) (by omega) (fun v802 ev802 pv802 qv802 => ?_)
              have nz803 : v802 = sP (sm h) (h 151 7) := by
                have q := ev802.trans (my_fr.at (j := v801) my_fr.rf is_154 rfl)
                rw [show (v801 : Int) = h 151 7 from by omega] at q
                exact q
              refine w_imul gz_178_20 ⟨by omega, by omega⟩ ?_
              refine w_iadd gz_178_21 ⟨by omega, by omega⟩ ?_
              refine v_putI (j := 8) gz_178_22 rfl is_151 rd_10 rfl (by omega) (by omega) rfl (fun h804 fh804 => ?_)
              have gh804 : my_fr [(10, 7), (10, 8), (10, 27), (66, -1), (67, -1), (68, -1), (69, -1), (70, -1), (71, -1), (72, -1), (73, -1), (74, -1), (75, -1), (77, -1), (78, -1), (79, -1)] h h804 := my_fr.up my_fr.rf is_151 fh804 rfl
              have Tok_h804 : Tok h804 := Tok_ag (my_ag.up fh804 is_151 rfl) n_Tok
              have Mq_h804 : Mq h804 wv := Mq_ag (my_ag.up fh804 is_151 rfl) n_Mq
              have Wrd_h804 : Wrd h804 := Wrd_ag (my_ag.up fh804 is_151 rfl) n_Wrd
              have Wd9_h804 : Wd9 h804 := Wd9_ag (my_ag.up fh804 is_151 rfl) n_Wd9
              refine w_vret gz_178_25 gm_178 ?_
              show wp l rho (d + 4) 185 88 [(2, 151), (0, 0), (0, 1), (0, 1), (0, 1), (9, 0), (9, 0), (9, 0)] [] h804 Q
              have psJ : h804 151 7 = h 151 7 := ((my_up_fld fh804 (by decide)).trans (rfl : h 151 7 = h 151 7))
              have npsJ : sm h804 = sm h := sm_eq (fun j => my_fr.at gh804 is_153 rfl) (fun j => my_fr.at gh804 is_154 rfl) (fun j => my_fr.at gh804 is_155 rfl)
              have ce805 : h804 151 7 = v801 := ((my_up_fld fh804 (by decide)).trans ev801.symm)
              have ce806 : h804 151 8 = (5 + (16 * v802)) := (my_up_self fh804)
              have ce807 : h804 151 27 = k151_27 := ((my_up_fld fh804 (by decide)).trans ek151_27.symm)
              have j167 : ∀ j : Int, h804 167 j = h 167 j := fun j => ((my_up_role fh804 is_167 is_151 rfl).trans (rfl : h 167 j = h 167 j))
              have j6 := j167 6
              exact J88_0 (0) (1) (1) (1) ((5 + (16 * v802))) h804 (gh804) (by omega) (by omega) (by omega) (by omega) (by omega) (by omega) (by omega) (by omega) (by omega) (by omega) (((my_up_fld fh804 (by decide)).trans ek151_27.symm).trans (by omega)) (((my_up_fld fh804 (by decide)).trans ek151_33.symm).trans (by omega)) (((my_up_fld fh804 (by decide)).trans ev801.symm).trans (by omega)) ((my_up_self fh804).trans (by omega)) Tok_h804 Mq_h804 Wrd_h804 Wd9_h804 (by first | (intro q; exfalso; omega) | (intro _; assumption) | omega) (by first | (intro q; exfalso; omega) | (intro _ q; omega) | (intro _ q; exfalso; have w := Wrd_h804; unfold Wrd at w; omega) | omega) (by omega) (by omega) (by omega) (by first | (intro q; exfalso; omega) | (intro q; omega) | omega) (by first | (intro q; exfalso; omega) | (intro q; omega) | omega)
          ·
            show wp l rho (d + 4) 185 68 [(2, 151), (0, 0), (0, 1), (0, 1), (0, 1), (9, 0), (9, 0), (9, 0)] [(0, 1)] h Q
            rw [show wm 10 = 316695 from by decide] at xp790
            refine w_ifne (t := 88) gz_185_68 rfl (fun u808 => ?_) (fun u808 => by exfalso; omega)
            have psJ : h 151 7 = h 151 7 := (rfl : h 151 7 = h 151 7)
            have npsJ : sm h = sm h := rfl
            have ce809 : h 151 7 = k151_7 := ek151_7.symm
            have ce810 : h 151 8 = 0 := cf
            have ce811 : h 151 27 = k151_27 := ek151_27.symm
            have j167 : ∀ j : Int, h 167 j = h 167 j := fun _ => rfl
            have j6 := j167 6
            exact J88_0 (0) (1) (1) (1) (0) h (my_fr.rf) (by omega) (by omega) (by omega) (by omega) (by omega) (by omega) (by omega) (by omega) (by omega) (by omega) (ek151_27.symm.trans (by omega)) (ek151_33.symm.trans (by omega)) (ek151_7.symm.trans (by omega)) (cf.trans (by omega)) n_Tok n_Mq n_Wrd n_Wd9 (by first | (intro q; exfalso; omega) | (intro _; assumption) | omega) (by first | (intro q; exfalso; omega) | (intro _ q; omega) | (intro _ q; exfalso; have w := n_Wrd; unfold Wrd at w; omega) | omega) (by omega) (by omega) (by omega) (by first | (intro q; exfalso; omega) | (intro q; omega) | omega) (by first | (intro q; exfalso; omega) | (intro q; omega) | omega)
  ·
    show wp l rho (d + 4) 185 5 [(2, 151), (9, 0), (9, 0), (9, 0), (9, 0), (9, 0), (9, 0), (9, 0)] [(0, 1)] h Q
    rw [show wm 3 = 4904 from by decide] at xp497
    refine w_istore_n (ls' := [(2, 151), (0, 1), (9, 0), (9, 0), (9, 0), (9, 0), (9, 0), (9, 0)]) gz_185_5 gm_185 rfl rfl rfl ?_
    refine w_aload_n gz_185_6 rfl ?_
    refine w_bipush gz_185_7 (by decide) ?_
    refine w_inv (k := 0) (as := [(0, 7)]) (r := []) (x := 151) (ls0 := [(2, 151), (0, 7)]) gz_185_9 gm_177 rfl is_151 rd_10 rfl rfl rfl rfl rfl (c_Model_isWord9_f0 (d := (d + 3)) (x1 := 7) (by omega) (by omega) (cf.trans (by omega)) n_Wd9 (fun w812 xp813 => ?_) (fun w814 xp815 xp816 xp817 xp818 => ?_))
    ·
      show wp l rho (d + 4) 185 12 [(2, 151), (0, 1), (9, 0), (9, 0), (9, 0), (9, 0), (9, 0), (9, 0)] [(0, 0)] h Q
      rw [show wm 7 = 8422 from by decide] at xp813
      refine w_istore_n (ls' := [(2, 151), (0, 1), (0, 0), (9, 0), (9, 0), (9, 0), (9, 0), (9, 0)]) gz_185_12 gm_185 rfl rfl rfl ?_
      refine w_aload_n gz_185_13 rfl ?_
      refine w_bipush gz_185_14 (by decide) ?_
      refine w_inv (k := 0) (as := [(0, 8)]) (r := []) (x := 151) (ls0 := [(2, 151), (0, 8)]) gz_185_16 gm_177 rfl is_151 rd_10 rfl rfl rfl rfl rfl (c_Model_isWord9_f0 (d := (d + 3)) (x1 := 8) (by omega) (by omega) (cf.trans (by omega)) n_Wd9 (fun w819 xp820 => ?_) (fun w821 xp822 xp823 xp824 xp825 => ?_))
      ·
        show wp l rho (d + 4) 185 19 [(2, 151), (0, 1), (0, 0), (9, 0), (9, 0), (9, 0), (9, 0), (9, 0)] [(0, 0)] h Q
        rw [show wm 8 = 527412 from by decide] at xp820
        refine w_istore_n (ls' := [(2, 151), (0, 1), (0, 0), (0, 0), (9, 0), (9, 0), (9, 0), (9, 0)]) gz_185_19 gm_185 rfl rfl rfl ?_
        refine w_aload_n gz_185_20 rfl ?_
        refine w_bipush gz_185_21 (by decide) ?_
        refine w_inv (k := 0) (as := [(0, 11)]) (r := []) (x := 151) (ls0 := [(2, 151), (0, 11)]) gz_185_23 gm_177 rfl is_151 rd_10 rfl rfl rfl rfl rfl (c_Model_isWord9_f0 (d := (d + 3)) (x1 := 11) (by omega) (by omega) (cf.trans (by omega)) n_Wd9 (fun w826 xp827 => ?_) (fun w828 xp829 xp830 xp831 xp832 => ?_))
        ·
          show wp l rho (d + 4) 185 26 [(2, 151), (0, 1), (0, 0), (0, 0), (9, 0), (9, 0), (9, 0), (9, 0)] [(0, 0)] h Q
          rw [show wm 11 = 26801 from by decide] at xp827
          refine w_istore (ls' := [(2, 151), (0, 1), (0, 0), (0, 0), (0, 0), (9, 0), (9, 0), (9, 0)]) gz_185_26 gm_185 rfl rfl rfl ?_
          refine w_iload_n gz_185_28 rfl ?_
          refine w_ifne (t := 62) gz_185_29 rfl (fun u833 => ?_) (fun u833 => by exfalso; omega)
          refine w_aload_n gz_185_62 rfl ?_
          refine w_bipush gz_185_63 (by decide) ?_
          refine w_inv (k := 0) (as := [(0, 10)]) (r := []) (x := 151) (ls0 := [(2, 151), (0, 10)]) gz_185_65 gm_177 rfl is_151 rd_10 rfl rfl rfl rfl rfl (c_Model_isWord9_f0 (d := (d + 3)) (x1 := 10) (by omega) (by omega) (cf.trans (by omega)) n_Wd9 (fun w834 xp835 => ?_) (fun w836 xp837 xp838 xp839 xp840 => ?_))
          ·
            show wp l rho (d + 4) 185 68 [(2, 151), (0, 1), (0, 0), (0, 0), (0, 0), (9, 0), (9, 0), (9, 0)] [(0, 0)] h Q
            rw [show wm 10 = 316695 from by decide] at xp835
            refine w_ifne (t := 88) gz_185_68 rfl (fun u841 => by exfalso; omega) (fun u841 => ?_)
            refine w_aload_n gz_185_71 rfl ?_
            refine w_getX (v := 167) gz_185_72 is_151 rd_10 rfl (by decide) rfl ?_
            refine w_bipush gz_185_75 (by decide) ?_
            refine w_iald gz_185_77 is_167 rd_66 (by omega) (by omega) (fun v843 ev843 pv843 qv843 => ?_)
            refine w_bipush gz_185_78 (by decide) ?_
            refine w_icne (t := 88) gz_185_80 rfl (fun u844 => ?_) (fun u844 => ?_)
            ·
              have psJ : h 151 7 = h 151 7 := (rfl : h 151 7 = h 151 7)
              have npsJ : sm h = sm h := rfl
              have ce845 : h 151 7 = k151_7 := ek151_7.symm
              have ce846 : h 151 8 = 0 := cf
              have ce847 : h 151 27 = k151_27 := ek151_27.symm
              have j167 : ∀ j : Int, h 167 j = h 167 j := fun _ => rfl
              have j6 := j167 6
              exact J88_0 (1) (0) (0) (0) (0) h (my_fr.rf) (by omega) (by omega) (by omega) (by omega) (by omega) (by omega) (by omega) (by omega) (by omega) (by omega) (ek151_27.symm.trans (by omega)) (ek151_33.symm.trans (by omega)) (ek151_7.symm.trans (by omega)) (cf.trans (by omega)) n_Tok n_Mq n_Wrd n_Wd9 (by first | (intro q; exfalso; omega) | (intro _; assumption) | omega) (by first | (intro q; exfalso; omega) | (intro _ q; omega) | (intro _ q; exfalso; have w := n_Wrd; unfold Wrd at w; omega) | omega) (by omega) (by omega) (by omega) (by first | (intro q; exfalso; omega) | (intro q; omega) | omega) (by first | (intro q; exfalso; omega) | (intro q; omega) | omega)
            ·
              refine w_aload_n gz_185_83 rfl ?_
              refine w_iconst gz_185_84 (by decide) ?_
              refine w_inv (k := 0) (as := [(0, 5)]) (r := []) (x := 151) (ls0 := [(2, 151), (0, 5)]) gz_185_85 gm_178 rfl is_151 rd_10 rfl rfl rfl rfl rfl ?_
              refine w_aload_n gz_178_0 rfl ?_
              refine v_getI (j := 8) gz_178_1 rfl is_151 rd_10 rfl (fun v848 ev848 pv848 qv848 => ?_)
              have zv848 := ev848.trans cf
              refine w_ifne (t := 25) gz_178_4 rfl (fun u849 => by exfalso; omega) (fun u849 => ?_)
              refine w_aload_n gz_178_7 rfl ?_
              refine w_iload_n gz_178_8 rfl ?_
              refine w_bipush gz_178_9 (by decide) ?_
              refine w_aload_n gz_178_11 rfl ?_
              refine w_getX (v := 154) gz_178_12 is_151 rd_10 rfl (by decide) rfl ?_
              refine w_aload_n gz_178_15 rfl ?_
              refine v_getI (j := 7) gz_178_16 rfl is_151 rd_10 rfl (fun v851 ev851 pv851 qv851 => ?_)
              have zv851 := ev851.trans ek151_7.symm
              refine w_iald gz_178_19 is_154 rd_53 (by omega) (by omega) (fun v852 ev852 pv852 qv852 => ?_)
              have nz853 : v852 = sP (sm h) (h 151 7) := by
                have q := ev852.trans (my_fr.at (j := v851) my_fr.rf is_154 rfl)
                rw [show (v851 : Int) = h 151 7 from by omega] at q
                exact q
              refine w_imul gz_178_20 ⟨by omega, by omega⟩ ?_
              refine w_iadd gz_178_21 ⟨by omega, by omega⟩ ?_
              refine v_putI (j := 8) gz_178_22 rfl is_151 rd_10 rfl (by omega) (by omega) rfl (fun h854 fh854 => ?_)
              have gh854 : my_fr [(10, 7), (10, 8), (10, 27), (66, -1), (67, -1), (68, -1), (69, -1), (70, -1), (71, -1), (72, -1), (73, -1), (74, -1), (75, -1), (77, -1), (78, -1), (79, -1)] h h854 := my_fr.up my_fr.rf is_151 fh854 rfl
              have Tok_h854 : Tok h854 := Tok_ag (my_ag.up fh854 is_151 rfl) n_Tok
              have Mq_h854 : Mq h854 wv := Mq_ag (my_ag.up fh854 is_151 rfl) n_Mq
              have Wrd_h854 : Wrd h854 := Wrd_ag (my_ag.up fh854 is_151 rfl) n_Wrd
              have Wd9_h854 : Wd9 h854 := Wd9_ag (my_ag.up fh854 is_151 rfl) n_Wd9
              refine w_vret gz_178_25 gm_178 ?_
              show wp l rho (d + 4) 185 88 [(2, 151), (0, 1), (0, 0), (0, 0), (0, 0), (9, 0), (9, 0), (9, 0)] [] h854 Q
              have psJ : h854 151 7 = h 151 7 := ((my_up_fld fh854 (by decide)).trans (rfl : h 151 7 = h 151 7))
              have npsJ : sm h854 = sm h := sm_eq (fun j => my_fr.at gh854 is_153 rfl) (fun j => my_fr.at gh854 is_154 rfl) (fun j => my_fr.at gh854 is_155 rfl)
              have ce855 : h854 151 7 = v851 := ((my_up_fld fh854 (by decide)).trans ev851.symm)
              have ce856 : h854 151 8 = (5 + (16 * v852)) := (my_up_self fh854)
              have ce857 : h854 151 27 = k151_27 := ((my_up_fld fh854 (by decide)).trans ek151_27.symm)
              have j167 : ∀ j : Int, h854 167 j = h 167 j := fun j => ((my_up_role fh854 is_167 is_151 rfl).trans (rfl : h 167 j = h 167 j))
              have j6 := j167 6
              exact J88_0 (1) (0) (0) (0) ((5 + (16 * v852))) h854 (gh854) (by omega) (by omega) (by omega) (by omega) (by omega) (by omega) (by omega) (by omega) (by omega) (by omega) (((my_up_fld fh854 (by decide)).trans ek151_27.symm).trans (by omega)) (((my_up_fld fh854 (by decide)).trans ek151_33.symm).trans (by omega)) (((my_up_fld fh854 (by decide)).trans ev851.symm).trans (by omega)) ((my_up_self fh854).trans (by omega)) Tok_h854 Mq_h854 Wrd_h854 Wd9_h854 (by first | (intro q; exfalso; omega) | (intro _; assumption) | omega) (by first | (intro q; exfalso; omega) | (intro _ q; omega) | (intro _ q; exfalso; have w := Wrd_h854; unfold Wrd at w; omega) | omega) (by omega) (by omega) (by omega) (by first | (intro q; exfalso; omega) | (intro q; omega) | omega) (by first | (intro q; exfalso; omega) | (intro q; omega) | omega)
          ·
            show wp l rho (d + 4) 185 68 [(2, 151), (0, 1), (0, 0), (0, 0), (0, 0), (9, 0), (9, 0), (9, 0)] [(0, 1)] h Q
            rw [show wm 10 = 316695 from by decide] at xp840
            refine w_ifne (t := 88) gz_185_68 rfl (fun u858 => ?_) (fun u858 => by exfalso; omega)
            have psJ : h 151 7 = h 151 7 := (rfl : h 151 7 = h 151 7)
            have npsJ : sm h = sm h := rfl
            have ce859 : h 151 7 = k151_7 := ek151_7.symm
            have ce860 : h 151 8 = 0 := cf
            have ce861 : h 151 27 = k151_27 := ek151_27.symm
            have j167 : ∀ j : Int, h 167 j = h 167 j := fun _ => rfl
            have j6 := j167 6
            exact J88_0 (1) (0) (0) (0) (0) h (my_fr.rf) (by omega) (by omega) (by omega) (by omega) (by omega) (by omega) (by omega) (by omega) (by omega) (by omega) (ek151_27.symm.trans (by omega)) (ek151_33.symm.trans (by omega)) (ek151_7.symm.trans (by omega)) (cf.trans (by omega)) n_Tok n_Mq n_Wrd n_Wd9 (by first | (intro q; exfalso; omega) | (intro _; assumption) | omega) (by first | (intro q; exfalso; omega) | (intro _ q; omega) | (intro _ q; exfalso; have w := n_Wrd; unfold Wrd at w; omega) | omega) (by omega) (by omega) (by omega) (by first | (intro q; exfalso; omega) | (intro q; omega) | omega) (by first | (intro q; exfalso; omega) | (intro q; omega) | omega)
        ·
          show wp l rho (d + 4) 185 26 [(2, 151), (0, 1), (0, 0), (0, 0), (9, 0), (9, 0), (9, 0), (9, 0)] [(0, 1)] h Q
          rw [show wm 11 = 26801 from by decide] at xp832
          refine w_istore (ls' := [(2, 151), (0, 1), (0, 0), (0, 0), (0, 1), (9, 0), (9, 0), (9, 0)]) gz_185_26 gm_185 rfl rfl rfl ?_
          refine w_iload_n gz_185_28 rfl ?_
          refine w_ifne (t := 62) gz_185_29 rfl (fun u862 => ?_) (fun u862 => by exfalso; omega)
          refine w_aload_n gz_185_62 rfl ?_
          refine w_bipush gz_185_63 (by decide) ?_
          refine w_inv (k := 0) (as := [(0, 10)]) (r := []) (x := 151) (ls0 := [(2, 151), (0, 10)]) gz_185_65 gm_177 rfl is_151 rd_10 rfl rfl rfl rfl rfl (c_Model_isWord9_f0 (d := (d + 3)) (x1 := 10) (by omega) (by omega) (cf.trans (by omega)) n_Wd9 (fun w863 xp864 => ?_) (fun w865 xp866 xp867 xp868 xp869 => ?_))
          ·
            show wp l rho (d + 4) 185 68 [(2, 151), (0, 1), (0, 0), (0, 0), (0, 1), (9, 0), (9, 0), (9, 0)] [(0, 0)] h Q
            rw [show wm 10 = 316695 from by decide] at xp864
            refine w_ifne (t := 88) gz_185_68 rfl (fun u870 => by exfalso; omega) (fun u870 => ?_)
            refine w_aload_n gz_185_71 rfl ?_
            refine w_getX (v := 167) gz_185_72 is_151 rd_10 rfl (by decide) rfl ?_
            refine w_bipush gz_185_75 (by decide) ?_
            refine w_iald gz_185_77 is_167 rd_66 (by omega) (by omega) (fun v872 ev872 pv872 qv872 => ?_)
            refine w_bipush gz_185_78 (by decide) ?_
            refine w_icne (t := 88) gz_185_80 rfl (fun u873 => ?_) (fun u873 => ?_)
            ·
              have psJ : h 151 7 = h 151 7 := (rfl : h 151 7 = h 151 7)
              have npsJ : sm h = sm h := rfl
              have ce874 : h 151 7 = k151_7 := ek151_7.symm
              have ce875 : h 151 8 = 0 := cf
              have ce876 : h 151 27 = k151_27 := ek151_27.symm
              have j167 : ∀ j : Int, h 167 j = h 167 j := fun _ => rfl
              have j6 := j167 6
              exact J88_0 (1) (0) (0) (1) (0) h (my_fr.rf) (by omega) (by omega) (by omega) (by omega) (by omega) (by omega) (by omega) (by omega) (by omega) (by omega) (ek151_27.symm.trans (by omega)) (ek151_33.symm.trans (by omega)) (ek151_7.symm.trans (by omega)) (cf.trans (by omega)) n_Tok n_Mq n_Wrd n_Wd9 (by first | (intro q; exfalso; omega) | (intro _; assumption) | omega) (by first | (intro q; exfalso; omega) | (intro _ q; omega) | (intro _ q; exfalso; have w := n_Wrd; unfold Wrd at w; omega) | omega) (by omega) (by omega) (by omega) (by first | (intro q; exfalso; omega) | (intro q; omega) | omega) (by first | (intro q; exfalso; omega) | (intro q; omega) | omega)
            ·
              refine w_aload_n gz_185_83 rfl ?_
              refine w_iconst gz_185_84 (by decide) ?_
              refine w_inv (k := 0) (as := [(0, 5)]) (r := []) (x := 151) (ls0 := [(2, 151), (0, 5)]) gz_185_85 gm_178 rfl is_151 rd_10 rfl rfl rfl rfl rfl ?_
              refine w_aload_n gz_178_0 rfl ?_
              refine v_getI (j := 8) gz_178_1 rfl is_151 rd_10 rfl (fun v877 ev877 pv877 qv877 => ?_)
              have zv877 := ev877.trans cf
              refine w_ifne (t := 25) gz_178_4 rfl (fun u878 => by exfalso; omega) (fun u878 => ?_)
              refine w_aload_n gz_178_7 rfl ?_
              refine w_iload_n gz_178_8 rfl ?_
              refine w_bipush gz_178_9 (by decide) ?_
              refine w_aload_n gz_178_11 rfl ?_
              refine w_getX (v := 154) gz_178_12 is_151 rd_10 rfl (by decide) rfl ?_
              refine w_aload_n gz_178_15 rfl ?_
              refine v_getI (j := 7) gz_178_16 rfl is_151 rd_10 rfl (fun v880 ev880 pv880 qv880 => ?_)
              have zv880 := ev880.trans ek151_7.symm
              refine w_iald gz_178_19 is_154 rd_53 (by omega) (by omega) (fun v881 ev881 pv881 qv881 => ?_)
              have nz882 : v881 = sP (sm h) (h 151 7) := by
                have q := ev881.trans (my_fr.at (j := v880) my_fr.rf is_154 rfl)
                rw [show (v880 : Int) = h 151 7 from by omega] at q
                exact q
              refine w_imul gz_178_20 ⟨by omega, by omega⟩ ?_
              refine w_iadd gz_178_21 ⟨by omega, by omega⟩ ?_
              refine v_putI (j := 8) gz_178_22 rfl is_151 rd_10 rfl (by omega) (by omega) rfl (fun h883 fh883 => ?_)
              have gh883 : my_fr [(10, 7), (10, 8), (10, 27), (66, -1), (67, -1), (68, -1), (69, -1), (70, -1), (71, -1), (72, -1), (73, -1), (74, -1), (75, -1), (77, -1), (78, -1), (79, -1)] h h883 := my_fr.up my_fr.rf is_151 fh883 rfl
              have Tok_h883 : Tok h883 := Tok_ag (my_ag.up fh883 is_151 rfl) n_Tok
              have Mq_h883 : Mq h883 wv := Mq_ag (my_ag.up fh883 is_151 rfl) n_Mq
              have Wrd_h883 : Wrd h883 := Wrd_ag (my_ag.up fh883 is_151 rfl) n_Wrd
              have Wd9_h883 : Wd9 h883 := Wd9_ag (my_ag.up fh883 is_151 rfl) n_Wd9
              refine w_vret gz_178_25 gm_178 ?_
              show wp l rho (d + 4) 185 88 [(2, 151), (0, 1), (0, 0), (0, 0), (0, 1), (9, 0), (9, 0), (9, 0)] [] h883 Q
              have psJ : h883 151 7 = h 151 7 := ((my_up_fld fh883 (by decide)).trans (rfl : h 151 7 = h 151 7))
              have npsJ : sm h883 = sm h := sm_eq (fun j => my_fr.at gh883 is_153 rfl) (fun j => my_fr.at gh883 is_154 rfl) (fun j => my_fr.at gh883 is_155 rfl)
              have ce884 : h883 151 7 = v880 := ((my_up_fld fh883 (by decide)).trans ev880.symm)
              have ce885 : h883 151 8 = (5 + (16 * v881)) := (my_up_self fh883)
              have ce886 : h883 151 27 = k151_27 := ((my_up_fld fh883 (by decide)).trans ek151_27.symm)
              have j167 : ∀ j : Int, h883 167 j = h 167 j := fun j => ((my_up_role fh883 is_167 is_151 rfl).trans (rfl : h 167 j = h 167 j))
              have j6 := j167 6
              exact J88_0 (1) (0) (0) (1) ((5 + (16 * v881))) h883 (gh883) (by omega) (by omega) (by omega) (by omega) (by omega) (by omega) (by omega) (by omega) (by omega) (by omega) (((my_up_fld fh883 (by decide)).trans ek151_27.symm).trans (by omega)) (((my_up_fld fh883 (by decide)).trans ek151_33.symm).trans (by omega)) (((my_up_fld fh883 (by decide)).trans ev880.symm).trans (by omega)) ((my_up_self fh883).trans (by omega)) Tok_h883 Mq_h883 Wrd_h883 Wd9_h883 (by first | (intro q; exfalso; omega) | (intro _; assumption) | omega) (by first | (intro q; exfalso; omega) | (intro _ q; omega) | (intro _ q; exfalso; have w := Wrd_h883; unfold Wrd at w; omega) | omega) (by omega) (by omega) (by omega) (by first | (intro q; exfalso; omega) | (intro q; omega) | omega) (by first | (intro q; exfalso; omega) | (intro q; omega) | omega)
          ·
            show wp l rho (d + 4) 185 68 [(2, 151), (0, 1), (0, 0), (0, 0), (0, 1), (9, 0), (9, 0), (9, 0)] [(0, 1)] h Q
            rw [show wm 10 = 316695 from by decide] at xp869
            refine w_ifne (t := 88) gz_185_68 rfl (fun u887 => ?_) (fun u887 => by exfalso; omega)
            have psJ : h 151 7 = h 151 7 := (rfl : h 151 7 = h 151 7)
            have npsJ : sm h = sm h := rfl
            have ce888 : h 151 7 = k151_7 := ek151_7.symm
            have ce889 : h 151 8 = 0 := cf
            have ce890 : h 151 27 = k151_27 := ek151_27.symm
            have j167 : ∀ j : Int, h 167 j = h 167 j := fun _ => rfl
            have j6 := j167 6
            exact J88_0 (1) (0) (0) (1) (0) h (my_fr.rf) (by omega) (by omega) (by omega) (by omega) (by omega) (by omega) (by omega) (by omega) (by omega) (by omega) (ek151_27.symm.trans (by omega)) (ek151_33.symm.trans (by omega)) (ek151_7.symm.trans (by omega)) (cf.trans (by omega)) n_Tok n_Mq n_Wrd n_Wd9 (by first | (intro q; exfalso; omega) | (intro _; assumption) | omega) (by first | (intro q; exfalso; omega) | (intro _ q; omega) | (intro _ q; exfalso; have w := n_Wrd; unfold Wrd at w; omega) | omega) (by omega) (by omega) (by omega) (by first | (intro q; exfalso; omega) | (intro q; omega) | omega) (by first | (intro q; exfalso; omega) | (intro q; omega) | omega)
      ·
        show wp l rho (d + 4) 185 19 [(2, 151), (0, 1), (0, 0), (9, 0), (9, 0), (9, 0), (9, 0), (9, 0)] [(0, 1)] h Q
        rw [show wm 8 = 527412 from by decide] at xp825
        refine w_istore_n (ls' := [(2, 151), (0, 1), (0, 0), (0, 1), (9, 0), (9, 0), (9, 0), (9, 0)]) gz_185_19 gm_185 rfl rfl rfl ?_
        refine w_aload_n gz_185_20 rfl ?_
        refine w_bipush gz_185_21 (by decide) ?_
        refine w_inv (k := 0) (as := [(0, 11)]) (r := []) (x := 151) (ls0 := [(2, 151), (0, 11)]) gz_185_23 gm_177 rfl is_151 rd_10 rfl rfl rfl rfl rfl (c_Model_isWord9_f0 (d := (d + 3)) (x1 := 11) (by omega) (by omega) (cf.trans (by omega)) n_Wd9 (fun w891 xp892 => ?_) (fun w893 xp894 xp895 xp896 xp897 => ?_))
        ·
          show wp l rho (d + 4) 185 26 [(2, 151), (0, 1), (0, 0), (0, 1), (9, 0), (9, 0), (9, 0), (9, 0)] [(0, 0)] h Q
          rw [show wm 11 = 26801 from by decide] at xp892
          refine w_istore (ls' := [(2, 151), (0, 1), (0, 0), (0, 1), (0, 0), (9, 0), (9, 0), (9, 0)]) gz_185_26 gm_185 rfl rfl rfl ?_
          refine w_iload_n gz_185_28 rfl ?_
          refine w_ifne (t := 62) gz_185_29 rfl (fun u898 => ?_) (fun u898 => by exfalso; omega)
          refine w_aload_n gz_185_62 rfl ?_
          refine w_bipush gz_185_63 (by decide) ?_
          refine w_inv (k := 0) (as := [(0, 10)]) (r := []) (x := 151) (ls0 := [(2, 151), (0, 10)]) gz_185_65 gm_177 rfl is_151 rd_10 rfl rfl rfl rfl rfl (c_Model_isWord9_f0 (d := (d + 3)) (x1 := 10) (by omega) (by omega) (cf.trans (by omega)) n_Wd9 (fun w899 xp900 => ?_) (fun w901 xp902 xp903 xp904 xp905 => ?_))
          ·
            show wp l rho (d + 4) 185 68 [(2, 151), (0, 1), (0, 0), (0, 1), (0, 0), (9, 0), (9, 0), (9, 0)] [(0, 0)] h Q
            rw [show wm 10 = 316695 from by decide] at xp900
            refine w_ifne (t := 88) gz_185_68 rfl (fun u906 => by exfalso; omega) (fun u906 => ?_)
            refine w_aload_n gz_185_71 rfl ?_
            refine w_getX (v := 167) gz_185_72 is_151 rd_10 rfl (by decide) rfl ?_
            refine w_bipush gz_185_75 (by decide) ?_
            refine w_iald gz_185_77 is_167 rd_66 (by omega) (by omega) (fun v908 ev908 pv908 qv908 => ?_)
            refine w_bipush gz_185_78 (by decide) ?_
            refine w_icne (t := 88) gz_185_80 rfl (fun u909 => ?_) (fun u909 => ?_)
            ·
              have psJ : h 151 7 = h 151 7 := (rfl : h 151 7 = h 151 7)
              have npsJ : sm h = sm h := rfl
              have ce910 : h 151 7 = k151_7 := ek151_7.symm
              have ce911 : h 151 8 = 0 := cf
              have ce912 : h 151 27 = k151_27 := ek151_27.symm
              have j167 : ∀ j : Int, h 167 j = h 167 j := fun _ => rfl
              have j6 := j167 6
              exact J88_0 (1) (0) (1) (0) (0) h (my_fr.rf) (by omega) (by omega) (by omega) (by omega) (by omega) (by omega) (by omega) (by omega) (by omega) (by omega) (ek151_27.symm.trans (by omega)) (ek151_33.symm.trans (by omega)) (ek151_7.symm.trans (by omega)) (cf.trans (by omega)) n_Tok n_Mq n_Wrd n_Wd9 (by first | (intro q; exfalso; omega) | (intro _; assumption) | omega) (by first | (intro q; exfalso; omega) | (intro _ q; omega) | (intro _ q; exfalso; have w := n_Wrd; unfold Wrd at w; omega) | omega) (by omega) (by omega) (by omega) (by first | (intro q; exfalso; omega) | (intro q; omega) | omega) (by first | (intro q; exfalso; omega) | (intro q; omega) | omega)
            ·
              refine w_aload_n gz_185_83 rfl ?_
              refine w_iconst gz_185_84 (by decide) ?_
              refine w_inv (k := 0) (as := [(0, 5)]) (r := []) (x := 151) (ls0 := [(2, 151), (0, 5)]) gz_185_85 gm_178 rfl is_151 rd_10 rfl rfl rfl rfl rfl ?_
              refine w_aload_n gz_178_0 rfl ?_
              refine v_getI (j := 8) gz_178_1 rfl is_151 rd_10 rfl (fun v913 ev913 pv913 qv913 => ?_)
              have zv913 := ev913.trans cf
              refine w_ifne (t := 25) gz_178_4 rfl (fun u914 => by exfalso; omega) (fun u914 => ?_)
              refine w_aload_n gz_178_7 rfl ?_
              refine w_iload_n gz_178_8 rfl ?_
              refine w_bipush gz_178_9 (by decide) ?_
              refine w_aload_n gz_178_11 rfl ?_
              refine w_getX (v := 154) gz_178_12 is_151 rd_10 rfl (by decide) rfl ?_
              refine w_aload_n gz_178_15 rfl ?_
              refine v_getI (j := 7) gz_178_16 rfl is_151 rd_10 rfl (fun v916 ev916 pv916 qv916 => ?_)
              have zv916 := ev916.trans ek151_7.symm
              refine w_iald gz_178_19 is_154 rd_53 (by omega) (by omega) (fun v917 ev917 pv917 qv917 => ?_)
              have nz918 : v917 = sP (sm h) (h 151 7) := by
                have q := ev917.trans (my_fr.at (j := v916) my_fr.rf is_154 rfl)
                rw [show (v916 : Int) = h 151 7 from by omega] at q
                exact q
              refine w_imul gz_178_20 ⟨by omega, by omega⟩ ?_
              refine w_iadd gz_178_21 ⟨by omega, by omega⟩ ?_
              refine v_putI (j := 8) gz_178_22 rfl is_151 rd_10 rfl (by omega) (by omega) rfl (fun h919 fh919 => ?_)
              have gh919 : my_fr [(10, 7), (10, 8), (10, 27), (66, -1), (67, -1), (68, -1), (69, -1), (70, -1), (71, -1), (72, -1), (73, -1), (74, -1), (75, -1), (77, -1), (78, -1), (79, -1)] h h919 := my_fr.up my_fr.rf is_151 fh919 rfl
              have Tok_h919 : Tok h919 := Tok_ag (my_ag.up fh919 is_151 rfl) n_Tok
              have Mq_h919 : Mq h919 wv := Mq_ag (my_ag.up fh919 is_151 rfl) n_Mq
              have Wrd_h919 : Wrd h919 := Wrd_ag (my_ag.up fh919 is_151 rfl) n_Wrd
              have Wd9_h919 : Wd9 h919 := Wd9_ag (my_ag.up fh919 is_151 rfl) n_Wd9
              refine w_vret gz_178_25 gm_178 ?_
              show wp l rho (d + 4) 185 88 [(2, 151), (0, 1), (0, 0), (0, 1), (0, 0), (9, 0), (9, 0), (9, 0)] [] h919 Q
              have psJ : h919 151 7 = h 151 7 := ((my_up_fld fh919 (by decide)).trans (rfl : h 151 7 = h 151 7))
              have npsJ : sm h919 = sm h := sm_eq (fun j => my_fr.at gh919 is_153 rfl) (fun j => my_fr.at gh919 is_154 rfl) (fun j => my_fr.at gh919 is_155 rfl)
              have ce920 : h919 151 7 = v916 := ((my_up_fld fh919 (by decide)).trans ev916.symm)
              have ce921 : h919 151 8 = (5 + (16 * v917)) := (my_up_self fh919)
              have ce922 : h919 151 27 = k151_27 := ((my_up_fld fh919 (by decide)).trans ek151_27.symm)
              have j167 : ∀ j : Int, h919 167 j = h 167 j := fun j => ((my_up_role fh919 is_167 is_151 rfl).trans (rfl : h 167 j = h 167 j))
              have j6 := j167 6
              exact J88_0 (1) (0) (1) (0) ((5 + (16 * v917))) h919 (gh919) (by omega) (by omega) (by omega) (by omega) (by omega) (by omega) (by omega) (by omega) (by omega) (by omega) (((my_up_fld fh919 (by decide)).trans ek151_27.symm).trans (by omega)) (((my_up_fld fh919 (by decide)).trans ek151_33.symm).trans (by omega)) (((my_up_fld fh919 (by decide)).trans ev916.symm).trans (by omega)) ((my_up_self fh919).trans (by omega)) Tok_h919 Mq_h919 Wrd_h919 Wd9_h919 (by first | (intro q; exfalso; omega) | (intro _; assumption) | omega) (by first | (intro q; exfalso; omega) | (intro _ q; omega) | (intro _ q; exfalso; have w := Wrd_h919; unfold Wrd at w; omega) | omega) (by omega) (by omega) (by omega) (by first | (intro q; exfalso; omega) | (intro q; omega) | omega) (by first | (intro q; exfalso; omega) | (intro q; omega) | omega)
          ·
            show wp l rho (d + 4) 185 68 [(2, 151), (0, 1), (0, 0), (0, 1), (0, 0), (9, 0), (9, 0), (9, 0)] [(0, 1)] h Q
            rw [show wm 10 = 316695 from by decide] at xp905
            refine w_ifne (t := 88) gz_185_68 rfl (fun u923 => ?_) (fun u923 => by exfalso; omega)
            have psJ : h 151 7 = h 151 7 := (rfl : h 151 7 = h 151 7)
            have npsJ : sm h = sm h := rfl
            have ce924 : h 151 7 = k151_7 := ek151_7.symm
            have ce925 : h 151 8 = 0 := cf
            have ce926 : h 151 27 = k151_27 := ek151_27.symm
            have j167 : ∀ j : Int, h 167 j = h 167 j := fun _ => rfl
            have j6 := j167 6
            exact J88_0 (1) (0) (1) (0) (0) h (my_fr.rf) (by omega) (by omega) (by omega) (by omega) (by omega) (by omega) (by omega) (by omega) (by omega) (by omega) (ek151_27.symm.trans (by omega)) (ek151_33.symm.trans (by omega)) (ek151_7.symm.trans (by omega)) (cf.trans (by omega)) n_Tok n_Mq n_Wrd n_Wd9 (by first | (intro q; exfalso; omega) | (intro _; assumption) | omega) (by first | (intro q; exfalso; omega) | (intro _ q; omega) | (intro _ q; exfalso; have w := n_Wrd; unfold Wrd at w; omega) | omega) (by omega) (by omega) (by omega) (by first | (intro q; exfalso; omega) | (intro q; omega) | omega) (by first | (intro q; exfalso; omega) | (intro q; omega) | omega)
        ·
          show wp l rho (d + 4) 185 26 [(2, 151), (0, 1), (0, 0), (0, 1), (9, 0), (9, 0), (9, 0), (9, 0)] [(0, 1)] h Q
          rw [show wm 11 = 26801 from by decide] at xp897
          refine w_istore (ls' := [(2, 151), (0, 1), (0, 0), (0, 1), (0, 1), (9, 0), (9, 0), (9, 0)]) gz_185_26 gm_185 rfl rfl rfl ?_
          refine w_iload_n gz_185_28 rfl ?_
          refine w_ifne (t := 62) gz_185_29 rfl (fun u927 => ?_) (fun u927 => by exfalso; omega)
          refine w_aload_n gz_185_62 rfl ?_
          refine w_bipush gz_185_63 (by decide) ?_
          refine w_inv (k := 0) (as := [(0, 10)]) (r := []) (x := 151) (ls0 := [(2, 151), (0, 10)]) gz_185_65 gm_177 rfl is_151 rd_10 rfl rfl rfl rfl rfl (c_Model_isWord9_f0 (d := (d + 3)) (x1 := 10) (by omega) (by omega) (cf.trans (by omega)) n_Wd9 (fun w928 xp929 => ?_) (fun w930 xp931 xp932 xp933 xp934 => ?_))
          ·
            show wp l rho (d + 4) 185 68 [(2, 151), (0, 1), (0, 0), (0, 1), (0, 1), (9, 0), (9, 0), (9, 0)] [(0, 0)] h Q
            rw [show wm 10 = 316695 from by decide] at xp929
            refine w_ifne (t := 88) gz_185_68 rfl (fun u935 => by exfalso; omega) (fun u935 => ?_)
            refine w_aload_n gz_185_71 rfl ?_
            refine w_getX (v := 167) gz_185_72 is_151 rd_10 rfl (by decide) rfl ?_
            refine w_bipush gz_185_75 (by decide) ?_
            refine w_iald gz_185_77 is_167 rd_66 (by omega) (by omega) (fun v937 ev937 pv937 qv937 => ?_)
            refine w_bipush gz_185_78 (by decide) ?_
            refine w_icne (t := 88) gz_185_80 rfl (fun u938 => ?_) (fun u938 => ?_)
            ·
              have psJ : h 151 7 = h 151 7 := (rfl : h 151 7 = h 151 7)
              have npsJ : sm h = sm h := rfl
              have ce939 : h 151 7 = k151_7 := ek151_7.symm
              have ce940 : h 151 8 = 0 := cf
              have ce941 : h 151 27 = k151_27 := ek151_27.symm
              have j167 : ∀ j : Int, h 167 j = h 167 j := fun _ => rfl
              have j6 := j167 6
              exact J88_0 (1) (0) (1) (1) (0) h (my_fr.rf) (by omega) (by omega) (by omega) (by omega) (by omega) (by omega) (by omega) (by omega) (by omega) (by omega) (ek151_27.symm.trans (by omega)) (ek151_33.symm.trans (by omega)) (ek151_7.symm.trans (by omega)) (cf.trans (by omega)) n_Tok n_Mq n_Wrd n_Wd9 (by first | (intro q; exfalso; omega) | (intro _; assumption) | omega) (by first | (intro q; exfalso; omega) | (intro _ q; omega) | (intro _ q; exfalso; have w := n_Wrd; unfold Wrd at w; omega) | omega) (by omega) (by omega) (by omega) (by first | (intro q; exfalso; omega) | (intro q; omega) | omega) (by first | (intro q; exfalso; omega) | (intro q; omega) | omega)
            ·
              refine w_aload_n gz_185_83 rfl ?_
              refine w_iconst gz_185_84 (by decide) ?_
              refine w_inv (k := 0) (as := [(0, 5)]) (r := []) (x := 151) (ls0 := [(2, 151), (0, 5)]) gz_185_85 gm_178 rfl is_151 rd_10 rfl rfl rfl rfl rfl ?_
              refine w_aload_n gz_178_0 rfl ?_
              refine v_getI (j := 8) gz_178_1 rfl is_151 rd_10 rfl (fun v942 ev942 pv942 qv942 => ?_)
              have zv942 := ev942.trans cf
              refine w_ifne (t := 25) gz_178_4 rfl (fun u943 => by exfalso; omega) (fun u943 => ?_)
              refine w_aload_n gz_178_7 rfl ?_
              refine w_iload_n gz_178_8 rfl ?_
              refine w_bipush gz_178_9 (by decide) ?_
              refine w_aload_n gz_178_11 rfl ?_
              refine w_getX (v := 154) gz_178_12 is_151 rd_10 rfl (by decide) rfl ?_
              refine w_aload_n gz_178_15 rfl ?_
              refine v_getI (j := 7) gz_178_16 rfl is_151 rd_10 rfl (fun v945 ev945 pv945 qv945 => ?_)
              have zv945 := ev945.trans ek151_7.symm
              refine w_iald gz_178_19 is_154 rd_53 (by omega) (by omega) (fun v946 ev946 pv946 qv946 => ?_)
              have nz947 : v946 = sP (sm h) (h 151 7) := by
                have q := ev946.trans (my_fr.at (j := v945) my_fr.rf is_154 rfl)
                rw [show (v945 : Int) = h 151 7 from by omega] at q
                exact q
              refine w_imul gz_178_20 ⟨by omega, by omega⟩ ?_
              refine w_iadd gz_178_21 ⟨by omega, by omega⟩ ?_
              refine v_putI (j := 8) gz_178_22 rfl is_151 rd_10 rfl (by omega) (by omega) rfl (fun h948 fh948 => ?_)
              have gh948 : my_fr [(10, 7), (10, 8), (10, 27), (66, -1), (67, -1), (68, -1), (69, -1), (70, -1), (71, -1), (72, -1), (73, -1), (74, -1), (75, -1), (77, -1), (78, -1), (79, -1)] h h948 := my_fr.up my_fr.rf is_151 fh948 rfl
              have Tok_h948 : Tok h948 := Tok_ag (my_ag.up fh948 is_151 rfl) n_Tok
              have Mq_h948 : Mq h948 wv := Mq_ag (my_ag.up fh948 is_151 rfl) n_Mq
              have Wrd_h948 : Wrd h948 := Wrd_ag (my_ag.up fh948 is_151 rfl) n_Wrd
              have Wd9_h948 : Wd9 h948 := Wd9_ag (my_ag.up fh948 is_151 rfl) n_Wd9
              refine w_vret gz_178_25 gm_178 ?_
              show wp l rho (d + 4) 185 88 [(2, 151), (0, 1), (0, 0), (0, 1), (0, 1), (9, 0), (9, 0), (9, 0)] [] h948 Q
              have psJ : h948 151 7 = h 151 7 := ((my_up_fld fh948 (by decide)).trans (rfl : h 151 7 = h 151 7))
              have npsJ : sm h948 = sm h := sm_eq (fun j => my_fr.at gh948 is_153 rfl) (fun j => my_fr.at gh948 is_154 rfl) (fun j => my_fr.at gh948 is_155 rfl)
              have ce949 : h948 151 7 = v945 := ((my_up_fld fh948 (by decide)).trans ev945.symm)
              have ce950 : h948 151 8 = (5 + (16 * v946)) := (my_up_self fh948)
              have ce951 : h948 151 27 = k151_27 := ((my_up_fld fh948 (by decide)).trans ek151_27.symm)
              have j167 : ∀ j : Int, h948 167 j = h 167 j := fun j => ((my_up_role fh948 is_167 is_151 rfl).trans (rfl : h 167 j = h 167 j))
              have j6 := j167 6
              exact J88_0 (1) (0) (1) (1) ((5 + (16 * v946))) h948 (gh948) (by omega) (by omega) (by omega) (by omega) (by omega) (by omega) (by omega) (by omega) (by omega) (by omega) (((my_up_fld fh948 (by decide)).trans ek151_27.symm).trans (by omega)) (((my_up_fld fh948 (by decide)).trans ek151_33.symm).trans (by omega)) (((my_up_fld fh948 (by decide)).trans ev945.symm).trans (by omega)) ((my_up_self fh948).trans (by omega)) Tok_h948 Mq_h948 Wrd_h948 Wd9_h948 (by first | (intro q; exfalso; omega) | (intro _; assumption) | omega) (by first | (intro q; exfalso; omega) | (intro _ q; omega) | (intro _ q; exfalso; have w := Wrd_h948; unfold Wrd at w; omega) | omega) (by omega) (by omega) (by omega) (by first | (intro q; exfalso; omega) | (intro q; omega) | omega) (by first | (intro q; exfalso; omega) | (intro q; omega) | omega)
          ·
            show wp l rho (d + 4) 185 68 [(2, 151), (0, 1), (0, 0), (0, 1), (0, 1), (9, 0), (9, 0), (9, 0)] [(0, 1)] h Q
            rw [show wm 10 = 316695 from by decide] at xp934
            refine w_ifne (t := 88) gz_185_68 rfl (fun u952 => ?_) (fun u952 => by exfalso; omega)
            have psJ : h 151 7 = h 151 7 := (rfl : h 151 7 = h 151 7)
            have npsJ : sm h = sm h := rfl
            have ce953 : h 151 7 = k151_7 := ek151_7.symm
            have ce954 : h 151 8 = 0 := cf
            have ce955 : h 151 27 = k151_27 := ek151_27.symm
            have j167 : ∀ j : Int, h 167 j = h 167 j := fun _ => rfl
            have j6 := j167 6
            exact J88_0 (1) (0) (1) (1) (0) h (my_fr.rf) (by omega) (by omega) (by omega) (by omega) (by omega) (by omega) (by omega) (by omega) (by omega) (by omega) (ek151_27.symm.trans (by omega)) (ek151_33.symm.trans (by omega)) (ek151_7.symm.trans (by omega)) (cf.trans (by omega)) n_Tok n_Mq n_Wrd n_Wd9 (by first | (intro q; exfalso; omega) | (intro _; assumption) | omega) (by first | (intro q; exfalso; omega) | (intro _ q; omega) | (intro _ q; exfalso; have w := n_Wrd; unfold Wrd at w; omega) | omega) (by omega) (by omega) (by omega) (by first | (intro q; exfalso; omega) | (intro q; omega) | omega) (by first | (intro q; exfalso; omega) | (intro q; omega) | omega)
    ·
      show wp l rho (d + 4) 185 12 [(2, 151), (0, 1), (9, 0), (9, 0), (9, 0), (9, 0), (9, 0), (9, 0)] [(0, 1)] h Q
      rw [show wm 7 = 8422 from by decide] at xp818
      refine w_istore_n (ls' := [(2, 151), (0, 1), (0, 1), (9, 0), (9, 0), (9, 0), (9, 0), (9, 0)]) gz_185_12 gm_185 rfl rfl rfl ?_
      refine w_aload_n gz_185_13 rfl ?_
      refine w_bipush gz_185_14 (by decide) ?_
      refine w_inv (k := 0) (as := [(0, 8)]) (r := []) (x := 151) (ls0 := [(2, 151), (0, 8)]) gz_185_16 gm_177 rfl is_151 rd_10 rfl rfl rfl rfl rfl (c_Model_isWord9_f0 (d := (d + 3)) (x1 := 8) (by omega) (by omega) (cf.trans (by omega)) n_Wd9 (fun w956 xp957 => ?_) (fun w958 xp959 xp960 xp961 xp962 => ?_))
      ·
        show wp l rho (d + 4) 185 19 [(2, 151), (0, 1), (0, 1), (9, 0), (9, 0), (9, 0), (9, 0), (9, 0)] [(0, 0)] h Q
        rw [show wm 8 = 527412 from by decide] at xp957
        refine w_istore_n (ls' := [(2, 151), (0, 1), (0, 1), (0, 0), (9, 0), (9, 0), (9, 0), (9, 0)]) gz_185_19 gm_185 rfl rfl rfl ?_
        refine w_aload_n gz_185_20 rfl ?_
        refine w_bipush gz_185_21 (by decide) ?_
        refine w_inv (k := 0) (as := [(0, 11)]) (r := []) (x := 151) (ls0 := [(2, 151), (0, 11)]) gz_185_23 gm_177 rfl is_151 rd_10 rfl rfl rfl rfl rfl (c_Model_isWord9_f0 (d := (d + 3)) (x1 := 11) (by omega) (by omega) (cf.trans (by omega)) n_Wd9 (fun w963 xp964 => ?_) (fun w965 xp966 xp967 xp968 xp969 => ?_))
        ·
          show wp l rho (d + 4) 185 26 [(2, 151), (0, 1), (0, 1), (0, 0), (9, 0), (9, 0), (9, 0), (9, 0)] [(0, 0)] h Q
          rw [show wm 11 = 26801 from by decide] at xp964
          refine w_istore (ls' := [(2, 151), (0, 1), (0, 1), (0, 0), (0, 0), (9, 0), (9, 0), (9, 0)]) gz_185_26 gm_185 rfl rfl rfl ?_
          refine w_iload_n gz_185_28 rfl ?_
          refine w_ifne (t := 62) gz_185_29 rfl (fun u970 => ?_) (fun u970 => by exfalso; omega)
          refine w_aload_n gz_185_62 rfl ?_
          refine w_bipush gz_185_63 (by decide) ?_
          refine w_inv (k := 0) (as := [(0, 10)]) (r := []) (x := 151) (ls0 := [(2, 151), (0, 10)]) gz_185_65 gm_177 rfl is_151 rd_10 rfl rfl rfl rfl rfl (c_Model_isWord9_f0 (d := (d + 3)) (x1 := 10) (by omega) (by omega) (cf.trans (by omega)) n_Wd9 (fun w971 xp972 => ?_) (fun w973 xp974 xp975 xp976 xp977 => ?_))
          ·
            show wp l rho (d + 4) 185 68 [(2, 151), (0, 1), (0, 1), (0, 0), (0, 0), (9, 0), (9, 0), (9, 0)] [(0, 0)] h Q
            rw [show wm 10 = 316695 from by decide] at xp972
            refine w_ifne (t := 88) gz_185_68 rfl (fun u978 => by exfalso; omega) (fun u978 => ?_)
            refine w_aload_n gz_185_71 rfl ?_
            refine w_getX (v := 167) gz_185_72 is_151 rd_10 rfl (by decide) rfl ?_
            refine w_bipush gz_185_75 (by decide) ?_
            refine w_iald gz_185_77 is_167 rd_66 (by omega) (by omega) (fun v980 ev980 pv980 qv980 => ?_)
            refine w_bipush gz_185_78 (by decide) ?_
            refine w_icne (t := 88) gz_185_80 rfl (fun u981 => ?_) (fun u981 => ?_)
            ·
              have psJ : h 151 7 = h 151 7 := (rfl : h 151 7 = h 151 7)
              have npsJ : sm h = sm h := rfl
              have ce982 : h 151 7 = k151_7 := ek151_7.symm
              have ce983 : h 151 8 = 0 := cf
              have ce984 : h 151 27 = k151_27 := ek151_27.symm
              have j167 : ∀ j : Int, h 167 j = h 167 j := fun _ => rfl
              have j6 := j167 6
              exact J88_0 (1) (1) (0) (0) (0) h (my_fr.rf) (by omega) (by omega) (by omega) (by omega) (by omega) (by omega) (by omega) (by omega) (by omega) (by omega) (ek151_27.symm.trans (by omega)) (ek151_33.symm.trans (by omega)) (ek151_7.symm.trans (by omega)) (cf.trans (by omega)) n_Tok n_Mq n_Wrd n_Wd9 (by first | (intro q; exfalso; omega) | (intro _; assumption) | omega) (by first | (intro q; exfalso; omega) | (intro _ q; omega) | (intro _ q; exfalso; have w := n_Wrd; unfold Wrd at w; omega) | omega) (by omega) (by omega) (by omega) (by first | (intro q; exfalso; omega) | (intro q; omega) | omega) (by first | (intro q; exfalso; omega) | (intro q; omega) | omega)
            ·
              refine w_aload_n gz_185_83 rfl ?_
              refine w_iconst gz_185_84 (by decide) ?_
              refine w_inv (k := 0) (as := [(0, 5)]) (r := []) (x := 151) (ls0 := [(2, 151), (0, 5)]) gz_185_85 gm_178 rfl is_151 rd_10 rfl rfl rfl rfl rfl ?_
              refine w_aload_n gz_178_0 rfl ?_
              refine v_getI (j := 8) gz_178_1 rfl is_151 rd_10 rfl (fun v985 ev985 pv985 qv985 => ?_)
              have zv985 := ev985.trans cf
              refine w_ifne (t := 25) gz_178_4 rfl (fun u986 => by exfalso; omega) (fun u986 => ?_)
              refine w_aload_n gz_178_7 rfl ?_
              refine w_iload_n gz_178_8 rfl ?_
              refine w_bipush gz_178_9 (by decide) ?_
              refine w_aload_n gz_178_11 rfl ?_
              refine w_getX (v := 154) gz_178_12 is_151 rd_10 rfl (by decide) rfl ?_
              refine w_aload_n gz_178_15 rfl ?_
              refine v_getI (j := 7) gz_178_16 rfl is_151 rd_10 rfl (fun v988 ev988 pv988 qv988 => ?_)
              have zv988 := ev988.trans ek151_7.symm
              refine w_iald gz_178_19 is_154 rd_53 (by omega) (by omega) (fun v989 ev989 pv989 qv989 => ?_)
              have nz990 : v989 = sP (sm h) (h 151 7) := by
                have q := ev989.trans (my_fr.at (j := v988) my_fr.rf is_154 rfl)
                rw [show (v988 : Int) = h 151 7 from by omega] at q
                exact q
              refine w_imul gz_178_20 ⟨by omega, by omega⟩ ?_
              refine w_iadd gz_178_21 ⟨by omega, by omega⟩ ?_
              refine v_putI (j := 8) gz_178_22 rfl is_151 rd_10 rfl (by omega) (by omega) rfl (fun h991 fh991 => ?_)
              have gh991 : my_fr [(10, 7), (10, 8), (10, 27), (66, -1), (67, -1), (68, -1), (69, -1), (70, -1), (71, -1), (72, -1), (73, -1), (74, -1), (75, -1), (77, -1), (78, -1), (79, -1)] h h991 := my_fr.up my_fr.rf is_151 fh991 rfl
              have Tok_h991 : Tok h991 := Tok_ag (my_ag.up fh991 is_151 rfl) n_Tok
              have Mq_h991 : Mq h991 wv := Mq_ag (my_ag.up fh991 is_151 rfl) n_Mq
              have Wrd_h991 : Wrd h991 := Wrd_ag (my_ag.up fh991 is_151 rfl) n_Wrd
              have Wd9_h991 : Wd9 h991 := Wd9_ag (my_ag.up fh991 is_151 rfl) n_Wd9
              refine w_vret gz_178_25 gm_178 ?_
              show wp l rho (d + 4) 185 88 [(2, 151), (0, 1), (0, 1), (0, 0), (0, 0), (9, 0), (9, 0), (9, 0)] [] h991 Q
              have psJ : h991 151 7 = h 151 7 := ((my_up_fld fh991 (by decide)).trans (rfl : h 151 7 = h 151 7))
              have npsJ : sm h991 = sm h := sm_eq (fun j => my_fr.at gh991 is_153 rfl) (fun j => my_fr.at gh991 is_154 rfl) (fun j => my_fr.at gh991 is_155 rfl)
              have ce992 : h991 151 7 = v988 := ((my_up_fld fh991 (by decide)).trans ev988.symm)
              have ce993 : h991 151 8 = (5 + (16 * v989)) := (my_up_self fh991)
              have ce994 : h991 151 27 = k151_27 := ((my_up_fld fh991 (by decide)).trans ek151_27.symm)
              have j167 : ∀ j : Int, h991 167 j = h 167 j := fun j => ((my_up_role fh991 is_167 is_151 rfl).trans (rfl : h 167 j = h 167 j))
              have j6 := j167 6
              exact J88_0 (1) (1) (0) (0) ((5 + (16 * v989))) h991 (gh991) (by omega) (by omega) (by omega) (by omega) (by omega) (by omega) (by omega) (by omega) (by omega) (by omega) (((my_up_fld fh991 (by decide)).trans ek151_27.symm).trans (by omega)) (((my_up_fld fh991 (by decide)).trans ek151_33.symm).trans (by omega)) (((my_up_fld fh991 (by decide)).trans ev988.symm).trans (by omega)) ((my_up_self fh991).trans (by omega)) Tok_h991 Mq_h991 Wrd_h991 Wd9_h991 (by first | (intro q; exfalso; omega) | (intro _; assumption) | omega) (by first | (intro q; exfalso; omega) | (intro _ q; omega) | (intro _ q; exfalso; have w := Wrd_h991; unfold Wrd at w; omega) | omega) (by omega) (by omega) (by omega) (by first | (intro q; exfalso; omega) | (intro q; omega) | omega) (by first | (intro q; exfalso; omega) | (intro q; omega) | omega)
          ·
            show wp l rho (d + 4) 185 68 [(2, 151), (0, 1), (0, 1), (0, 0), (0, 0), (9, 0), (9, 0), (9, 0)] [(0, 1)] h Q
            rw [show wm 10 = 316695 from by decide] at xp977
            refine w_ifne (t := 88) gz_185_68 rfl (fun u995 => ?_) (fun u995 => by exfalso; omega)
            have psJ : h 151 7 = h 151 7 := (rfl : h 151 7 = h 151 7)
            have npsJ : sm h = sm h := rfl
            have ce996 : h 151 7 = k151_7 := ek151_7.symm
            have ce997 : h 151 8 = 0 := cf
            have ce998 : h 151 27 = k151_27 := ek151_27.symm
            have j167 : ∀ j : Int, h 167 j = h 167 j := fun _ => rfl
            have j6 := j167 6
            exact J88_0 (1) (1) (0) (0) (0) h (my_fr.rf) (by omega) (by omega) (by omega) (by omega) (by omega) (by omega) (by omega) (by omega) (by omega) (by omega) (ek151_27.symm.trans (by omega)) (ek151_33.symm.trans (by omega)) (ek151_7.symm.trans (by omega)) (cf.trans (by omega)) n_Tok n_Mq n_Wrd n_Wd9 (by first | (intro q; exfalso; omega) | (intro _; assumption) | omega) (by first | (intro q; exfalso; omega) | (intro _ q; omega) | (intro _ q; exfalso; have w := n_Wrd; unfold Wrd at w; omega) | omega) (by omega) (by omega) (by omega) (by first | (intro q; exfalso; omega) | (intro q; omega) | omega) (by first | (intro q; exfalso; omega) | (intro q; omega) | omega)
        ·
          show wp l rho (d + 4) 185 26 [(2, 151), (0, 1), (0, 1), (0, 0), (9, 0), (9, 0), (9, 0), (9, 0)] [(0, 1)] h Q
          rw [show wm 11 = 26801 from by decide] at xp969
          refine w_istore (ls' := [(2, 151), (0, 1), (0, 1), (0, 0), (0, 1), (9, 0), (9, 0), (9, 0)]) gz_185_26 gm_185 rfl rfl rfl ?_
          refine w_iload_n gz_185_28 rfl ?_
          refine w_ifne (t := 62) gz_185_29 rfl (fun u999 => ?_) (fun u999 => by exfalso; omega)
          refine w_aload_n gz_185_62 rfl ?_
          refine w_bipush gz_185_63 (by decide) ?_
          refine w_inv (k := 0) (as := [(0, 10)]) (r := []) (x := 151) (ls0 := [(2, 151), (0, 10)]) gz_185_65 gm_177 rfl is_151 rd_10 rfl rfl rfl rfl rfl (c_Model_isWord9_f0 (d := (d + 3)) (x1 := 10) (by omega) (by omega) (cf.trans (by omega)) n_Wd9 (fun w1000 xp1001 => ?_) (fun w1002 xp1003 xp1004 xp1005 xp1006 => ?_))
          ·
            show wp l rho (d + 4) 185 68 [(2, 151), (0, 1), (0, 1), (0, 0), (0, 1), (9, 0), (9, 0), (9, 0)] [(0, 0)] h Q
            rw [show wm 10 = 316695 from by decide] at xp1001
            refine w_ifne (t := 88) gz_185_68 rfl (fun u1007 => by exfalso; omega) (fun u1007 => ?_)
            refine w_aload_n gz_185_71 rfl ?_
            refine w_getX (v := 167) gz_185_72 is_151 rd_10 rfl (by decide) rfl ?_
            refine w_bipush gz_185_75 (by decide) ?_
            refine w_iald gz_185_77 is_167 rd_66 (by omega) (by omega) (fun v1009 ev1009 pv1009 qv1009 => ?_)
            refine w_bipush gz_185_78 (by decide) ?_
            refine w_icne (t := 88) gz_185_80 rfl (fun u1010 => ?_) (fun u1010 => ?_)
            ·
              have psJ : h 151 7 = h 151 7 := (rfl : h 151 7 = h 151 7)
              have npsJ : sm h = sm h := rfl
              have ce1011 : h 151 7 = k151_7 := ek151_7.symm
              have ce1012 : h 151 8 = 0 := cf
              have ce1013 : h 151 27 = k151_27 := ek151_27.symm
              have j167 : ∀ j : Int, h 167 j = h 167 j := fun _ => rfl
              have j6 := j167 6
              exact J88_0 (1) (1) (0) (1) (0) h (my_fr.rf) (by omega) (by omega) (by omega) (by omega) (by omega) (by omega) (by omega) (by omega) (by omega) (by omega) (ek151_27.symm.trans (by omega)) (ek151_33.symm.trans (by omega)) (ek151_7.symm.trans (by omega)) (cf.trans (by omega)) n_Tok n_Mq n_Wrd n_Wd9 (by first | (intro q; exfalso; omega) | (intro _; assumption) | omega) (by first | (intro q; exfalso; omega) | (intro _ q; omega) | (intro _ q; exfalso; have w := n_Wrd; unfold Wrd at w; omega) | omega) (by omega) (by omega) (by omega) (by first | (intro q; exfalso; omega) | (intro q; omega) | omega) (by first | (intro q; exfalso; omega) | (intro q; omega) | omega)
            ·
              refine w_aload_n gz_185_83 rfl ?_
              refine w_iconst gz_185_84 (by decide) ?_
              refine w_inv (k := 0) (as := [(0, 5)]) (r := []) (x := 151) (ls0 := [(2, 151), (0, 5)]) gz_185_85 gm_178 rfl is_151 rd_10 rfl rfl rfl rfl rfl ?_
              refine w_aload_n gz_178_0 rfl ?_
              refine v_getI (j := 8) gz_178_1 rfl is_151 rd_10 rfl (fun v1014 ev1014 pv1014 qv1014 => ?_)
              have zv1014 := ev1014.trans cf
              refine w_ifne (t := 25) gz_178_4 rfl (fun u1015 => by exfalso; omega) (fun u1015 => ?_)
              refine w_aload_n gz_178_7 rfl ?_
              refine w_iload_n gz_178_8 rfl ?_
              refine w_bipush gz_178_9 (by decide) ?_
              refine w_aload_n gz_178_11 rfl ?_
              refine w_getX (v := 154) gz_178_12 is_151 rd_10 rfl (by decide) rfl ?_
              refine w_aload_n gz_178_15 rfl ?_
              refine v_getI (j := 7) gz_178_16 rfl is_151 rd_10 rfl (fun v1017 ev1017 pv1017 qv1017 => ?_)
              have zv1017 := ev1017.trans ek151_7.symm
              refine w_iald gz_178_19 is_154 rd_53 (by omega) (by omega) (fun v1018 ev1018 pv1018 qv1018 => ?_)
              have nz1019 : v1018 = sP (sm h) (h 151 7) := by
                have q := ev1018.trans (my_fr.at (j := v1017) my_fr.rf is_154 rfl)
                rw [show (v1017 : Int) = h 151 7 from by omega] at q
                exact q
              refine w_imul gz_178_20 ⟨by omega, by omega⟩ ?_
              refine w_iadd gz_178_21 ⟨by omega, by omega⟩ ?_
              refine v_putI (j := 8) gz_178_22 rfl is_151 rd_10 rfl (by omega) (by omega) rfl (fun h1020 fh1020 => ?_)
              have gh1020 : my_fr [(10, 7), (10, 8), (10, 27), (66, -1), (67, -1), (68, -1), (69, -1), (70, -1), (71, -1), (72, -1), (73, -1), (74, -1), (75, -1), (77, -1), (78, -1), (79, -1)] h h1020 := my_fr.up my_fr.rf is_151 fh1020 rfl
              have Tok_h1020 : Tok h1020 := Tok_ag (my_ag.up fh1020 is_151 rfl) n_Tok
              have Mq_h1020 : Mq h1020 wv := Mq_ag (my_ag.up fh1020 is_151 rfl) n_Mq
              have Wrd_h1020 : Wrd h1020 := Wrd_ag (my_ag.up fh1020 is_151 rfl) n_Wrd
              have Wd9_h1020 : Wd9 h1020 := Wd9_ag (my_ag.up fh1020 is_151 rfl) n_Wd9
              refine w_vret gz_178_25 gm_178 ?_
              show wp l rho (d + 4) 185 88 [(2, 151), (0, 1), (0, 1), (0, 0), (0, 1), (9, 0), (9, 0), (9, 0)] [] h1020 Q
              have psJ : h1020 151 7 = h 151 7 := ((my_up_fld fh1020 (by decide)).trans (rfl : h 151 7 = h 151 7))
              have npsJ : sm h1020 = sm h := sm_eq (fun j => my_fr.at gh1020 is_153 rfl) (fun j => my_fr.at gh1020 is_154 rfl) (fun j => my_fr.at gh1020 is_155 rfl)
              have ce1021 : h1020 151 7 = v1017 := ((my_up_fld fh1020 (by decide)).trans ev1017.symm)
              have ce1022 : h1020 151 8 = (5 + (16 * v1018)) := (my_up_self fh1020)
              have ce1023 : h1020 151 27 = k151_27 := ((my_up_fld fh1020 (by decide)).trans ek151_27.symm)
              have j167 : ∀ j : Int, h1020 167 j = h 167 j := fun j => ((my_up_role fh1020 is_167 is_151 rfl).trans (rfl : h 167 j = h 167 j))
              have j6 := j167 6
              exact J88_0 (1) (1) (0) (1) ((5 + (16 * v1018))) h1020 (gh1020) (by omega) (by omega) (by omega) (by omega) (by omega) (by omega) (by omega) (by omega) (by omega) (by omega) (((my_up_fld fh1020 (by decide)).trans ek151_27.symm).trans (by omega)) (((my_up_fld fh1020 (by decide)).trans ek151_33.symm).trans (by omega)) (((my_up_fld fh1020 (by decide)).trans ev1017.symm).trans (by omega)) ((my_up_self fh1020).trans (by omega)) Tok_h1020 Mq_h1020 Wrd_h1020 Wd9_h1020 (by first | (intro q; exfalso; omega) | (intro _; assumption) | omega) (by first | (intro q; exfalso; omega) | (intro _ q; omega) | (intro _ q; exfalso; have w := Wrd_h1020; unfold Wrd at w; omega) | omega) (by omega) (by omega) (by omega) (by first | (intro q; exfalso; omega) | (intro q; omega) | omega) (by first | (intro q; exfalso; omega) | (intro q; omega) | omega)
          ·
            show wp l rho (d + 4) 185 68 [(2, 151), (0, 1), (0, 1), (0, 0), (0, 1), (9, 0), (9, 0), (9, 0)] [(0, 1)] h Q
            rw [show wm 10 = 316695 from by decide] at xp1006
            refine w_ifne (t := 88) gz_185_68 rfl (fun u1024 => ?_) (fun u1024 => by exfalso; omega)
            have psJ : h 151 7 = h 151 7 := (rfl : h 151 7 = h 151 7)
            have npsJ : sm h = sm h := rfl
            have ce1025 : h 151 7 = k151_7 := ek151_7.symm
            have ce1026 : h 151 8 = 0 := cf
            have ce1027 : h 151 27 = k151_27 := ek151_27.symm
            have j167 : ∀ j : Int, h 167 j = h 167 j := fun _ => rfl
            have j6 := j167 6
            exact J88_0 (1) (1) (0) (1) (0) h (my_fr.rf) (by omega) (by omega) (by omega) (by omega) (by omega) (by omega) (by omega) (by omega) (by omega) (by omega) (ek151_27.symm.trans (by omega)) (ek151_33.symm.trans (by omega)) (ek151_7.symm.trans (by omega)) (cf.trans (by omega)) n_Tok n_Mq n_Wrd n_Wd9 (by first | (intro q; exfalso; omega) | (intro _; assumption) | omega) (by first | (intro q; exfalso; omega) | (intro _ q; omega) | (intro _ q; exfalso; have w := n_Wrd; unfold Wrd at w; omega) | omega) (by omega) (by omega) (by omega) (by first | (intro q; exfalso; omega) | (intro q; omega) | omega) (by first | (intro q; exfalso; omega) | (intro q; omega) | omega)
      ·
        show wp l rho (d + 4) 185 19 [(2, 151), (0, 1), (0, 1), (9, 0), (9, 0), (9, 0), (9, 0), (9, 0)] [(0, 1)] h Q
        rw [show wm 8 = 527412 from by decide] at xp962
        refine w_istore_n (ls' := [(2, 151), (0, 1), (0, 1), (0, 1), (9, 0), (9, 0), (9, 0), (9, 0)]) gz_185_19 gm_185 rfl rfl rfl ?_
        refine w_aload_n gz_185_20 rfl ?_
        refine w_bipush gz_185_21 (by decide) ?_
        refine w_inv (k := 0) (as := [(0, 11)]) (r := []) (x := 151) (ls0 := [(2, 151), (0, 11)]) gz_185_23 gm_177 rfl is_151 rd_10 rfl rfl rfl rfl rfl (c_Model_isWord9_f0 (d := (d + 3)) (x1 := 11) (by omega) (by omega) (cf.trans (by omega)) n_Wd9 (fun w1028 xp1029 => ?_) (fun w1030 xp1031 xp1032 xp1033 xp1034 => ?_))
        ·
          show wp l rho (d + 4) 185 26 [(2, 151), (0, 1), (0, 1), (0, 1), (9, 0), (9, 0), (9, 0), (9, 0)] [(0, 0)] h Q
          rw [show wm 11 = 26801 from by decide] at xp1029
          refine w_istore (ls' := [(2, 151), (0, 1), (0, 1), (0, 1), (0, 0), (9, 0), (9, 0), (9, 0)]) gz_185_26 gm_185 rfl rfl rfl ?_
          refine w_iload_n gz_185_28 rfl ?_
          refine w_ifne (t := 62) gz_185_29 rfl (fun u1035 => ?_) (fun u1035 => by exfalso; omega)
          refine w_aload_n gz_185_62 rfl ?_
          refine w_bipush gz_185_63 (by decide) ?_
          refine w_inv (k := 0) (as := [(0, 10)]) (r := []) (x := 151) (ls0 := [(2, 151), (0, 10)]) gz_185_65 gm_177 rfl is_151 rd_10 rfl rfl rfl rfl rfl (c_Model_isWord9_f0 (d := (d + 3)) (x1 := 10) (by omega) (by omega) (cf.trans (by omega)) n_Wd9 (fun w1036 xp1037 => ?_) (fun w1038 xp1039 xp1040 xp1041 xp1042 => ?_))
          ·
            show wp l rho (d + 4) 185 68 [(2, 151), (0, 1), (0, 1), (0, 1), (0, 0), (9, 0), (9, 0), (9, 0)] [(0, 0)] h Q
            rw [show wm 10 = 316695 from by decide] at xp1037
            refine w_ifne (t := 88) gz_185_68 rfl (fun u1043 => by exfalso; omega) (fun u1043 => ?_)
            refine w_aload_n gz_185_71 rfl ?_
            refine w_getX (v := 167) gz_185_72 is_151 rd_10 rfl (by decide) rfl ?_
            refine w_bipush gz_185_75 (by decide) ?_
            refine w_iald gz_185_77 is_167 rd_66 (by omega) (by omega) (fun v1045 ev1045 pv1045 qv1045 => ?_)
            refine w_bipush gz_185_78 (by decide) ?_
            refine w_icne (t := 88) gz_185_80 rfl (fun u1046 => ?_) (fun u1046 => ?_)
            ·
              have psJ : h 151 7 = h 151 7 := (rfl : h 151 7 = h 151 7)
              have npsJ : sm h = sm h := rfl
              have ce1047 : h 151 7 = k151_7 := ek151_7.symm
              have ce1048 : h 151 8 = 0 := cf
              have ce1049 : h 151 27 = k151_27 := ek151_27.symm
              have j167 : ∀ j : Int, h 167 j = h 167 j := fun _ => rfl
              have j6 := j167 6
              exact J88_0 (1) (1) (1) (0) (0) h (my_fr.rf) (by omega) (by omega) (by omega) (by omega) (by omega) (by omega) (by omega) (by omega) (by omega) (by omega) (ek151_27.symm.trans (by omega)) (ek151_33.symm.trans (by omega)) (ek151_7.symm.trans (by omega)) (cf.trans (by omega)) n_Tok n_Mq n_Wrd n_Wd9 (by first | (intro q; exfalso; omega) | (intro _; assumption) | omega) (by first | (intro q; exfalso; omega) | (intro _ q; omega) | (intro _ q; exfalso; have w := n_Wrd; unfold Wrd at w; omega) | omega) (by omega) (by omega) (by omega) (by first | (intro q; exfalso; omega) | (intro q; omega) | omega) (by first | (intro q; exfalso; omega) | (intro q; omega) | omega)
            ·
              refine w_aload_n gz_185_83 rfl ?_
              refine w_iconst gz_185_84 (by decide) ?_
              refine w_inv (k := 0) (as := [(0, 5)]) (r := []) (x := 151) (ls0 := [(2, 151), (0, 5)]) gz_185_85 gm_178 rfl is_151 rd_10 rfl rfl rfl rfl rfl ?_
              refine w_aload_n gz_178_0 rfl ?_
              refine v_getI (j := 8) gz_178_1 rfl is_151 rd_10 rfl (fun v1050 ev1050 pv1050 qv1050 => ?_)
              have zv1050 := ev1050.trans cf
              refine w_ifne (t := 25) gz_178_4 rfl (fun u1051 => by exfalso; omega) (fun u1051 => ?_)
              refine w_aload_n gz_178_7 rfl ?_
              refine w_iload_n gz_178_8 rfl ?_
              refine w_bipush gz_178_9 (by decide) ?_
              refine w_aload_n gz_178_11 rfl ?_
              refine w_getX (v := 154) gz_178_12 is_151 rd_10 rfl (by decide) rfl ?_
              refine w_aload_n gz_178_15 rfl ?_
              refine v_getI (j := 7) gz_178_16 rfl is_151 rd_10 rfl (fun v1053 ev1053 pv1053 qv1053 => ?_)
              have zv1053 := ev1053.trans ek151_7.symm
              refine w_iald gz_178_19 is_154 rd_53 (by omega) (by omega) (fun v1054 ev1054 pv1054 qv1054 => ?_)
              have nz1055 : v1054 = sP (sm h) (h 151 7) := by
                have q := ev1054.trans (my_fr.at (j := v1053) my_fr.rf is_154 rfl)
                rw [show (v1053 : Int) = h 151 7 from by omega] at q
                exact q
              refine w_imul gz_178_20 ⟨by omega, by omega⟩ ?_
              refine w_iadd gz_178_21 ⟨by omega, by omega⟩ ?_
              refine v_putI (j := 8) gz_178_22 rfl is_151 rd_10 rfl (by omega) (by omega) rfl (fun h1056 fh1056 => ?_)
              have gh1056 : my_fr [(10, 7), (10, 8), (10, 27), (66, -1), (67, -1), (68, -1), (69, -1), (70, -1), (71, -1), (72, -1), (73, -1), (74, -1), (75, -1), (77, -1), (78, -1), (79, -1)] h h1056 := my_fr.up my_fr.rf is_151 fh1056 rfl
              have Tok_h1056 : Tok h1056 := Tok_ag (my_ag.up fh1056 is_151 rfl) n_Tok
              have Mq_h1056 : Mq h1056 wv := Mq_ag (my_ag.up fh1056 is_151 rfl) n_Mq
              have Wrd_h1056 : Wrd h1056 := Wrd_ag (my_ag.up fh1056 is_151 rfl) n_Wrd
              have Wd9_h1056 : Wd9 h1056 := Wd9_ag (my_ag.up fh1056 is_151 rfl) n_Wd9
              refine w_vret gz_178_25 gm_178 ?_
              show wp l rho (d + 4) 185 88 [(2, 151), (0, 1), (0, 1), (0, 1), (0, 0), (9, 0), (9, 0), (9, 0)] [] h1056 Q
              have psJ : h1056 151 7 = h 151 7 := ((my_up_fld fh1056 (by decide)).trans (rfl : h 151 7 = h 151 7))
              have npsJ : sm h1056 = sm h := sm_eq (fun j => my_fr.at gh1056 is_153 rfl) (fun j => my_fr.at gh1056 is_154 rfl) (fun j => my_fr.at gh1056 is_155 rfl)
              have ce1057 : h1056 151 7 = v1053 := ((my_up_fld fh1056 (by decide)).trans ev1053.symm)
              have ce1058 : h1056 151 8 = (5 + (16 * v1054)) := (my_up_self fh1056)
              have ce1059 : h1056 151 27 = k151_27 := ((my_up_fld fh1056 (by decide)).trans ek151_27.symm)
              have j167 : ∀ j : Int, h1056 167 j = h 167 j := fun j => ((my_up_role fh1056 is_167 is_151 rfl).trans (rfl : h 167 j = h 167 j))
              have j6 := j167 6
              exact J88_0 (1) (1) (1) (0) ((5 + (16 * v1054))) h1056 (gh1056) (by omega) (by omega) (by omega) (by omega) (by omega) (by omega) (by omega) (by omega) (by omega) (by omega) (((my_up_fld fh1056 (by decide)).trans ek151_27.symm).trans (by omega)) (((my_up_fld fh1056 (by decide)).trans ek151_33.symm).trans (by omega)) (((my_up_fld fh1056 (by decide)).trans ev1053.symm).trans (by omega)) ((my_up_self fh1056).trans (by omega)) Tok_h1056 Mq_h1056 Wrd_h1056 Wd9_h1056 (by first | (intro q; exfalso; omega) | (intro _; assumption) | omega) (by first | (intro q; exfalso; omega) | (intro _ q; omega) | (intro _ q; exfalso; have w := Wrd_h1056; unfold Wrd at w; omega) | omega) (by omega) (by omega) (by omega) (by first | (intro q; exfalso; omega) | (intro q; omega) | omega) (by first | (intro q; exfalso; omega) | (intro q; omega) | omega)
          ·
            show wp l rho (d + 4) 185 68 [(2, 151), (0, 1), (0, 1), (0, 1), (0, 0), (9, 0), (9, 0), (9, 0)] [(0, 1)] h Q
            rw [show wm 10 = 316695 from by decide] at xp1042
            refine w_ifne (t := 88) gz_185_68 rfl (fun u1060 => ?_) (fun u1060 => by exfalso; omega)
            have psJ : h 151 7 = h 151 7 := (rfl : h 151 7 = h 151 7)
            have npsJ : sm h = sm h := rfl
            have ce1061 : h 151 7 = k151_7 := ek151_7.symm
            have ce1062 : h 151 8 = 0 := cf
            have ce1063 : h 151 27 = k151_27 := ek151_27.symm
            have j167 : ∀ j : Int, h 167 j = h 167 j := fun _ => rfl
            have j6 := j167 6
            exact J88_0 (1) (1) (1) (0) (0) h (my_fr.rf) (by omega) (by omega) (by omega) (by omega) (by omega) (by omega) (by omega) (by omega) (by omega) (by omega) (ek151_27.symm.trans (by omega)) (ek151_33.symm.trans (by omega)) (ek151_7.symm.trans (by omega)) (cf.trans (by omega)) n_Tok n_Mq n_Wrd n_Wd9 (by first | (intro q; exfalso; omega) | (intro _; assumption) | omega) (by first | (intro q; exfalso; omega) | (intro _ q; omega) | (intro _ q; exfalso; have w := n_Wrd; unfold Wrd at w; omega) | omega) (by omega) (by omega) (by omega) (by first | (intro q; exfalso; omega) | (intro q; omega) | omega) (by first | (intro q; exfalso; omega) | (intro q; omega) | omega)
        ·
          show wp l rho (d + 4) 185 26 [(2, 151), (0, 1), (0, 1), (0, 1), (9, 0), (9, 0), (9, 0), (9, 0)] [(0, 1)] h Q
          rw [show wm 11 = 26801 from by decide] at xp1034
          refine w_istore (ls' := [(2, 151), (0, 1), (0, 1), (0, 1), (0, 1), (9, 0), (9, 0), (9, 0)]) gz_185_26 gm_185 rfl rfl rfl ?_
          refine w_iload_n gz_185_28 rfl ?_
          refine w_ifne (t := 62) gz_185_29 rfl (fun u1064 => ?_) (fun u1064 => by exfalso; omega)
          refine w_aload_n gz_185_62 rfl ?_
          refine w_bipush gz_185_63 (by decide) ?_
          refine w_inv (k := 0) (as := [(0, 10)]) (r := []) (x := 151) (ls0 := [(2, 151), (0, 10)]) gz_185_65 gm_177 rfl is_151 rd_10 rfl rfl rfl rfl rfl (c_Model_isWord9_f0 (d := (d + 3)) (x1 := 10) (by omega) (by omega) (cf.trans (by omega)) n_Wd9 (fun w1065 xp1066 => ?_) (fun w1067 xp1068 xp1069 xp1070 xp1071 => ?_))
          ·
            show wp l rho (d + 4) 185 68 [(2, 151), (0, 1), (0, 1), (0, 1), (0, 1), (9, 0), (9, 0), (9, 0)] [(0, 0)] h Q
            rw [show wm 10 = 316695 from by decide] at xp1066
            refine w_ifne (t := 88) gz_185_68 rfl (fun u1072 => by exfalso; omega) (fun u1072 => ?_)
            refine w_aload_n gz_185_71 rfl ?_
            refine w_getX (v := 167) gz_185_72 is_151 rd_10 rfl (by decide) rfl ?_
            refine w_bipush gz_185_75 (by decide) ?_
            refine w_iald gz_185_77 is_167 rd_66 (by omega) (by omega) (fun v1074 ev1074 pv1074 qv1074 => ?_)
            refine w_bipush gz_185_78 (by decide) ?_
            refine w_icne (t := 88) gz_185_80 rfl (fun u1075 => ?_) (fun u1075 => ?_)
            ·
              have psJ : h 151 7 = h 151 7 := (rfl : h 151 7 = h 151 7)
              have npsJ : sm h = sm h := rfl
              have ce1076 : h 151 7 = k151_7 := ek151_7.symm
              have ce1077 : h 151 8 = 0 := cf
              have ce1078 : h 151 27 = k151_27 := ek151_27.symm
              have j167 : ∀ j : Int, h 167 j = h 167 j := fun _ => rfl
              have j6 := j167 6
              exact J88_0 (1) (1) (1) (1) (0) h (my_fr.rf) (by omega) (by omega) (by omega) (by omega) (by omega) (by omega) (by omega) (by omega) (by omega) (by omega) (ek151_27.symm.trans (by omega)) (ek151_33.symm.trans (by omega)) (ek151_7.symm.trans (by omega)) (cf.trans (by omega)) n_Tok n_Mq n_Wrd n_Wd9 (by first | (intro q; exfalso; omega) | (intro _; assumption) | omega) (by first | (intro q; exfalso; omega) | (intro _ q; omega) | (intro _ q; exfalso; have w := n_Wrd; unfold Wrd at w; omega) | omega) (by omega) (by omega) (by omega) (by first | (intro q; exfalso; omega) | (intro q; omega) | omega) (by first | (intro q; exfalso; omega) | (intro q; omega) | omega)
            ·
              refine w_aload_n gz_185_83 rfl ?_
              refine w_iconst gz_185_84 (by decide) ?_
              refine w_inv (k := 0) (as := [(0, 5)]) (r := []) (x := 151) (ls0 := [(2, 151), (0, 5)]) gz_185_85 gm_178 rfl is_151 rd_10 rfl rfl rfl rfl rfl ?_
              refine w_aload_n gz_178_0 rfl ?_
              refine v_getI (j := 8) gz_178_1 rfl is_151 rd_10 rfl (fun v1079 ev1079 pv1079 qv1079 => ?_)
              have zv1079 := ev1079.trans cf
              refine w_ifne (t := 25) gz_178_4 rfl (fun u1080 => by exfalso; omega) (fun u1080 => ?_)
              refine w_aload_n gz_178_7 rfl ?_
              refine w_iload_n gz_178_8 rfl ?_
              refine w_bipush gz_178_9 (by decide) ?_
              refine w_aload_n gz_178_11 rfl ?_
              refine w_getX (v := 154) gz_178_12 is_151 rd_10 rfl (by decide) rfl ?_
              refine w_aload_n gz_178_15 rfl ?_
              refine v_getI (j := 7) gz_178_16 rfl is_151 rd_10 rfl (fun v1082 ev1082 pv1082 qv1082 => ?_)
              have zv1082 := ev1082.trans ek151_7.symm
              refine w_iald gz_178_19 is_154 rd_53 (by omega) (by omega) (fun v1083 ev1083 pv1083 qv1083 => ?_)
              have nz1084 : v1083 = sP (sm h) (h 151 7) := by
                have q := ev1083.trans (my_fr.at (j := v1082) my_fr.rf is_154 rfl)
                rw [show (v1082 : Int) = h 151 7 from by omega] at q
                exact q
              refine w_imul gz_178_20 ⟨by omega, by omega⟩ ?_
              refine w_iadd gz_178_21 ⟨by omega, by omega⟩ ?_
              refine v_putI (j := 8) gz_178_22 rfl is_151 rd_10 rfl (by omega) (by omega) rfl (fun h1085 fh1085 => ?_)
              have gh1085 : my_fr [(10, 7), (10, 8), (10, 27), (66, -1), (67, -1), (68, -1), (69, -1), (70, -1), (71, -1), (72, -1), (73, -1), (74, -1), (75, -1), (77, -1), (78, -1), (79, -1)] h h1085 := my_fr.up my_fr.rf is_151 fh1085 rfl
              have Tok_h1085 : Tok h1085 := Tok_ag (my_ag.up fh1085 is_151 rfl) n_Tok
              have Mq_h1085 : Mq h1085 wv := Mq_ag (my_ag.up fh1085 is_151 rfl) n_Mq
              have Wrd_h1085 : Wrd h1085 := Wrd_ag (my_ag.up fh1085 is_151 rfl) n_Wrd
              have Wd9_h1085 : Wd9 h1085 := Wd9_ag (my_ag.up fh1085 is_151 rfl) n_Wd9
              refine w_vret gz_178_25 gm_178 ?_
              show wp l rho (d + 4) 185 88 [(2, 151), (0, 1), (0, 1), (0, 1), (0, 1), (9, 0), (9, 0), (9, 0)] [] h1085 Q
              have psJ : h1085 151 7 = h 151 7 := ((my_up_fld fh1085 (by decide)).trans (rfl : h 151 7 = h 151 7))
              have npsJ : sm h1085 = sm h := sm_eq (fun j => my_fr.at gh1085 is_153 rfl) (fun j => my_fr.at gh1085 is_154 rfl) (fun j => my_fr.at gh1085 is_155 rfl)
              have ce1086 : h1085 151 7 = v1082 := ((my_up_fld fh1085 (by decide)).trans ev1082.symm)
              have ce1087 : h1085 151 8 = (5 + (16 * v1083)) := (my_up_self fh1085)
              have ce1088 : h1085 151 27 = k151_27 := ((my_up_fld fh1085 (by decide)).trans ek151_27.symm)
              have j167 : ∀ j : Int, h1085 167 j = h 167 j := fun j => ((my_up_role fh1085 is_167 is_151 rfl).trans (rfl : h 167 j = h 167 j))
              have j6 := j167 6
              exact J88_0 (1) (1) (1) (1) ((5 + (16 * v1083))) h1085 (gh1085) (by omega) (by omega) (by omega) (by omega) (by omega) (by omega) (by omega) (by omega) (by omega) (by omega) (((my_up_fld fh1085 (by decide)).trans ek151_27.symm).trans (by omega)) (((my_up_fld fh1085 (by decide)).trans ek151_33.symm).trans (by omega)) (((my_up_fld fh1085 (by decide)).trans ev1082.symm).trans (by omega)) ((my_up_self fh1085).trans (by omega)) Tok_h1085 Mq_h1085 Wrd_h1085 Wd9_h1085 (by first | (intro q; exfalso; omega) | (intro _; assumption) | omega) (by first | (intro q; exfalso; omega) | (intro _ q; omega) | (intro _ q; exfalso; have w := Wrd_h1085; unfold Wrd at w; omega) | omega) (by omega) (by omega) (by omega) (by first | (intro q; exfalso; omega) | (intro q; omega) | omega) (by first | (intro q; exfalso; omega) | (intro q; omega) | omega)
          ·
            show wp l rho (d + 4) 185 68 [(2, 151), (0, 1), (0, 1), (0, 1), (0, 1), (9, 0), (9, 0), (9, 0)] [(0, 1)] h Q
            rw [show wm 10 = 316695 from by decide] at xp1071
            refine w_ifne (t := 88) gz_185_68 rfl (fun u1089 => ?_) (fun u1089 => by exfalso; omega)
            have psJ : h 151 7 = h 151 7 := (rfl : h 151 7 = h 151 7)
            have npsJ : sm h = sm h := rfl
            have ce1090 : h 151 7 = k151_7 := ek151_7.symm
            have ce1091 : h 151 8 = 0 := cf
            have ce1092 : h 151 27 = k151_27 := ek151_27.symm
            have j167 : ∀ j : Int, h 167 j = h 167 j := fun _ => rfl
            have j6 := j167 6
            exact J88_0 (1) (1) (1) (1) (0) h (my_fr.rf) (by omega) (by omega) (by omega) (by omega) (by omega) (by omega) (by omega) (by omega) (by omega) (by omega) (ek151_27.symm.trans (by omega)) (ek151_33.symm.trans (by omega)) (ek151_7.symm.trans (by omega)) (cf.trans (by omega)) n_Tok n_Mq n_Wrd n_Wd9 (by first | (intro q; exfalso; omega) | (intro _; assumption) | omega) (by first | (intro q; exfalso; omega) | (intro _ q; omega) | (intro _ q; exfalso; have w := n_Wrd; unfold Wrd at w; omega) | omega) (by omega) (by omega) (by omega) (by first | (intro q; exfalso; omega) | (intro q; omega) | omega) (by first | (intro q; exfalso; omega) | (intro q; omega) | omega)
end MYNModel_readPane9_f0
