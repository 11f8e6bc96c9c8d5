/-! contracts, printed by wip/gen/gy.py -/
section MYNModel_readPane9_f0
set_option maxHeartbeats 4000000 in
theorem c_Model_readPane9_f0 {l : Launch} {rho : Nat → Int32} {d : Nat} {h : my_H} {Q : my_H → my_V → Prop} {wv : Int} (cf : h 151 8 = 0) (hwv : wv ≤ 5) (hwv0 : 0 ≤ wv) (n_Tok : Tok h) (n_Mq : Mq h wv) (n_Wrd : Wrd h) (n_Wd9 : Wd9 h) (k0 : ∀ (h' : my_H), my_fr [(10, 7), (10, 8), (10, 27), (66, -1), (67, -1), (68, -1), (69, -1), (70, -1), (71, -1), (72, -1), (73, -1), (74, -1), (75, -1), (77, -1), (78, -1), (79, -1)] h h' → 1 ≤ h' 151 8 → h' 151 8 ≤ 16005 → h 151 7 ≤ h' 151 7 → (∃ y c s : Int, paneR (sm h) (h 157) (h 157 (h 151 33)) (h 151 7) (h 151 27) (h 167 6) (h' 151 8) y c s) → Ko h h' → Tok h' → Mq h' wv → Wrd h' → Wd9 h' → Q h' (9, 0)) (k1 : ∀ (h' : my_H), my_fr [(10, 7), (10, 8), (10, 27), (66, -1), (67, -1), (68, -1), (69, -1), (70, -1), (71, -1), (72, -1), (73, -1), (74, -1), (75, -1), (77, -1), (78, -1), (79, -1)] h h' → 1 ≤ h' 151 7 → h' 151 7 ≤ 1001 → h' 151 8 = 0 → h 151 7 < h' 151 7 → paneR (sm h) (h 157) (h 157 (h 151 33)) (h 151 7) (h 151 27) (h 167 6) (h' 151 8) (h' 151 7) (h' 151 27) (h' 167 6) → Ko h h' → Tok h' → Mq h' wv → Wrd h' → Wd9 h' → Q h' (9, 0)) : wp l rho (d + 4) 185 0 [(2, 151), (9, 0), (9, 0), (9, 0), (9, 0), (9, 0), (9, 0), (9, 0)] [] h Q := by
  refine v_know (x := 151) (j := 7) (b := 7) rfl is_151 rd_10 rfl (fun k151_7 ek151_7 pk151_7 qk151_7 => ?_)
  refine v_know (x := 151) (j := 27) (b := 27) rfl is_151 rd_10 rfl (fun k151_27 ek151_27 pk151_27 qk151_27 => ?_)
  refine v_know (x := 151) (j := 33) (b := 33) rfl is_151 rd_10 rfl (fun k151_33 ek151_33 pk151_33 qk151_33 => ?_)
  have J88_0 : ∀ (p88_0 p88_1 p88_2 p88_3 p88_4 : Int) (h88_0 : my_H), my_fr [(10, 7), (10, 8), (10, 27), (66, -1), (67, -1), (68, -1), (69, -1), (70, -1), (71, -1), (72, -1), (73, -1), (74, -1), (75, -1), (77, -1), (78, -1), (79, -1)] h h88_0 → 0 ≤ p88_0 → p88_0 ≤ 1 → 0 ≤ p88_1 → p88_1 ≤ 1 → 0 ≤ p88_2 → p88_2 ≤ 1 → 0 ≤ p88_3 → p88_3 ≤ 1 → 0 ≤ p88_4 → p88_4 ≤ 16005 → h88_0 151 27 = k151_27 → h88_0 151 33 = k151_33 → h88_0 151 7 = k151_7 → h88_0 151 8 = p88_4 → Tok h88_0 → Mq h88_0 wv → Wrd h88_0 → Wd9 h88_0 → Ko h h88_0 → (h88_0 151 8 = 0 → h88_0 153 (h88_0 151 7) = 1) → (h88_0 151 8 = 0 → (p88_0 = 1 ∨ p88_1 = 1 ∨ p88_2 = 1 ∨ p88_3 = 1) → h88_0 167 6 ≤ 5) → h88_0 151 7 = h 151 7 → h88_0 151 27 = h 151 27 → h88_0 167 6 = h 167 6 → (h88_0 151 8 = 0 → (p88_0 = 1 → sW (sm h) (h 151 7) = 4904) ∧ (p88_0 = 0 → sW (sm h) (h 151 7) ≠ 4904) ∧ (p88_1 = 1 → sW (sm h) (h 151 7) = 8422) ∧ (p88_1 = 0 → sW (sm h) (h 151 7) ≠ 8422) ∧ (p88_2 = 1 → sW (sm h) (h 151 7) = 527412) ∧ (p88_2 = 0 → sW (sm h) (h 151 7) ≠ 527412) ∧ (p88_3 = 1 → sW (sm h) (h 151 7) = 26801) ∧ (p88_3 = 0 → sW (sm h) (h 151 7) ≠ 26801) ∧ (p88_0 = 0 → p88_1 = 0 → p88_2 = 0 → p88_3 = 0 → sW (sm h) (h 151 7) = 316695)) → (h88_0 151 8 ≠ 0 → (sW (sm h) (h 151 7) ≠ 316695 ∧ sW (sm h) (h 151 7) ≠ 4904 ∧ sW (sm h) (h 151 7) ≠ 8422 ∧ sW (sm h) (h 151 7) ≠ 527412 ∧ sW (sm h) (h 151 7) ≠ 26801 ∧ h88_0 151 8 = 1 + 16 * sP (sm h) (h 151 7)) ∨ ((sW (sm h) (h 151 7) = 4904 ∨ sW (sm h) (h 151 7) = 8422 ∨ sW (sm h) (h 151 7) = 527412 ∨ sW (sm h) (h 151 7) = 26801) ∧ 6 ≤ h 167 6 ∧ h88_0 151 8 = 5 + 16 * sP (sm h) (h 151 7))) → wp l rho (d + 4) 185 88 [(2, 151), (0, p88_0), (0, p88_1), (0, p88_2), (0, p88_3), (9, 0), (9, 0), (9, 0)] [] h88_0 Q := by
    intro p88_0 p88_1 p88_2 p88_3 p88_4 h88_0 gh_88_0 q0_88_0 q1_88_0 q2_88_0 q3_88_0 q4_88_0 q5_88_0 q6_88_0 q7_88_0 q8_88_0 q9_88_0 c151_27_88_0 c151_33_88_0 c151_7_88_0 c151_8_88_0 n_Tok_88_0 n_Mq_88_0 n_Wrd_88_0 n_Wd9_88_0 n_Ko_88_0 wd_88_0 pn_88_0 am_88_0 cw_88_0 c6_88_0 w1_88_0 wf_88_0
    have w1z := w1_88_0
    have wfz := wf_88_0
    refine w_aload_n gz_185_88 rfl ?_
    refine v_getI (j := 8) gz_185_89 rfl is_151 rd_10 rfl (fun v1 ev1 pv1 qv1 => ?_)
    have zv1 := ev1.trans c151_8_88_0
    refine w_ifle (t := 96) gz_185_92 rfl (fun u2 => ?_) (fun u2 => ?_)
    ·
      refine w_aload_n gz_185_96 rfl ?_
      refine w_dup gz_185_97 rfl ?_
      refine v_getI (j := 7) gz_185_98 rfl is_151 rd_10 rfl (fun v3 ev3 pv3 qv3 => ?_)
      have zv3 := ev3.trans c151_7_88_0
      refine w_iconst gz_185_101 (by decide) ?_
      refine w_iadd gz_185_102 ⟨by omega, by omega⟩ ?_
      have w1 := wd_88_0 (by omega)
      have hi4 : 0 ≤ (v3 + 1) := by have q := Tok_at n_Tok_88_0; omega
      have hi5 : (v3 + 1) ≤ 1001 := by have q := Tok_at n_Tok_88_0; omega
      refine v_putI (j := 7) gz_185_103 rfl is_151 rd_10 rfl (by omega) (by omega) rfl (fun h6 fh6 => ?_)
      have gh6 : my_fr [(10, 7), (10, 8), (10, 27), (66, -1), (67, -1), (68, -1), (69, -1), (70, -1), (71, -1), (72, -1), (73, -1), (74, -1), (75, -1), (77, -1), (78, -1), (79, -1)] h h6 := my_fr.up gh_88_0 is_151 fh6 rfl
      have ps7a : h88_0 151 7 = h 151 7 := am_88_0
      have ps7 : h6 151 7 = (sN (sm h) (h 151 7)) := by
        rw [my_up_self fh6]
        show (v3 + 1) = h 151 7 + 1
        omega
      have Mq_h6 : Mq h6 wv := Mq_ag (my_ag.up fh6 is_151 rfl) n_Mq_88_0
      have Wrd_h6 : Wrd h6 := Wrd_ag (my_ag.up fh6 is_151 rfl) n_Wrd_88_0
      have Wd9_h6 : Wd9 h6 := Wd9_ag (my_ag.up fh6 is_151 rfl) n_Wd9_88_0
      have Ko_h6 : Ko h h6 := Ko_ag (my_ag.up fh6 is_151 rfl) n_Ko_88_0
      have Tok_h6t8 : Tok h6 := Tok_inc n_Tok_88_0 (by omega) (by omega) fh6
      have k7 := my_up_self fh6
      refine w_bipush gz_185_106 (by decide) ?_
      refine w_aload_n gz_185_108 rfl ?_
      refine w_getX (v := 167) gz_185_109 is_151 rd_10 rfl (by decide) rfl ?_
      refine w_bipush gz_185_112 (by decide) ?_
      refine w_iald gz_185_114 is_167 rd_66 (by omega) (by omega) (fun v10 ev10 pv10 qv10 => ?_)
      have b167 : ∀ j : Int, h6 167 j = h88_0 167 j := fun j => ((my_up_role fh6 is_167 is_151 rfl).trans (rfl : h88_0 167 j = h88_0 167 j))
      have p5 := pn_88_0 (by omega)
      have q6 := b167 6
      refine w_iadd gz_185_115 ⟨by omega, by omega⟩ ?_
      refine w_istore (ls' := [(2, 151), (0, p88_0), (0, p88_1), (0, p88_2), (0, p88_3), (0, (36 + v10)), (9, 0), (9, 0)]) gz_185_116 gm_185 rfl rfl rfl ?_
      refine w_iload_n gz_185_118 rfl ?_
      refine w_ifeq (t := 131) gz_185_119 rfl (fun u11 => ?_) (fun u11 => ?_)
      ·
        refine w_iload_n gz_185_131 rfl ?_
        refine w_ifeq (t := 144) gz_185_132 rfl (fun u12 => ?_) (fun u12 => ?_)
        ·
          refine w_iload_n gz_185_144 rfl ?_
          refine w_ifeq (t := 157) gz_185_145 rfl (fun u13 => ?_) (fun u13 => ?_)
          ·
            refine w_iload gz_185_157 rfl ?_
            refine w_ifeq (t := 171) gz_185_159 rfl (fun u14 => ?_) (fun u14 => ?_)
            ·
              refine w_aload_n gz_185_171 rfl ?_
              refine w_aload_n gz_185_172 rfl ?_
              refine w_getX (v := 157) gz_185_173 is_151 rd_10 rfl (by decide) rfl ?_
              refine w_aload_n gz_185_176 rfl ?_
              refine v_getI (j := 33) gz_185_177 rfl is_151 rd_10 rfl (fun v16 ev16 pv16 qv16 => ?_)
              have zv16 := ev16.trans ((my_up_fld fh6 (by decide)).trans c151_33_88_0)
              refine w_iald gz_185_180 is_157 rd_56 (by omega) (by omega) (fun v17 ev17 pv17 qv17 => ?_)
              refine w_iconst gz_185_181 (by decide) ?_
              refine w_isub gz_185_182 ⟨by omega, by omega⟩ ?_
              have ce18 : h6 151 7 = (v3 + 1) := (my_up_self fh6)
              have ce19 : h6 151 27 = k151_27 := ((my_up_fld fh6 (by decide)).trans c151_27_88_0)
              have b183 : (v17 - 1) = h 157 (h 151 33) - 1 := by
                have a := my_fr.at (j := 33) gh6 is_151 rfl
                have b := my_fr.at (j := v16) gh6 is_157 rfl
                rw [show h 151 33 = v16 by omega]
                omega
              refine w_inv (k := 0) (as := [(0, (v17 - 1))]) (r := []) (x := 151) (ls0 := [(2, 151), (0, (v17 - 1))]) gz_185_183 gm_187 rfl is_151 rd_10 rfl rfl rfl rfl rfl (c_Model_takeNumber9_f0 (d := (d + 2)) (x1 := (v17 - 1)) (by omega) (by omega) (((my_up_fld fh6 (by decide)).trans ev1.symm).trans (by omega)) Tok_h6t8 (fun h20 frh20 w21 w22 xp23 xp24 Tok_h20t25 => ?_) (fun h26 v27 frh26 w28 w29 w30 w31 w32 xp33 xp34 xp35 xp36 xp37 xp38 xp39 xp40 Tok_h26t41 => ?_))
              ·
                have gh20 : my_fr [(10, 7), (10, 8), (10, 27), (66, -1), (67, -1), (68, -1), (69, -1), (70, -1), (71, -1), (72, -1), (73, -1), (74, -1), (75, -1), (77, -1), (78, -1), (79, -1)] h h20 := my_fr.tr gh6 (frh20.mo rfl)
                have Mq_h20 : Mq h20 wv := Mq_ag (my_ag.fr frh20 rfl) Mq_h6
                have Wrd_h20 : Wrd h20 := Wrd_ag (my_ag.fr frh20 rfl) Wrd_h6
                have Wd9_h20 : Wd9 h20 := Wd9_ag (my_ag.fr frh20 rfl) Wd9_h6
                have Ko_h20 : Ko h h20 := Ko_ag (my_ag.fr frh20 rfl) Ko_h6
                show wp l rho (d + 4) 185 186 [(2, 151), (0, p88_0), (0, p88_1), (0, p88_2), (0, p88_3), (0, (36 + v10)), (9, 0), (9, 0)] [(0, 0)] h20 Q
                have ps42 : h6 151 7 = (sN (sm h) (h 151 7)) := ps7
                rw [ps42] at xp23
                have tE43 : sm h6 = sm h := sm_eq (fun j => my_fr.at gh6 is_153 rfl) (fun j => my_fr.at gh6 is_154 rfl) (fun j => my_fr.at gh6 is_155 rfl)
                rw [tE43] at xp24
                rw [ps42] at xp24
                refine w_istore (ls' := [(2, 151), (0, p88_0), (0, p88_1), (0, p88_2), (0, p88_3), (0, (36 + v10)), (0, 0), (9, 0)]) gz_185_186 gm_185 rfl rfl rfl ?_
                refine w_aload_n gz_185_188 rfl ?_
                refine w_bipush gz_185_189 (by decide) ?_
                have ce44 : h20 151 27 = k151_27 := ((my_fr.at frh20 is_151 rfl).trans ((my_up_fld fh6 (by decide)).trans c151_27_88_0))
                refine w_inv (k := 0) (as := [(0, 19)]) (r := []) (x := 151) (ls0 := [(2, 151), (0, 19)]) gz_185_191 gm_187 rfl is_151 rd_10 rfl rfl rfl rfl rfl (c_Model_takeNumber9_f1 (d := (d + 2)) (x1 := 19) (by omega) (by omega) ((h20 151 8)) ((rfl : h20 151 8 = h20 151 8)) (by omega) (by omega) Tok_h20t25 (fun w45 w46 xp47 Tok_h20t48 => ?_))
                show wp l rho (d + 4) 185 194 [(2, 151), (0, p88_0), (0, p88_1), (0, p88_2), (0, p88_3), (0, (36 + v10)), (0, 0), (9, 0)] [(0, 0)] h20 Q
                have ps49 : h20 151 7 = (((sN (sm h) (h 151 7)))) := xp23
                rw [ps49] at xp47
                refine w_istore (ls' := [(2, 151), (0, p88_0), (0, p88_1), (0, p88_2), (0, p88_3), (0, (36 + v10)), (0, 0), (0, 0)]) gz_185_194 gm_185 rfl rfl rfl ?_
                have ce50 : h20 151 8 = (h20 151 8) := (rfl : h20 151 8 = h20 151 8)
                have zF : fillM (sm h) (sN (sm h) (h 151 7)) (h 157 (h 151 33)) (h20 151 8) ((((sN (sm h) (h 151 7))))) := by (unfold fillM; first | exact Or.inr (Or.inr ⟨by omega, by omega, Or.inr (Or.inr ⟨by omega, by omega, ⟨by omega, by omega⟩⟩)⟩) | exact Or.inr (Or.inr ⟨by omega, by omega, or_assoc.mp (Or.inl (by omega))⟩) | exact or_assoc.mp (Or.inl (by omega)))
                refine w_aload_n gz_185_196 rfl ?_
                refine w_getX (v := 173) gz_185_197 is_151 rd_10 rfl (by decide) rfl ?_
                refine w_bipush gz_185_200 (by decide) ?_
                refine w_iload gz_185_202 rfl ?_
                refine w_iadd gz_185_204 ⟨by omega, by omega⟩ ?_
                refine w_aload_n gz_185_205 rfl ?_
                refine v_getI (j := 8) gz_185_206 rfl is_151 rd_10 rfl (fun v52 ev52 pv52 qv52 => ?_)
                have zv52 := ev52.trans (rfl : h20 151 8 = h20 151 8)
                refine w_ifne (t := 217) gz_185_209 rfl (fun u53 => ?_) (fun u53 => by exfalso; omega)
                refine w_aload_n gz_185_217 rfl ?_
                refine w_getX (v := 173) gz_185_218 is_151 rd_10 rfl (by decide) rfl ?_
                refine w_bipush gz_185_221 (by decide) ?_
                refine w_iload gz_185_223 rfl ?_
                refine w_iadd gz_185_225 ⟨by omega, by omega⟩ ?_
                have hi55 : 0 ≤ (24 + 0) := by omega
                have hi56 : (24 + 0) ≤ 27 := by omega
                refine w_iald gz_185_226 is_173 rd_72 (by omega) (by omega) (fun v57 ev57 pv57 qv57 => ?_)
                have hi58 : (-1) ≤ v57 := by omega
                have hi59 : v57 ≤ 19 := by omega
                have hi60 : 0 ≤ (24 + 0) := by omega
                have hi61 : (24 + 0) ≤ 27 := by omega
                refine w_iast gz_185_227 is_173 rd_72 (by omega) (by omega) (by omega) (by omega) (fun h62 fh62 => ?_)
                have gh62 : my_fr [(10, 7), (10, 8), (10, 27), (66, -1), (67, -1), (68, -1), (69, -1), (70, -1), (71, -1), (72, -1), (73, -1), (74, -1), (75, -1), (77, -1), (78, -1), (79, -1)] h h62 := my_fr.up gh20 is_173 fh62 rfl
                have Mq_h62 : Mq h62 wv := Mq_ag (my_ag.up fh62 is_173 rfl) Mq_h20
                have Wrd_h62 : Wrd h62 := Wrd_ag (my_ag.up fh62 is_173 rfl) Wrd_h20
                have Wd9_h62 : Wd9 h62 := Wd9_ag (my_ag.up fh62 is_173 rfl) Wd9_h20
                have Ko_h62 : Ko h h62 := Ko_ag (my_ag.up fh62 is_173 rfl) Ko_h20
                have Tok_h62 : Tok h62 := Tok_ag (my_ag.up fh62 is_173 rfl) Tok_h20t48
                refine w_aload_n gz_185_228 rfl ?_
                refine v_getI (j := 8) gz_185_229 rfl is_151 rd_10 rfl (fun v63 ev63 pv63 qv63 => ?_)
                have zv63 := ev63.trans ((my_up_role fh62 is_151 is_173 rfl).trans ev52.symm)
                refine w_ifne (t := 269) gz_185_232 rfl (fun u64 => ?_) (fun u64 => by exfalso; omega)
                refine w_aload_n gz_185_269 rfl ?_
                refine w_bipush gz_185_270 (by decide) ?_
                have ce65 : h62 151 7 = h20 151 7 := ((my_up_role fh62 is_151 is_173 rfl).trans (rfl : h20 151 7 = h20 151 7))
                refine w_inv (k := 0) (as := [(0, 59)]) (r := []) (x := 151) (ls0 := [(2, 151), (0, 59)]) gz_185_272 gm_183 rfl is_151 rd_10 rfl rfl rfl rfl rfl (c_Model_takeSign9_f1 (d := (d + 2))  (v63) (ev63.symm) (by omega) (by omega) Tok_h62 (fun w66 w67 xp68 xp69 Tok_h62t70 => ?_))
                show wp l rho (d + 4) 185 275 [(2, 151), (0, p88_0), (0, p88_1), (0, p88_2), (0, p88_3), (0, (36 + v10)), (0, 0), (0, 0)] [] h62 Q
                have ps71 : h62 151 7 = (((sN (sm h) (h 151 7)))) := ((my_up_role fh62 is_151 is_173 rfl).trans xp23)
                rw [ps71] at xp68
                rw [ps71] at xp69
                have psR : h62 151 7 = (((sN (sm h) (h 151 7)))) := ((my_up_role fh62 is_151 is_173 rfl).trans xp23)
                have npsR : sm h62 = sm h := sm_eq (fun j => my_fr.at gh62 is_153 rfl) (fun j => my_fr.at gh62 is_154 rfl) (fun j => my_fr.at gh62 is_155 rfl)
                have ce72 : h62 151 7 = h20 151 7 := ((my_up_role fh62 is_151 is_173 rfl).trans (rfl : h20 151 7 = h20 151 7))
                have ce73 : h62 151 8 = v63 := ev63.symm
                have ce74 : h62 151 27 = k151_27 := ((my_up_role fh62 is_151 is_173 rfl).trans ((my_fr.at frh20 is_151 rfl).trans ((my_up_fld fh6 (by decide)).trans c151_27_88_0)))
                have r167 : ∀ j : Int, h62 167 j = h88_0 167 j := fun j => ((my_up_role fh62 is_167 is_173 rfl).trans ((my_fr.at frh20 is_167 rfl).trans ((my_up_role fh6 is_167 is_151 rfl).trans (rfl : h88_0 167 j = h88_0 167 j))))
                have r6 := r167 6
                have c75 := ev63.symm
                exact w_vret gz_185_275 gm_185 (k0 h62 (gh62) (by omega) (by omega) (by first | exact Ko_h62 | exact Or.inl ⟨by omega, fillM_R zF (by first | exact Or.inl ⟨by omega, by omega⟩ | exact Or.inr ⟨by omega, Or.inl ⟨by omega, by omega⟩⟩ | exact Or.inr ⟨by omega, Or.inr ⟨by omega, by omega, by omega⟩⟩), by omega, by omega⟩ | exact Or.inr (Or.inr (Or.inl ⟨by omega, by omega, cutM_R zC (by first | exact Or.inl ⟨by omega, by omega⟩ | exact Or.inr ⟨by omega, Or.inl ⟨by omega, by omega⟩⟩ | exact Or.inr ⟨by omega, Or.inr ⟨by omega, by omega, by omega⟩⟩), by first | omega | exact cw9, by omega⟩)) | exact Or.inr (Or.inr (Or.inr (Or.inl ⟨by omega, by omega, by first | (rw [cw9]; exact fmE_R zW (by first | exact Or.inl ⟨by omega, by omega⟩ | exact Or.inr ⟨by omega, Or.inl ⟨by omega, by omega⟩⟩ | exact Or.inr ⟨by omega, Or.inr ⟨by omega, by omega, by omega⟩⟩)) | exact fmE_R zW (by first | exact Or.inl ⟨by omega, by omega⟩ | exact Or.inr ⟨by omega, Or.inl ⟨by omega, by omega⟩⟩ | exact Or.inr ⟨by omega, Or.inr ⟨by omega, by omega, by omega⟩⟩), by omega⟩))) | exact Or.inr (Or.inr (Or.inr (Or.inr (Or.inl ⟨by omega, by omega, joinM_R zJ (by first | exact Or.inl ⟨by omega, by omega⟩ | exact Or.inr ⟨by omega, Or.inl ⟨by omega, by omega⟩⟩ | exact Or.inr ⟨by omega, Or.inr ⟨by omega, by omega, by omega⟩⟩), fun _ => by omega, by omega⟩)))) | exact Or.inr (Or.inr (Or.inr (Or.inr (Or.inr (Or.inl ⟨by omega, by omega, sumM_R zS (by first | exact Or.inl ⟨by omega, by omega⟩ | exact Or.inr ⟨by omega, Or.inl ⟨by omega, by omega⟩⟩ | exact Or.inr ⟨by omega, Or.inr ⟨by omega, by omega, by omega⟩⟩), by first | omega | exact cw9, by omega⟩))))) | exact ⟨0, _, _, Or.inl ⟨by omega, fillM_R zF (by first | exact Or.inl ⟨by omega, by omega⟩ | exact Or.inr ⟨by omega, Or.inl ⟨by omega, by omega⟩⟩ | exact Or.inr ⟨by omega, Or.inr ⟨by omega, by omega, by omega⟩⟩), rfl, rfl⟩⟩ | exact ⟨0, _, _, Or.inr (Or.inr (Or.inl ⟨by omega, by omega, cutM_R zC (by first | exact Or.inl ⟨by omega, by omega⟩ | exact Or.inr ⟨by omega, Or.inl ⟨by omega, by omega⟩⟩ | exact Or.inr ⟨by omega, Or.inr ⟨by omega, by omega, by omega⟩⟩), rfl, rfl⟩))⟩ | exact ⟨0, _, _, Or.inr (Or.inr (Or.inr (Or.inl ⟨by omega, by omega, fmE_R zW (by first | exact Or.inl ⟨by omega, by omega⟩ | exact Or.inr ⟨by omega, Or.inl ⟨by omega, by omega⟩⟩ | exact Or.inr ⟨by omega, Or.inr ⟨by omega, by omega, by omega⟩⟩), rfl⟩)))⟩ | exact ⟨0, 0, _, Or.inr (Or.inr (Or.inr (Or.inr (Or.inl ⟨by omega, by omega, joinM_R zJ (by first | exact Or.inl ⟨by omega, by omega⟩ | exact Or.inr ⟨by omega, Or.inl ⟨by omega, by omega⟩⟩ | exact Or.inr ⟨by omega, Or.inr ⟨by omega, by omega, by omega⟩⟩), fun q => absurd q (by omega), rfl⟩))))⟩ | exact ⟨0, _, _, Or.inr (Or.inr (Or.inr (Or.inr (Or.inr (Or.inl ⟨by omega, by omega, sumM_R zS (by first | exact Or.inl ⟨by omega, by omega⟩ | exact Or.inr ⟨by omega, Or.inl ⟨by omega, by omega⟩⟩ | exact Or.inr ⟨by omega, Or.inr ⟨by omega, by omega, by omega⟩⟩), rfl, rfl⟩)))))⟩ | exact ⟨0, 0, 0, (wf_88_0 (by omega)).elim (fun w => Or.inr (Or.inr (Or.inr (Or.inr (Or.inr (Or.inr (w))))))) (fun w => Or.inr (Or.inl w))⟩ | omega) (by first | exact Ko_h62 | exact Or.inl ⟨by omega, fillM_R zF (by first | exact Or.inl ⟨by omega, by omega⟩ | exact Or.inr ⟨by omega, Or.inl ⟨by omega, by omega⟩⟩ | exact Or.inr ⟨by omega, Or.inr ⟨by omega, by omega, by omega⟩⟩), by omega, by omega⟩ | exact Or.inr (Or.inr (Or.inl ⟨by omega, by omega, cutM_R zC (by first | exact Or.inl ⟨by omega, by omega⟩ | exact Or.inr ⟨by omega, Or.inl ⟨by omega, by omega⟩⟩ | exact Or.inr ⟨by omega, Or.inr ⟨by omega, by omega, by omega⟩⟩), by first | omega | exact cw9, by omega⟩)) | exact Or.inr (Or.inr (Or.inr (Or.inl ⟨by omega, by omega, by first | (rw [cw9]; exact fmE_R zW (by first | exact Or.inl ⟨by omega, by omega⟩ | exact Or.inr ⟨by omega, Or.inl ⟨by omega, by omega⟩⟩ | exact Or.inr ⟨by omega, Or.inr ⟨by omega, by omega, by omega⟩⟩)) | exact fmE_R zW (by first | exact Or.inl ⟨by omega, by omega⟩ | exact Or.inr ⟨by omega, Or.inl ⟨by omega, by omega⟩⟩ | exact Or.inr ⟨by omega, Or.inr ⟨by omega, by omega, by omega⟩⟩), by omega⟩))) | exact Or.inr (Or.inr (Or.inr (Or.inr (Or.inl ⟨by omega, by omega, joinM_R zJ (by first | exact Or.inl ⟨by omega, by omega⟩ | exact Or.inr ⟨by omega, Or.inl ⟨by omega, by omega⟩⟩ | exact Or.inr ⟨by omega, Or.inr ⟨by omega, by omega, by omega⟩⟩), fun _ => by omega, by omega⟩)))) | exact Or.inr (Or.inr (Or.inr (Or.inr (Or.inr (Or.inl ⟨by omega, by omega, sumM_R zS (by first | exact Or.inl ⟨by omega, by omega⟩ | exact Or.inr ⟨by omega, Or.inl ⟨by omega, by omega⟩⟩ | exact Or.inr ⟨by omega, Or.inr ⟨by omega, by omega, by omega⟩⟩), by first | omega | exact cw9, by omega⟩))))) | exact ⟨0, _, _, Or.inl ⟨by omega, fillM_R zF (by first | exact Or.inl ⟨by omega, by omega⟩ | exact Or.inr ⟨by omega, Or.inl ⟨by omega, by omega⟩⟩ | exact Or.inr ⟨by omega, Or.inr ⟨by omega, by omega, by omega⟩⟩), rfl, rfl⟩⟩ | exact ⟨0, _, _, Or.inr (Or.inr (Or.inl ⟨by omega, by omega, cutM_R zC (by first | exact Or.inl ⟨by omega, by omega⟩ | exact Or.inr ⟨by omega, Or.inl ⟨by omega, by omega⟩⟩ | exact Or.inr ⟨by omega, Or.inr ⟨by omega, by omega, by omega⟩⟩), rfl, rfl⟩))⟩ | exact ⟨0, _, _, Or.inr (Or.inr (Or.inr (Or.inl ⟨by omega, by omega, fmE_R zW (by first | exact Or.inl ⟨by omega, by omega⟩ | exact Or.inr ⟨by omega, Or.inl ⟨by omega, by omega⟩⟩ | exact Or.inr ⟨by omega, Or.inr ⟨by omega, by omega, by omega⟩⟩), rfl⟩)))⟩ | exact ⟨0, 0, _, Or.inr (Or.inr (Or.inr (Or.inr (Or.inl ⟨by omega, by omega, joinM_R zJ (by first | exact Or.inl ⟨by omega, by omega⟩ | exact Or.inr ⟨by omega, Or.inl ⟨by omega, by omega⟩⟩ | exact Or.inr ⟨by omega, Or.inr ⟨by omega, by omega, by omega⟩⟩), fun q => absurd q (by omega), rfl⟩))))⟩ | exact ⟨0, _, _, Or.inr (Or.inr (Or.inr (Or.inr (Or.inr (Or.inl ⟨by omega, by omega, sumM_R zS (by first | exact Or.inl ⟨by omega, by omega⟩ | exact Or.inr ⟨by omega, Or.inl ⟨by omega, by omega⟩⟩ | exact Or.inr ⟨by omega, Or.inr ⟨by omega, by omega, by omega⟩⟩), rfl, rfl⟩)))))⟩ | exact ⟨0, 0, 0, (wf_88_0 (by omega)).elim (fun w => Or.inr (Or.inr (Or.inr (Or.inr (Or.inr (Or.inr (w))))))) (fun w => Or.inr (Or.inl w))⟩ | omega) (by first | exact Ko_h62 | exact Or.inl ⟨by omega, fillM_R zF (by first | exact Or.inl ⟨by omega, by omega⟩ | exact Or.inr ⟨by omega, Or.inl ⟨by omega, by omega⟩⟩ | exact Or.inr ⟨by omega, Or.inr ⟨by omega, by omega, by omega⟩⟩), by omega, by omega⟩ | exact Or.inr (Or.inr (Or.inl ⟨by omega, by omega, cutM_R zC (by first | exact Or.inl ⟨by omega, by omega⟩ | exact Or.inr ⟨by omega, Or.inl ⟨by omega, by omega⟩⟩ | exact Or.inr ⟨by omega, Or.inr ⟨by omega, by omega, by omega⟩⟩), by first | omega | exact cw9, by omega⟩)) | exact Or.inr (Or.inr (Or.inr (Or.inl ⟨by omega, by omega, by first | (rw [cw9]; exact fmE_R zW (by first | exact Or.inl ⟨by omega, by omega⟩ | exact Or.inr ⟨by omega, Or.inl ⟨by omega, by omega⟩⟩ | exact Or.inr ⟨by omega, Or.inr ⟨by omega, by omega, by omega⟩⟩)) | exact fmE_R zW (by first | exact Or.inl ⟨by omega, by omega⟩ | exact Or.inr ⟨by omega, Or.inl ⟨by omega, by omega⟩⟩ | exact Or.inr ⟨by omega, Or.inr ⟨by omega, by omega, by omega⟩⟩), by omega⟩))) | exact Or.inr (Or.inr (Or.inr (Or.inr (Or.inl ⟨by omega, by omega, joinM_R zJ (by first | exact Or.inl ⟨by omega, by omega⟩ | exact Or.inr ⟨by omega, Or.inl ⟨by omega, by omega⟩⟩ | exact Or.inr ⟨by omega, Or.inr ⟨by omega, by omega, by omega⟩⟩), fun _ => by omega, by omega⟩)))) | exact Or.inr (Or.inr (Or.inr (Or.inr (Or.inr (Or.inl ⟨by omega, by omega, sumM_R zS (by first | exact Or.inl ⟨by omega, by omega⟩ | exact Or.inr ⟨by omega, Or.inl ⟨by omega, by omega⟩⟩ | exact Or.inr ⟨by omega, Or.inr ⟨by omega, by omega, by omega⟩⟩), by first | omega | exact cw9, by omega⟩))))) | exact ⟨0, _, _, Or.inl ⟨by omega, fillM_R zF (by first | exact Or.inl ⟨by omega, by omega⟩ | exact Or.inr ⟨by omega, Or.inl ⟨by omega, by omega⟩⟩ | exact Or.inr ⟨by omega, Or.inr ⟨by omega, by omega, by omega⟩⟩), rfl, rfl⟩⟩ | exact ⟨0, _, _, Or.inr (Or.inr (Or.inl ⟨by omega, by omega, cutM_R zC (by first | exact Or.inl ⟨by omega, by omega⟩ | exact Or.inr ⟨by omega, Or.inl ⟨by omega, by omega⟩⟩ | exact Or.inr ⟨by omega, Or.inr ⟨by omega, by omega, by omega⟩⟩), rfl, rfl⟩))⟩ | exact ⟨0, _, _, Or.inr (Or.inr (Or.inr (Or.inl ⟨by omega, by omega, fmE_R zW (by first | exact Or.inl ⟨by omega, by omega⟩ | exact Or.inr ⟨by omega, Or.inl ⟨by omega, by omega⟩⟩ | exact Or.inr ⟨by omega, Or.inr ⟨by omega, by omega, by omega⟩⟩), rfl⟩)))⟩ | exact ⟨0, 0, _, Or.inr (Or.inr (Or.inr (Or.inr (Or.inl ⟨by omega, by omega, joinM_R zJ (by first | exact Or.inl ⟨by omega, by omega⟩ | exact Or.inr ⟨by omega, Or.inl ⟨by omega, by omega⟩⟩ | exact Or.inr ⟨by omega, Or.inr ⟨by omega, by omega, by omega⟩⟩), fun q => absurd q (by omega), rfl⟩))))⟩ | exact ⟨0, _, _, Or.inr (Or.inr (Or.inr (Or.inr (Or.inr (Or.inl ⟨by omega, by omega, sumM_R zS (by first | exact Or.inl ⟨by omega, by omega⟩ | exact Or.inr ⟨by omega, Or.inl ⟨by omega, by omega⟩⟩ | exact Or.inr ⟨by omega, Or.inr ⟨by omega, by omega, by omega⟩⟩), rfl, rfl⟩)))))⟩ | exact ⟨0, 0, 0, (wf_88_0 (by omega)).elim (fun w => Or.inr (Or.inr (Or.inr (Or.inr (Or.inr (Or.inr (w))))))) (fun w => Or.inr (Or.inl w))⟩ | omega) Tok_h62t70 Mq_h62 Wrd_h62 Wd9_h62)
              ·
                have gh26 : my_fr [(10, 7), (10, 8), (10, 27), (66, -1), (67, -1), (68, -1), (69, -1), (70, -1), (71, -1), (72, -1), (73, -1), (74, -1), (75, -1), (77, -1), (78, -1), (79, -1)] h h26 := my_fr.tr gh6 (frh26.mo rfl)
                have Mq_h26 : Mq h26 wv := Mq_ag (my_ag.fr frh26 rfl) Mq_h6
                have Wrd_h26 : Wrd h26 := Wrd_ag (my_ag.fr frh26 rfl) Wrd_h6
                have Wd9_h26 : Wd9 h26 := Wd9_ag (my_ag.fr frh26 rfl) Wd9_h6
                have Ko_h26 : Ko h h26 := Ko_ag (my_ag.fr frh26 rfl) Ko_h6
                show wp l rho (d + 4) 185 186 [(2, 151), (0, p88_0), (0, p88_1), (0, p88_2), (0, p88_3), (0, (36 + v10)), (9, 0), (9, 0)] [(0, v27)] h26 Q
                have ps76 : h6 151 7 = (sN (sm h) (h 151 7)) := ps7
                rw [ps76] at xp35
                rw [ps76] at xp36
                rw [ps76] at xp37
                have tE77 : sm h6 = sm h := sm_eq (fun j => my_fr.at gh6 is_153 rfl) (fun j => my_fr.at gh6 is_154 rfl) (fun j => my_fr.at gh6 is_155 rfl)
                rw [tE77] at xp38
                rw [ps76] at xp38
                rw [tE77] at xp39
                rw [ps76] at xp39
                rw [tE77] at xp40
                rw [ps76] at xp40
                refine w_istore (ls' := [(2, 151), (0, p88_0), (0, p88_1), (0, p88_2), (0, p88_3), (0, (36 + v10)), (0, v27), (9, 0)]) gz_185_186 gm_185 rfl rfl rfl ?_
                refine w_aload_n gz_185_188 rfl ?_
                refine w_bipush gz_185_189 (by decide) ?_
                have ce78 : h26 151 7 = (h26 151 7) := (rfl : h26 151 7 = h26 151 7)
                have ce79 : h26 151 27 = k151_27 := ((my_fr.at frh26 is_151 rfl).trans ((my_up_fld fh6 (by decide)).trans c151_27_88_0))
                refine w_inv (k := 0) (as := [(0, 19)]) (r := []) (x := 151) (ls0 := [(2, 151), (0, 19)]) gz_185_191 gm_187 rfl is_151 rd_10 rfl rfl rfl rfl rfl (c_Model_takeNumber9_f0 (d := (d + 2)) (x1 := 19) (by omega) (by omega) (w32.trans (by omega)) Tok_h26t41 (fun h80 frh80 w81 w82 xp83 xp84 Tok_h80t85 => ?_) (fun h86 v87 frh86 w88 w89 w90 w91 w92 xp93 xp94 xp95 xp96 xp97 xp98 xp99 xp100 Tok_h86t101 => ?_))
                ·
                  have gh80 : my_fr [(10, 7), (10, 8), (10, 27), (66, -1), (67, -1), (68, -1), (69, -1), (70, -1), (71, -1), (72, -1), (73, -1), (74, -1), (75, -1), (77, -1), (78, -1), (79, -1)] h h80 := my_fr.tr gh26 (frh80.mo rfl)
                  have Mq_h80 : Mq h80 wv := Mq_ag (my_ag.fr frh80 rfl) Mq_h26
                  have Wrd_h80 : Wrd h80 := Wrd_ag (my_ag.fr frh80 rfl) Wrd_h26
                  have Wd9_h80 : Wd9 h80 := Wd9_ag (my_ag.fr frh80 rfl) Wd9_h26
                  have Ko_h80 : Ko h h80 := Ko_ag (my_ag.fr frh80 rfl) Ko_h26
                  show wp l rho (d + 4) 185 194 [(2, 151), (0, p88_0), (0, p88_1), (0, p88_2), (0, p88_3), (0, (36 + v10)), (0, v27), (9, 0)] [(0, 0)] h80 Q
                  have ps102 : h26 151 7 = (sN (sm h) (((sN (sm h) (h 151 7))))) := xp38
                  rw [ps102] at xp83
                  have tE103 : sm h26 = sm h := sm_eq (fun j => my_fr.at gh26 is_153 rfl) (fun j => my_fr.at gh26 is_154 rfl) (fun j => my_fr.at gh26 is_155 rfl)
                  rw [tE103] at xp84
                  rw [ps102] at xp84
                  refine w_istore (ls' := [(2, 151), (0, p88_0), (0, p88_1), (0, p88_2), (0, p88_3), (0, (36 + v10)), (0, v27), (0, 0)]) gz_185_194 gm_185 rfl rfl rfl ?_
                  have ce104 : h80 151 8 = (h80 151 8) := (rfl : h80 151 8 = h80 151 8)
                  have zF : fillM (sm h) (sN (sm h) (h 151 7)) (h 157 (h 151 33)) (h80 151 8) ((((sN (sm h) (((sN (sm h) (h 151 7)))))))) := by (unfold fillM; first | exact Or.inr (Or.inr ⟨by omega, by omega, Or.inr (Or.inr ⟨by omega, by omega, ⟨by omega, by omega⟩⟩)⟩) | exact Or.inr (Or.inr ⟨by omega, by omega, or_assoc.mp (Or.inl (by omega))⟩) | exact or_assoc.mp (Or.inl (by omega)))
                  refine w_aload_n gz_185_196 rfl ?_
                  refine w_getX (v := 173) gz_185_197 is_151 rd_10 rfl (by decide) rfl ?_
                  refine w_bipush gz_185_200 (by decide) ?_
                  refine w_iload gz_185_202 rfl ?_
                  refine w_iadd gz_185_204 ⟨by omega, by omega⟩ ?_
                  refine w_aload_n gz_185_205 rfl ?_
                  refine v_getI (j := 8) gz_185_206 rfl is_151 rd_10 rfl (fun v106 ev106 pv106 qv106 => ?_)
                  have zv106 := ev106.trans (rfl : h80 151 8 = h80 151 8)
                  refine w_ifne (t := 217) gz_185_209 rfl (fun u107 => ?_) (fun u107 => by exfalso; omega)
                  refine w_aload_n gz_185_217 rfl ?_
                  refine w_getX (v := 173) gz_185_218 is_151 rd_10 rfl (by decide) rfl ?_
                  refine w_bipush gz_185_221 (by decide) ?_
                  refine w_iload gz_185_223 rfl ?_
                  refine w_iadd gz_185_225 ⟨by omega, by omega⟩ ?_
                  have hi109 : 0 ≤ (24 + v27) := by omega
                  have hi110 : (24 + v27) ≤ 27 := by omega
                  refine w_iald gz_185_226 is_173 rd_72 (by omega) (by omega) (fun v111 ev111 pv111 qv111 => ?_)
                  have hi112 : (-1) ≤ v111 := by omega
                  have hi113 : v111 ≤ 19 := by omega
                  have hi114 : 0 ≤ (24 + v27) := by omega
                  have hi115 : (24 + v27) ≤ 27 := by omega
                  refine w_iast gz_185_227 is_173 rd_72 (by omega) (by omega) (by omega) (by omega) (fun h116 fh116 => ?_)
                  have gh116 : my_fr [(10, 7), (10, 8), (10, 27), (66, -1), (67, -1), (68, -1), (69, -1), (70, -1), (71, -1), (72, -1), (73, -1), (74, -1), (75, -1), (77, -1), (78, -1), (79, -1)] h h116 := my_fr.up gh80 is_173 fh116 rfl
                  have Mq_h116 : Mq h116 wv := Mq_ag (my_ag.up fh116 is_173 rfl) Mq_h80
                  have Wrd_h116 : Wrd h116 := Wrd_ag (my_ag.up fh116 is_173 rfl) Wrd_h80
                  have Wd9_h116 : Wd9 h116 := Wd9_ag (my_ag.up fh116 is_173 rfl) Wd9_h80
                  have Ko_h116 : Ko h h116 := Ko_ag (my_ag.up fh116 is_173 rfl) Ko_h80
                  have Tok_h116 : Tok h116 := Tok_ag (my_ag.up fh116 is_173 rfl) Tok_h80t85
                  refine w_aload_n gz_185_228 rfl ?_
                  refine v_getI (j := 8) gz_185_229 rfl is_151 rd_10 rfl (fun v117 ev117 pv117 qv117 => ?_)
                  have zv117 := ev117.trans ((my_up_role fh116 is_151 is_173 rfl).trans ev106.symm)
                  refine w_ifne (t := 269) gz_185_232 rfl (fun u118 => ?_) (fun u118 => by exfalso; omega)
                  refine w_aload_n gz_185_269 rfl ?_
                  refine w_bipush gz_185_270 (by decide) ?_
                  have ce119 : h116 151 7 = h80 151 7 := ((my_up_role fh116 is_151 is_173 rfl).trans (rfl : h80 151 7 = h80 151 7))
                  refine w_inv (k := 0) (as := [(0, 59)]) (r := []) (x := 151) (ls0 := [(2, 151), (0, 59)]) gz_185_272 gm_183 rfl is_151 rd_10 rfl rfl rfl rfl rfl (c_Model_takeSign9_f1 (d := (d + 2))  (v117) (ev117.symm) (by omega) (by omega) Tok_h116 (fun w120 w121 xp122 xp123 Tok_h116t124 => ?_))
                  show wp l rho (d + 4) 185 275 [(2, 151), (0, p88_0), (0, p88_1), (0, p88_2), (0, p88_3), (0, (36 + v10)), (0, v27), (0, 0)] [] h116 Q
                  have ps125 : h116 151 7 = (((sN (sm h) (((sN (sm h) (h 151 7))))))) := ((my_up_role fh116 is_151 is_173 rfl).trans xp83)
                  rw [ps125] at xp122
                  rw [ps125] at xp123
                  have psR : h116 151 7 = (((sN (sm h) (((sN (sm h) (h 151 7))))))) := ((my_up_role fh116 is_151 is_173 rfl).trans xp83)
                  have npsR : sm h116 = sm h := sm_eq (fun j => my_fr.at gh116 is_153 rfl) (fun j => my_fr.at gh116 is_154 rfl) (fun j => my_fr.at gh116 is_155 rfl)
                  have ce126 : h116 151 7 = h80 151 7 := ((my_up_role fh116 is_151 is_173 rfl).trans (rfl : h80 151 7 = h80 151 7))
                  have ce127 : h116 151 8 = v117 := ev117.symm
                  have ce128 : h116 151 27 = k151_27 := ((my_up_role fh116 is_151 is_173 rfl).trans ((my_fr.at frh80 is_151 rfl).trans ((my_fr.at frh26 is_151 rfl).trans ((my_up_fld fh6 (by decide)).trans c151_27_88_0))))
                  have r167 : ∀ j : Int, h116 167 j = h88_0 167 j := fun j => ((my_up_role fh116 is_167 is_173 rfl).trans ((my_fr.at frh80 is_167 rfl).trans ((my_fr.at frh26 is_167 rfl).trans ((my_up_role fh6 is_167 is_151 rfl).trans (rfl : h88_0 167 j = h88_0 167 j)))))
                  have r6 := r167 6
                  have c129 := ev117.symm
                  exact w_vret gz_185_275 gm_185 (k0 h116 (gh116) (by omega) (by omega) (by first | exact Ko_h116 | exact Or.inl ⟨by omega, fillM_R zF (by first | exact Or.inl ⟨by omega, by omega⟩ | exact Or.inr ⟨by omega, Or.inl ⟨by omega, by omega⟩⟩ | exact Or.inr ⟨by omega, Or.inr ⟨by omega, by omega, by omega⟩⟩), by omega, by omega⟩ | exact Or.inr (Or.inr (Or.inl ⟨by omega, by omega, cutM_R zC (by first | exact Or.inl ⟨by omega, by omega⟩ | exact Or.inr ⟨by omega, Or.inl ⟨by omega, by omega⟩⟩ | exact Or.inr ⟨by omega, Or.inr ⟨by omega, by omega, by omega⟩⟩), by first | omega | exact cw9, by omega⟩)) | exact Or.inr (Or.inr (Or.inr (Or.inl ⟨by omega, by omega, by first | (rw [cw9]; exact fmE_R zW (by first | exact Or.inl ⟨by omega, by omega⟩ | exact Or.inr ⟨by omega, Or.inl ⟨by omega, by omega⟩⟩ | exact Or.inr ⟨by omega, Or.inr ⟨by omega, by omega, by omega⟩⟩)) | exact fmE_R zW (by first | exact Or.inl ⟨by omega, by omega⟩ | exact Or.inr ⟨by omega, Or.inl ⟨by omega, by omega⟩⟩ | exact Or.inr ⟨by omega, Or.inr ⟨by omega, by omega, by omega⟩⟩), by omega⟩))) | exact Or.inr (Or.inr (Or.inr (Or.inr (Or.inl ⟨by omega, by omega, joinM_R zJ (by first | exact Or.inl ⟨by omega, by omega⟩ | exact Or.inr ⟨by omega, Or.inl ⟨by omega, by omega⟩⟩ | exact Or.inr ⟨by omega, Or.inr ⟨by omega, by omega, by omega⟩⟩), fun _ => by omega, by omega⟩)))) | exact Or.inr (Or.inr (Or.inr (Or.inr (Or.inr (Or.inl ⟨by omega, by omega, sumM_R zS (by first | exact Or.inl ⟨by omega, by omega⟩ | exact Or.inr ⟨by omega, Or.inl ⟨by omega, by omega⟩⟩ | exact Or.inr ⟨by omega, Or.inr ⟨by omega, by omega, by omega⟩⟩), by first | omega | exact cw9, by omega⟩))))) | exact ⟨0, _, _, Or.inl ⟨by omega, fillM_R zF (by first | exact Or.inl ⟨by omega, by omega⟩ | exact Or.inr ⟨by omega, Or.inl ⟨by omega, by omega⟩⟩ | exact Or.inr ⟨by omega, Or.inr ⟨by omega, by omega, by omega⟩⟩), rfl, rfl⟩⟩ | exact ⟨0, _, _, Or.inr (Or.inr (Or.inl ⟨by omega, by omega, cutM_R zC (by first | exact Or.inl ⟨by omega, by omega⟩ | exact Or.inr ⟨by omega, Or.inl ⟨by omega, by omega⟩⟩ | exact Or.inr ⟨by omega, Or.inr ⟨by omega, by omega, by omega⟩⟩), rfl, rfl⟩))⟩ | exact ⟨0, _, _, Or.inr (Or.inr (Or.inr (Or.inl ⟨by omega, by omega, fmE_R zW (by first | exact Or.inl ⟨by omega, by omega⟩ | exact Or.inr ⟨by omega, Or.inl ⟨by omega, by omega⟩⟩ | exact Or.inr ⟨by omega, Or.inr ⟨by omega, by omega, by omega⟩⟩), rfl⟩)))⟩ | exact ⟨0, 0, _, Or.inr (Or.inr (Or.inr (Or.inr (Or.inl ⟨by omega, by omega, joinM_R zJ (by first | exact Or.inl ⟨by omega, by omega⟩ | exact Or.inr ⟨by omega, Or.inl ⟨by omega, by omega⟩⟩ | exact Or.inr ⟨by omega, Or.inr ⟨by omega, by omega, by omega⟩⟩), fun q => absurd q (by omega), rfl⟩))))⟩ | exact ⟨0, _, _, Or.inr (Or.inr (Or.inr (Or.inr (Or.inr (Or.inl ⟨by omega, by omega, sumM_R zS (by first | exact Or.inl ⟨by omega, by omega⟩ | exact Or.inr ⟨by omega, Or.inl ⟨by omega, by omega⟩⟩ | exact Or.inr ⟨by omega, Or.inr ⟨by omega, by omega, by omega⟩⟩), rfl, rfl⟩)))))⟩ | exact ⟨0, 0, 0, (wf_88_0 (by omega)).elim (fun w => Or.inr (Or.inr (Or.inr (Or.inr (Or.inr (Or.inr (w))))))) (fun w => Or.inr (Or.inl w))⟩ | omega) (by first | exact Ko_h116 | exact Or.inl ⟨by omega, fillM_R zF (by first | exact Or.inl ⟨by omega, by omega⟩ | exact Or.inr ⟨by omega, Or.inl ⟨by omega, by omega⟩⟩ | exact Or.inr ⟨by omega, Or.inr ⟨by omega, by omega, by omega⟩⟩), by omega, by omega⟩ | exact Or.inr (Or.inr (Or.inl ⟨by omega, by omega, cutM_R zC (by first | exact Or.inl ⟨by omega, by omega⟩ | exact Or.inr ⟨by omega, Or.inl ⟨by omega, by omega⟩⟩ | exact Or.inr ⟨by omega, Or.inr ⟨by omega, by omega, by omega⟩⟩), by first | omega | exact cw9, by omega⟩)) | exact Or.inr (Or.inr (Or.inr (Or.inl ⟨by omega, by omega, by first | (rw [cw9]; exact fmE_R zW (by first | exact Or.inl ⟨by omega, by omega⟩ | exact Or.inr ⟨by omega, Or.inl ⟨by omega, by omega⟩⟩ | exact Or.inr ⟨by omega, Or.inr ⟨by omega, by omega, by omega⟩⟩)) | exact fmE_R zW (by first | exact Or.inl ⟨by omega, by omega⟩ | exact Or.inr ⟨by omega, Or.inl ⟨by omega, by omega⟩⟩ | exact Or.inr ⟨by omega, Or.inr ⟨by omega, by omega, by omega⟩⟩), by omega⟩))) | exact Or.inr (Or.inr (Or.inr (Or.inr (Or.inl ⟨by omega, by omega, joinM_R zJ (by first | exact Or.inl ⟨by omega, by omega⟩ | exact Or.inr ⟨by omega, Or.inl ⟨by omega, by omega⟩⟩ | exact Or.inr ⟨by omega, Or.inr ⟨by omega, by omega, by omega⟩⟩), fun _ => by omega, by omega⟩)))) | exact Or.inr (Or.inr (Or.inr (Or.inr (Or.inr (Or.inl ⟨by omega, by omega, sumM_R zS (by first | exact Or.inl ⟨by omega, by omega⟩ | exact Or.inr ⟨by omega, Or.inl ⟨by omega, by omega⟩⟩ | exact Or.inr ⟨by omega, Or.inr ⟨by omega, by omega, by omega⟩⟩), by first | omega | exact cw9, by omega⟩))))) | exact ⟨0, _, _, Or.inl ⟨by omega, fillM_R zF (by first | exact Or.inl ⟨by omega, by omega⟩ | exact Or.inr ⟨by omega, Or.inl ⟨by omega, by omega⟩⟩ | exact Or.inr ⟨by omega, Or.inr ⟨by omega, by omega, by omega⟩⟩), rfl, rfl⟩⟩ | exact ⟨0, _, _, Or.inr (Or.inr (Or.inl ⟨by omega, by omega, cutM_R zC (by first | exact Or.inl ⟨by omega, by omega⟩ | exact Or.inr ⟨by omega, Or.inl ⟨by omega, by omega⟩⟩ | exact Or.inr ⟨by omega, Or.inr ⟨by omega, by omega, by omega⟩⟩), rfl, rfl⟩))⟩ | exact ⟨0, _, _, Or.inr (Or.inr (Or.inr (Or.inl ⟨by omega, by omega, fmE_R zW (by first | exact Or.inl ⟨by omega, by omega⟩ | exact Or.inr ⟨by omega, Or.inl ⟨by omega, by omega⟩⟩ | exact Or.inr ⟨by omega, Or.inr ⟨by omega, by omega, by omega⟩⟩), rfl⟩)))⟩ | exact ⟨0, 0, _, Or.inr (Or.inr (Or.inr (Or.inr (Or.inl ⟨by omega, by omega, joinM_R zJ (by first | exact Or.inl ⟨by omega, by omega⟩ | exact Or.inr ⟨by omega, Or.inl ⟨by omega, by omega⟩⟩ | exact Or.inr ⟨by omega, Or.inr ⟨by omega, by omega, by omega⟩⟩), fun q => absurd q (by omega), rfl⟩))))⟩ | exact ⟨0, _, _, Or.inr (Or.inr (Or.inr (Or.inr (Or.inr (Or.inl ⟨by omega, by omega, sumM_R zS (by first | exact Or.inl ⟨by omega, by omega⟩ | exact Or.inr ⟨by omega, Or.inl ⟨by omega, by omega⟩⟩ | exact Or.inr ⟨by omega, Or.inr ⟨by omega, by omega, by omega⟩⟩), rfl, rfl⟩)))))⟩ | exact ⟨0, 0, 0, (wf_88_0 (by omega)).elim (fun w => Or.inr (Or.inr (Or.inr (Or.inr (Or.inr (Or.inr (w))))))) (fun w => Or.inr (Or.inl w))⟩ | omega) (by first | exact Ko_h116 | exact Or.inl ⟨by omega, fillM_R zF (by first | exact Or.inl ⟨by omega, by omega⟩ | exact Or.inr ⟨by omega, Or.inl ⟨by omega, by omega⟩⟩ | exact Or.inr ⟨by omega, Or.inr ⟨by omega, by omega, by omega⟩⟩), by omega, by omega⟩ | exact Or.inr (Or.inr (Or.inl ⟨by omega, by omega, cutM_R zC (by first | exact Or.inl ⟨by omega, by omega⟩ | exact Or.inr ⟨by omega, Or.inl ⟨by omega, by omega⟩⟩ | exact Or.inr ⟨by omega, Or.inr ⟨by omega, by omega, by omega⟩⟩), by first | omega | exact cw9, by omega⟩)) | exact Or.inr (Or.inr (Or.inr (Or.inl ⟨by omega, by omega, by first | (rw [cw9]; exact fmE_R zW (by first | exact Or.inl ⟨by omega, by omega⟩ | exact Or.inr ⟨by omega, Or.inl ⟨by omega, by omega⟩⟩ | exact Or.inr ⟨by omega, Or.inr ⟨by omega, by omega, by omega⟩⟩)) | exact fmE_R zW (by first | exact Or.inl ⟨by omega, by omega⟩ | exact Or.inr ⟨by omega, Or.inl ⟨by omega, by omega⟩⟩ | exact Or.inr ⟨by omega, Or.inr ⟨by omega, by omega, by omega⟩⟩), by omega⟩))) | exact Or.inr (Or.inr (Or.inr (Or.inr (Or.inl ⟨by omega, by omega, joinM_R zJ (by first | exact Or.inl ⟨by omega, by omega⟩ | exact Or.inr ⟨by omega, Or.inl ⟨by omega, by omega⟩⟩ | exact Or.inr ⟨by omega, Or.inr ⟨by omega, by omega, by omega⟩⟩), fun _ => by omega, by omega⟩)))) | exact Or.inr (Or.inr (Or.inr (Or.inr (Or.inr (Or.inl ⟨by omega, by omega, sumM_R zS (by first | exact Or.inl ⟨by omega, by omega⟩ | exact Or.inr ⟨by omega, Or.inl ⟨by omega, by omega⟩⟩ | exact Or.inr ⟨by omega, Or.inr ⟨by omega, by omega, by omega⟩⟩), by first | omega | exact cw9, by omega⟩))))) | exact ⟨0, _, _, Or.inl ⟨by omega, fillM_R zF (by first | exact Or.inl ⟨by omega, by omega⟩ | exact Or.inr ⟨by omega, Or.inl ⟨by omega, by omega⟩⟩ | exact Or.inr ⟨by omega, Or.inr ⟨by omega, by omega, by omega⟩⟩), rfl, rfl⟩⟩ | exact ⟨0, _, _, Or.inr (Or.inr (Or.inl ⟨by omega, by omega, cutM_R zC (by first | exact Or.inl ⟨by omega, by omega⟩ | exact Or.inr ⟨by omega, Or.inl ⟨by omega, by omega⟩⟩ | exact Or.inr ⟨by omega, Or.inr ⟨by omega, by omega, by omega⟩⟩), rfl, rfl⟩))⟩ | exact ⟨0, _, _, Or.inr (Or.inr (Or.inr (Or.inl ⟨by omega, by omega, fmE_R zW (by first | exact Or.inl ⟨by omega, by omega⟩ | exact Or.inr ⟨by omega, Or.inl ⟨by omega, by omega⟩⟩ | exact Or.inr ⟨by omega, Or.inr ⟨by omega, by omega, by omega⟩⟩), rfl⟩)))⟩ | exact ⟨0, 0, _, Or.inr (Or.inr (Or.inr (Or.inr (Or.inl ⟨by omega, by omega, joinM_R zJ (by first | exact Or.inl ⟨by omega, by omega⟩ | exact Or.inr ⟨by omega, Or.inl ⟨by omega, by omega⟩⟩ | exact Or.inr ⟨by omega, Or.inr ⟨by omega, by omega, by omega⟩⟩), fun q => absurd q (by omega), rfl⟩))))⟩ | exact ⟨0, _, _, Or.inr (Or.inr (Or.inr (Or.inr (Or.inr (Or.inl ⟨by omega, by omega, sumM_R zS (by first | exact Or.inl ⟨by omega, by omega⟩ | exact Or.inr ⟨by omega, Or.inl ⟨by omega, by omega⟩⟩ | exact Or.inr ⟨by omega, Or.inr ⟨by omega, by omega, by omega⟩⟩), rfl, rfl⟩)))))⟩ | exact ⟨0, 0, 0, (wf_88_0 (by omega)).elim (fun w => Or.inr (Or.inr (Or.inr (Or.inr (Or.inr (Or.inr (w))))))) (fun w => Or.inr (Or.inl w))⟩ | omega) Tok_h116t124 Mq_h116 Wrd_h116 Wd9_h116)
                ·
                  have gh86 : my_fr [(10, 7), (10, 8), (10, 27), (66, -1), (67, -1), (68, -1), (69, -1), (70, -1), (71, -1), (72, -1), (73, -1), (74, -1), (75, -1), (77, -1), (78, -1), (79, -1)] h h86 := my_fr.tr gh26 (frh86.mo rfl)
                  have Mq_h86 : Mq h86 wv := Mq_ag (my_ag.fr frh86 rfl) Mq_h26
                  have Wrd_h86 : Wrd h86 := Wrd_ag (my_ag.fr frh86 rfl) Wrd_h26
                  have Wd9_h86 : Wd9 h86 := Wd9_ag (my_ag.fr frh86 rfl) Wd9_h26
                  have Ko_h86 : Ko h h86 := Ko_ag (my_ag.fr frh86 rfl) Ko_h26
                  show wp l rho (d + 4) 185 194 [(2, 151), (0, p88_0), (0, p88_1), (0, p88_2), (0, p88_3), (0, (36 + v10)), (0, v27), (9, 0)] [(0, v87)] h86 Q
                  have ps130 : h26 151 7 = (sN (sm h) (((sN (sm h) (h 151 7))))) := xp38
                  rw [ps130] at xp95
                  rw [ps130] at xp96
                  rw [ps130] at xp97
                  have tE131 : sm h26 = sm h := sm_eq (fun j => my_fr.at gh26 is_153 rfl) (fun j => my_fr.at gh26 is_154 rfl) (fun j => my_fr.at gh26 is_155 rfl)
                  rw [tE131] at xp98
                  rw [ps130] at xp98
                  rw [tE131] at xp99
                  rw [ps130] at xp99
                  rw [tE131] at xp100
                  rw [ps130] at xp100
                  refine w_istore (ls' := [(2, 151), (0, p88_0), (0, p88_1), (0, p88_2), (0, p88_3), (0, (36 + v10)), (0, v27), (0, v87)]) gz_185_194 gm_185 rfl rfl rfl ?_
                  have ce132 : h86 151 7 = (h86 151 7) := (rfl : h86 151 7 = h86 151 7)
                  have ce133 : h86 151 8 = 0 := w92
                  have zF : fillM (sm h) (sN (sm h) (h 151 7)) (h 157 (h 151 33)) (h86 151 8) ((sN (sm h) (((sN (sm h) (((sN (sm h) (h 151 7))))))))) := by (unfold fillM; first | exact Or.inr (Or.inr ⟨by omega, by omega, Or.inr (Or.inr ⟨by omega, by omega, ⟨by omega, by omega⟩⟩)⟩) | exact Or.inr (Or.inr ⟨by omega, by omega, or_assoc.mp (Or.inl (by omega))⟩) | exact or_assoc.mp (Or.inl (by omega)))
                  refine w_aload_n gz_185_196 rfl ?_
                  refine w_getX (v := 173) gz_185_197 is_151 rd_10 rfl (by decide) rfl ?_
                  refine w_bipush gz_185_200 (by decide) ?_
                  refine w_iload gz_185_202 rfl ?_
                  refine w_iadd gz_185_204 ⟨by omega, by omega⟩ ?_
                  refine w_aload_n gz_185_205 rfl ?_
                  refine v_getI (j := 8) gz_185_206 rfl is_151 rd_10 rfl (fun v135 ev135 pv135 qv135 => ?_)
                  have zv135 := ev135.trans w92
                  refine w_ifne (t := 217) gz_185_209 rfl (fun u136 => by exfalso; omega) (fun u136 => ?_)
                  refine w_iload gz_185_212 rfl ?_
                  refine w_goto (t := 227) gz_185_214 rfl ?_
                  have hi137 : (-1) ≤ v87 := by omega
                  have hi138 : v87 ≤ 19 := by omega
                  have hi139 : 0 ≤ (24 + v27) := by omega
                  have hi140 : (24 + v27) ≤ 27 := by omega
                  refine w_iast gz_185_227 is_173 rd_72 (by omega) (by omega) (by omega) (by omega) (fun h141 fh141 => ?_)
                  have gh141 : my_fr [(10, 7), (10, 8), (10, 27), (66, -1), (67, -1), (68, -1), (69, -1), (70, -1), (71, -1), (72, -1), (73, -1), (74, -1), (75, -1), (77, -1), (78, -1), (79, -1)] h h141 := my_fr.up gh86 is_173 fh141 rfl
                  have Mq_h141 : Mq h141 wv := Mq_ag (my_ag.up fh141 is_173 rfl) Mq_h86
                  have Wrd_h141 : Wrd h141 := Wrd_ag (my_ag.up fh141 is_173 rfl) Wrd_h86
                  have Wd9_h141 : Wd9 h141 := Wd9_ag (my_ag.up fh141 is_173 rfl) Wd9_h86
                  have Ko_h141 : Ko h h141 := Ko_ag (my_ag.up fh141 is_173 rfl) Ko_h86
                  have Tok_h141 : Tok h141 := Tok_ag (my_ag.up fh141 is_173 rfl) Tok_h86t101
                  refine w_aload_n gz_185_228 rfl ?_
                  refine v_getI (j := 8) gz_185_229 rfl is_151 rd_10 rfl (fun v142 ev142 pv142 qv142 => ?_)
                  have zv142 := ev142.trans ((my_up_role fh141 is_151 is_173 rfl).trans ev135.symm)
                  refine w_ifne (t := 269) gz_185_232 rfl (fun u143 => by exfalso; omega) (fun u143 => ?_)
                  refine w_iload_n gz_185_235 rfl ?_
                  refine w_ifne (t := 252) gz_185_236 rfl (fun u144 => by exfalso; omega) (fun u144 => ?_)
                  refine w_iload_n gz_185_239 rfl ?_
                  refine w_ifne (t := 252) gz_185_240 rfl (fun u145 => by exfalso; omega) (fun u145 => ?_)
                  refine w_iload_n gz_185_243 rfl ?_
                  refine w_ifne (t := 252) gz_185_244 rfl (fun u146 => by exfalso; omega) (fun u146 => ?_)
                  refine w_iload gz_185_247 rfl ?_
                  refine w_ifeq (t := 269) gz_185_249 rfl (fun u147 => ?_) (fun u147 => by exfalso; omega)
                  refine w_aload_n gz_185_269 rfl ?_
                  refine w_bipush gz_185_270 (by decide) ?_
                  have ce148 : h141 151 7 = (h86 151 7) := ((my_up_role fh141 is_151 is_173 rfl).trans (rfl : h86 151 7 = h86 151 7))
                  refine w_inv (k := 0) (as := [(0, 59)]) (r := []) (x := 151) (ls0 := [(2, 151), (0, 59)]) gz_185_272 gm_183 rfl is_151 rd_10 rfl rfl rfl rfl rfl (c_Model_takeSign9_f0 (d := (d + 2))  (ev142.symm.trans (by omega)) Tok_h141 (fun h149 frh149 w150 w151 xp152 xp153 xp154 Tok_h149t155 => ?_) (fun h156 frh156 w157 w158 w159 xp160 xp161 xp162 Tok_h156t163 => ?_))
                  ·
                    have gh149 : my_fr [(10, 7), (10, 8), (10, 27), (66, -1), (67, -1), (68, -1), (69, -1), (70, -1), (71, -1), (72, -1), (73, -1), (74, -1), (75, -1), (77, -1), (78, -1), (79, -1)] h h149 := my_fr.tr gh141 (frh149.mo rfl)
                    have Mq_h149 : Mq h149 wv := Mq_ag (my_ag.fr frh149 rfl) Mq_h141
                    have Wrd_h149 : Wrd h149 := Wrd_ag (my_ag.fr frh149 rfl) Wrd_h141
                    have Wd9_h149 : Wd9 h149 := Wd9_ag (my_ag.fr frh149 rfl) Wd9_h141
                    have Ko_h149 : Ko h h149 := Ko_ag (my_ag.fr frh149 rfl) Ko_h141
                    show wp l rho (d + 4) 185 275 [(2, 151), (0, p88_0), (0, p88_1), (0, p88_2), (0, p88_3), (0, (36 + v10)), (0, v27), (0, v87)] [] h149 Q
                    have ps164 : h141 151 7 = (sN (sm h) (((sN (sm h) (((sN (sm h) (h 151 7)))))))) := ((my_up_role fh141 is_151 is_173 rfl).trans xp98)
                    rw [ps164] at xp152
                    have tE165 : sm h141 = sm h := sm_eq (fun j => my_fr.at gh141 is_153 rfl) (fun j => my_fr.at gh141 is_154 rfl) (fun j => my_fr.at gh141 is_155 rfl)
                    rw [tE165] at xp153
                    rw [ps164] at xp153
                    rw [tE165] at xp154
                    rw [ps164] at xp154
                    have psR : h149 151 7 = h149 151 7 := (rfl : h149 151 7 = h149 151 7)
                    have npsR : sm h149 = sm h := sm_eq (fun j => my_fr.at gh149 is_153 rfl) (fun j => my_fr.at gh149 is_154 rfl) (fun j => my_fr.at gh149 is_155 rfl)
                    have ce166 : h149 151 8 = (h149 151 8) := (rfl : h149 151 8 = h149 151 8)
                    have ce167 : h149 151 27 = k151_27 := ((my_fr.at frh149 is_151 rfl).trans ((my_up_role fh141 is_151 is_173 rfl).trans ((my_fr.at frh86 is_151 rfl).trans ((my_fr.at frh26 is_151 rfl).trans ((my_up_fld fh6 (by decide)).trans c151_27_88_0)))))
                    have r167 : ∀ j : Int, h149 167 j = h88_0 167 j := fun j => ((my_fr.at frh149 is_167 rfl).trans ((my_up_role fh141 is_167 is_173 rfl).trans ((my_fr.at frh86 is_167 rfl).trans ((my_fr.at frh26 is_167 rfl).trans ((my_up_role fh6 is_167 is_151 rfl).trans (rfl : h88_0 167 j = h88_0 167 j))))))
                    have r6 := r167 6
                    have c168 := (rfl : h149 151 8 = h149 151 8)
                    exact w_vret gz_185_275 gm_185 (k0 h149 (gh149) (by omega) (by omega) (by first | exact Ko_h149 | exact Or.inl ⟨by omega, fillM_R zF (by first | exact Or.inl ⟨by omega, by omega⟩ | exact Or.inr ⟨by omega, Or.inl ⟨by omega, by omega⟩⟩ | exact Or.inr ⟨by omega, Or.inr ⟨by omega, by omega, by omega⟩⟩), by omega, by omega⟩ | exact Or.inr (Or.inr (Or.inl ⟨by omega, by omega, cutM_R zC (by first | exact Or.inl ⟨by omega, by omega⟩ | exact Or.inr ⟨by omega, Or.inl ⟨by omega, by omega⟩⟩ | exact Or.inr ⟨by omega, Or.inr ⟨by omega, by omega, by omega⟩⟩), by first | omega | exact cw9, by omega⟩)) | exact Or.inr (Or.inr (Or.inr (Or.inl ⟨by omega, by omega, by first | (rw [cw9]; exact fmE_R zW (by first | exact Or.inl ⟨by omega, by omega⟩ | exact Or.inr ⟨by omega, Or.inl ⟨by omega, by omega⟩⟩ | exact Or.inr ⟨by omega, Or.inr ⟨by omega, by omega, by omega⟩⟩)) | exact fmE_R zW (by first | exact Or.inl ⟨by omega, by omega⟩ | exact Or.inr ⟨by omega, Or.inl ⟨by omega, by omega⟩⟩ | exact Or.inr ⟨by omega, Or.inr ⟨by omega, by omega, by omega⟩⟩), by omega⟩))) | exact Or.inr (Or.inr (Or.inr (Or.inr (Or.inl ⟨by omega, by omega, joinM_R zJ (by first | exact Or.inl ⟨by omega, by omega⟩ | exact Or.inr ⟨by omega, Or.inl ⟨by omega, by omega⟩⟩ | exact Or.inr ⟨by omega, Or.inr ⟨by omega, by omega, by omega⟩⟩), fun _ => by omega, by omega⟩)))) | exact Or.inr (Or.inr (Or.inr (Or.inr (Or.inr (Or.inl ⟨by omega, by omega, sumM_R zS (by first | exact Or.inl ⟨by omega, by omega⟩ | exact Or.inr ⟨by omega, Or.inl ⟨by omega, by omega⟩⟩ | exact Or.inr ⟨by omega, Or.inr ⟨by omega, by omega, by omega⟩⟩), by first | omega | exact cw9, by omega⟩))))) | exact ⟨0, _, _, Or.inl ⟨by omega, fillM_R zF (by first | exact Or.inl ⟨by omega, by omega⟩ | exact Or.inr ⟨by omega, Or.inl ⟨by omega, by omega⟩⟩ | exact Or.inr ⟨by omega, Or.inr ⟨by omega, by omega, by omega⟩⟩), rfl, rfl⟩⟩ | exact ⟨0, _, _, Or.inr (Or.inr (Or.inl ⟨by omega, by omega, cutM_R zC (by first | exact Or.inl ⟨by omega, by omega⟩ | exact Or.inr ⟨by omega, Or.inl ⟨by omega, by omega⟩⟩ | exact Or.inr ⟨by omega, Or.inr ⟨by omega, by omega, by omega⟩⟩), rfl, rfl⟩))⟩ | exact ⟨0, _, _, Or.inr (Or.inr (Or.inr (Or.inl ⟨by omega, by omega, fmE_R zW (by first | exact Or.inl ⟨by omega, by omega⟩ | exact Or.inr ⟨by omega, Or.inl ⟨by omega, by omega⟩⟩ | exact Or.inr ⟨by omega, Or.inr ⟨by omega, by omega, by omega⟩⟩), rfl⟩)))⟩ | exact ⟨0, 0, _, Or.inr (Or.inr (Or.inr (Or.inr (Or.inl ⟨by omega, by omega, joinM_R zJ (by first | exact Or.inl ⟨by omega, by omega⟩ | exact Or.inr ⟨by omega, Or.inl ⟨by omega, by omega⟩⟩ | exact Or.inr ⟨by omega, Or.inr ⟨by omega, by omega, by omega⟩⟩), fun q => absurd q (by omega), rfl⟩))))⟩ | exact ⟨0, _, _, Or.inr (Or.inr (Or.inr (Or.inr (Or.inr (Or.inl ⟨by omega, by omega, sumM_R zS (by first | exact Or.inl ⟨by omega, by omega⟩ | exact Or.inr ⟨by omega, Or.inl ⟨by omega, by omega⟩⟩ | exact Or.inr ⟨by omega, Or.inr ⟨by omega, by omega, by omega⟩⟩), rfl, rfl⟩)))))⟩ | exact ⟨0, 0, 0, (wf_88_0 (by omega)).elim (fun w => Or.inr (Or.inr (Or.inr (Or.inr (Or.inr (Or.inr (w))))))) (fun w => Or.inr (Or.inl w))⟩ | omega) (by first | exact Ko_h149 | exact Or.inl ⟨by omega, fillM_R zF (by first | exact Or.inl ⟨by omega, by omega⟩ | exact Or.inr ⟨by omega, Or.inl ⟨by omega, by omega⟩⟩ | exact Or.inr ⟨by omega, Or.inr ⟨by omega, by omega, by omega⟩⟩), by omega, by omega⟩ | exact Or.inr (Or.inr (Or.inl ⟨by omega, by omega, cutM_R zC (by first | exact Or.inl ⟨by omega, by omega⟩ | exact Or.inr ⟨by omega, Or.inl ⟨by omega, by omega⟩⟩ | exact Or.inr ⟨by omega, Or.inr ⟨by omega, by omega, by omega⟩⟩), by first | omega | exact cw9, by omega⟩)) | exact Or.inr (Or.inr (Or.inr (Or.inl ⟨by omega, by omega, by first | (rw [cw9]; exact fmE_R zW (by first | exact Or.inl ⟨by omega, by omega⟩ | exact Or.inr ⟨by omega, Or.inl ⟨by omega, by omega⟩⟩ | exact Or.inr ⟨by omega, Or.inr ⟨by omega, by omega, by omega⟩⟩)) | exact fmE_R zW (by first | exact Or.inl ⟨by omega, by omega⟩ | exact Or.inr ⟨by omega, Or.inl ⟨by omega, by omega⟩⟩ | exact Or.inr ⟨by omega, Or.inr ⟨by omega, by omega, by omega⟩⟩), by omega⟩))) | exact Or.inr (Or.inr (Or.inr (Or.inr (Or.inl ⟨by omega, by omega, joinM_R zJ (by first | exact Or.inl ⟨by omega, by omega⟩ | exact Or.inr ⟨by omega, Or.inl ⟨by omega, by omega⟩⟩ | exact Or.inr ⟨by omega, Or.inr ⟨by omega, by omega, by omega⟩⟩), fun _ => by omega, by omega⟩)))) | exact Or.inr (Or.inr (Or.inr (Or.inr (Or.inr (Or.inl ⟨by omega, by omega, sumM_R zS (by first | exact Or.inl ⟨by omega, by omega⟩ | exact Or.inr ⟨by omega, Or.inl ⟨by omega, by omega⟩⟩ | exact Or.inr ⟨by omega, Or.inr ⟨by omega, by omega, by omega⟩⟩), by first | omega | exact cw9, by omega⟩))))) | exact ⟨0, _, _, Or.inl ⟨by omega, fillM_R zF (by first | exact Or.inl ⟨by omega, by omega⟩ | exact Or.inr ⟨by omega, Or.inl ⟨by omega, by omega⟩⟩ | exact Or.inr ⟨by omega, Or.inr ⟨by omega, by omega, by omega⟩⟩), rfl, rfl⟩⟩ | exact ⟨0, _, _, Or.inr (Or.inr (Or.inl ⟨by omega, by omega, cutM_R zC (by first | exact Or.inl ⟨by omega, by omega⟩ | exact Or.inr ⟨by omega, Or.inl ⟨by omega, by omega⟩⟩ | exact Or.inr ⟨by omega, Or.inr ⟨by omega, by omega, by omega⟩⟩), rfl, rfl⟩))⟩ | exact ⟨0, _, _, Or.inr (Or.inr (Or.inr (Or.inl ⟨by omega, by omega, fmE_R zW (by first | exact Or.inl ⟨by omega, by omega⟩ | exact Or.inr ⟨by omega, Or.inl ⟨by omega, by omega⟩⟩ | exact Or.inr ⟨by omega, Or.inr ⟨by omega, by omega, by omega⟩⟩), rfl⟩)))⟩ | exact ⟨0, 0, _, Or.inr (Or.inr (Or.inr (Or.inr (Or.inl ⟨by omega, by omega, joinM_R zJ (by first | exact Or.inl ⟨by omega, by omega⟩ | exact Or.inr ⟨by omega, Or.inl ⟨by omega, by omega⟩⟩ | exact Or.inr ⟨by omega, Or.inr ⟨by omega, by omega, by omega⟩⟩), fun q => absurd q (by omega), rfl⟩))))⟩ | exact ⟨0, _, _, Or.inr (Or.inr (Or.inr (Or.inr (Or.inr (Or.inl ⟨by omega, by omega, sumM_R zS (by first | exact Or.inl ⟨by omega, by omega⟩ | exact Or.inr ⟨by omega, Or.inl ⟨by omega, by omega⟩⟩ | exact Or.inr ⟨by omega, Or.inr ⟨by omega, by omega, by omega⟩⟩), rfl, rfl⟩)))))⟩ | exact ⟨0, 0, 0, (wf_88_0 (by omega)).elim (fun w => Or.inr (Or.inr (Or.inr (Or.inr (Or.inr (Or.inr (w))))))) (fun w => Or.inr (Or.inl w))⟩ | omega) (by first | exact Ko_h149 | exact Or.inl ⟨by omega, fillM_R zF (by first | exact Or.inl ⟨by omega, by omega⟩ | exact Or.inr ⟨by omega, Or.inl ⟨by omega, by omega⟩⟩ | exact Or.inr ⟨by omega, Or.inr ⟨by omega, by omega, by omega⟩⟩), by omega, by omega⟩ | exact Or.inr (Or.inr (Or.inl ⟨by omega, by omega, cutM_R zC (by first | exact Or.inl ⟨by omega, by omega⟩ | exact Or.inr ⟨by omega, Or.inl ⟨by omega, by omega⟩⟩ | exact Or.inr ⟨by omega, Or.inr ⟨by omega, by omega, by omega⟩⟩), by first | omega | exact cw9, by omega⟩)) | exact Or.inr (Or.inr (Or.inr (Or.inl ⟨by omega, by omega, by first | (rw [cw9]; exact fmE_R zW (by first | exact Or.inl ⟨by omega, by omega⟩ | exact Or.inr ⟨by omega, Or.inl ⟨by omega, by omega⟩⟩ | exact Or.inr ⟨by omega, Or.inr ⟨by omega, by omega, by omega⟩⟩)) | exact fmE_R zW (by first | exact Or.inl ⟨by omega, by omega⟩ | exact Or.inr ⟨by omega, Or.inl ⟨by omega, by omega⟩⟩ | exact Or.inr ⟨by omega, Or.inr ⟨by omega, by omega, by omega⟩⟩), by omega⟩))) | exact Or.inr (Or.inr (Or.inr (Or.inr (Or.inl ⟨by omega, by omega, joinM_R zJ (by first | exact Or.inl ⟨by omega, by omega⟩ | exact Or.inr ⟨by omega, Or.inl ⟨by omega, by omega⟩⟩ | exact Or.inr ⟨by omega, Or.inr ⟨by omega, by omega, by omega⟩⟩), fun _ => by omega, by omega⟩)))) | exact Or.inr (Or.inr (Or.inr (Or.inr (Or.inr (Or.inl ⟨by omega, by omega, sumM_R zS (by first | exact Or.inl ⟨by omega, by omega⟩ | exact Or.inr ⟨by omega, Or.inl ⟨by omega, by omega⟩⟩ | exact Or.inr ⟨by omega, Or.inr ⟨by omega, by omega, by omega⟩⟩), by first | omega | exact cw9, by omega⟩))))) | exact ⟨0, _, _, Or.inl ⟨by omega, fillM_R zF (by first | exact Or.inl ⟨by omega, by omega⟩ | exact Or.inr ⟨by omega, Or.inl ⟨by omega, by omega⟩⟩ | exact Or.inr ⟨by omega, Or.inr ⟨by omega, by omega, by omega⟩⟩), rfl, rfl⟩⟩ | exact ⟨0, _, _, Or.inr (Or.inr (Or.inl ⟨by omega, by omega, cutM_R zC (by first | exact Or.inl ⟨by omega, by omega⟩ | exact Or.inr ⟨by omega, Or.inl ⟨by omega, by omega⟩⟩ | exact Or.inr ⟨by omega, Or.inr ⟨by omega, by omega, by omega⟩⟩), rfl, rfl⟩))⟩ | exact ⟨0, _, _, Or.inr (Or.inr (Or.inr (Or.inl ⟨by omega, by omega, fmE_R zW (by first | exact Or.inl ⟨by omega, by omega⟩ | exact Or.inr ⟨by omega, Or.inl ⟨by omega, by omega⟩⟩ | exact Or.inr ⟨by omega, Or.inr ⟨by omega, by omega, by omega⟩⟩), rfl⟩)))⟩ | exact ⟨0, 0, _, Or.inr (Or.inr (Or.inr (Or.inr (Or.inl ⟨by omega, by omega, joinM_R zJ (by first | exact Or.inl ⟨by omega, by omega⟩ | exact Or.inr ⟨by omega, Or.inl ⟨by omega, by omega⟩⟩ | exact Or.inr ⟨by omega, Or.inr ⟨by omega, by omega, by omega⟩⟩), fun q => absurd q (by omega), rfl⟩))))⟩ | exact ⟨0, _, _, Or.inr (Or.inr (Or.inr (Or.inr (Or.inr (Or.inl ⟨by omega, by omega, sumM_R zS (by first | exact Or.inl ⟨by omega, by omega⟩ | exact Or.inr ⟨by omega, Or.inl ⟨by omega, by omega⟩⟩ | exact Or.inr ⟨by omega, Or.inr ⟨by omega, by omega, by omega⟩⟩), rfl, rfl⟩)))))⟩ | exact ⟨0, 0, 0, (wf_88_0 (by omega)).elim (fun w => Or.inr (Or.inr (Or.inr (Or.inr (Or.inr (Or.inr (w))))))) (fun w => Or.inr (Or.inl w))⟩ | omega) Tok_h149t155 Mq_h149 Wrd_h149 Wd9_h149)
                  ·
                    have gh156 : my_fr [(10, 7), (10, 8), (10, 27), (66, -1), (67, -1), (68, -1), (69, -1), (70, -1), (71, -1), (72, -1), (73, -1), (74, -1), (75, -1), (77, -1), (78, -1), (79, -1)] h h156 := my_fr.tr gh141 (frh156.mo rfl)
                    have Mq_h156 : Mq h156 wv := Mq_ag (my_ag.fr frh156 rfl) Mq_h141
                    have Wrd_h156 : Wrd h156 := Wrd_ag (my_ag.fr frh156 rfl) Wrd_h141
                    have Wd9_h156 : Wd9 h156 := Wd9_ag (my_ag.fr frh156 rfl) Wd9_h141
                    have Ko_h156 : Ko h h156 := Ko_ag (my_ag.fr frh156 rfl) Ko_h141
                    show wp l rho (d + 4) 185 275 [(2, 151), (0, p88_0), (0, p88_1), (0, p88_2), (0, p88_3), (0, (36 + v10)), (0, v27), (0, v87)] [] h156 Q
                    have ps169 : h141 151 7 = (sN (sm h) (((sN (sm h) (((sN (sm h) (h 151 7)))))))) := ((my_up_role fh141 is_151 is_173 rfl).trans xp98)
                    rw [ps169] at xp160
                    have tE170 : sm h141 = sm h := sm_eq (fun j => my_fr.at gh141 is_153 rfl) (fun j => my_fr.at gh141 is_154 rfl) (fun j => my_fr.at gh141 is_155 rfl)
                    rw [tE170] at xp161
                    rw [ps169] at xp161
                    rw [tE170] at xp162
                    rw [ps169] at xp162
                    have psR : h156 151 7 = (sN (sm h) (((sN (sm h) (((sN (sm h) (((sN (sm h) (h 151 7))))))))))) := xp161
                    have npsR : sm h156 = sm h := sm_eq (fun j => my_fr.at gh156 is_153 rfl) (fun j => my_fr.at gh156 is_154 rfl) (fun j => my_fr.at gh156 is_155 rfl)
                    have ce171 : h156 151 7 = (h156 151 7) := (rfl : h156 151 7 = h156 151 7)
                    have ce172 : h156 151 8 = 0 := w159
                    have ce173 : h156 151 27 = k151_27 := ((my_fr.at frh156 is_151 rfl).trans ((my_up_role fh141 is_151 is_173 rfl).trans ((my_fr.at frh86 is_151 rfl).trans ((my_fr.at frh26 is_151 rfl).trans ((my_up_fld fh6 (by decide)).trans c151_27_88_0)))))
                    have r167 : ∀ j : Int, h156 167 j = h88_0 167 j := fun j => ((my_fr.at frh156 is_167 rfl).trans ((my_up_role fh141 is_167 is_173 rfl).trans ((my_fr.at frh86 is_167 rfl).trans ((my_fr.at frh26 is_167 rfl).trans ((my_up_role fh6 is_167 is_151 rfl).trans (rfl : h88_0 167 j = h88_0 167 j))))))
                    have r6 := r167 6
                    have c174 := (rfl : h156 151 7 = h156 151 7)
                    have c175 := w159
                    exact w_vret gz_185_275 gm_185 (k1 h156 (gh156) (by omega) (by omega) (by omega) (by first | exact Ko_h156 | exact Or.inl ⟨by omega, fillM_R zF (by first | exact Or.inl ⟨by omega, by omega⟩ | exact Or.inr ⟨by omega, Or.inl ⟨by omega, by omega⟩⟩ | exact Or.inr ⟨by omega, Or.inr ⟨by omega, by omega, by omega⟩⟩), by omega, by omega⟩ | exact Or.inr (Or.inr (Or.inl ⟨by omega, by omega, cutM_R zC (by first | exact Or.inl ⟨by omega, by omega⟩ | exact Or.inr ⟨by omega, Or.inl ⟨by omega, by omega⟩⟩ | exact Or.inr ⟨by omega, Or.inr ⟨by omega, by omega, by omega⟩⟩), by first | omega | exact cw9, by omega⟩)) | exact Or.inr (Or.inr (Or.inr (Or.inl ⟨by omega, by omega, by first | (rw [cw9]; exact fmE_R zW (by first | exact Or.inl ⟨by omega, by omega⟩ | exact Or.inr ⟨by omega, Or.inl ⟨by omega, by omega⟩⟩ | exact Or.inr ⟨by omega, Or.inr ⟨by omega, by omega, by omega⟩⟩)) | exact fmE_R zW (by first | exact Or.inl ⟨by omega, by omega⟩ | exact Or.inr ⟨by omega, Or.inl ⟨by omega, by omega⟩⟩ | exact Or.inr ⟨by omega, Or.inr ⟨by omega, by omega, by omega⟩⟩), by omega⟩))) | exact Or.inr (Or.inr (Or.inr (Or.inr (Or.inl ⟨by omega, by omega, joinM_R zJ (by first | exact Or.inl ⟨by omega, by omega⟩ | exact Or.inr ⟨by omega, Or.inl ⟨by omega, by omega⟩⟩ | exact Or.inr ⟨by omega, Or.inr ⟨by omega, by omega, by omega⟩⟩), fun _ => by omega, by omega⟩)))) | exact Or.inr (Or.inr (Or.inr (Or.inr (Or.inr (Or.inl ⟨by omega, by omega, sumM_R zS (by first | exact Or.inl ⟨by omega, by omega⟩ | exact Or.inr ⟨by omega, Or.inl ⟨by omega, by omega⟩⟩ | exact Or.inr ⟨by omega, Or.inr ⟨by omega, by omega, by omega⟩⟩), by first | omega | exact cw9, by omega⟩))))) | exact ⟨0, _, _, Or.inl ⟨by omega, fillM_R zF (by first | exact Or.inl ⟨by omega, by omega⟩ | exact Or.inr ⟨by omega, Or.inl ⟨by omega, by omega⟩⟩ | exact Or.inr ⟨by omega, Or.inr ⟨by omega, by omega, by omega⟩⟩), rfl, rfl⟩⟩ | exact ⟨0, _, _, Or.inr (Or.inr (Or.inl ⟨by omega, by omega, cutM_R zC (by first | exact Or.inl ⟨by omega, by omega⟩ | exact Or.inr ⟨by omega, Or.inl ⟨by omega, by omega⟩⟩ | exact Or.inr ⟨by omega, Or.inr ⟨by omega, by omega, by omega⟩⟩), rfl, rfl⟩))⟩ | exact ⟨0, _, _, Or.inr (Or.inr (Or.inr (Or.inl ⟨by omega, by omega, fmE_R zW (by first | exact Or.inl ⟨by omega, by omega⟩ | exact Or.inr ⟨by omega, Or.inl ⟨by omega, by omega⟩⟩ | exact Or.inr ⟨by omega, Or.inr ⟨by omega, by omega, by omega⟩⟩), rfl⟩)))⟩ | exact ⟨0, 0, _, Or.inr (Or.inr (Or.inr (Or.inr (Or.inl ⟨by omega, by omega, joinM_R zJ (by first | exact Or.inl ⟨by omega, by omega⟩ | exact Or.inr ⟨by omega, Or.inl ⟨by omega, by omega⟩⟩ | exact Or.inr ⟨by omega, Or.inr ⟨by omega, by omega, by omega⟩⟩), fun q => absurd q (by omega), rfl⟩))))⟩ | exact ⟨0, _, _, Or.inr (Or.inr (Or.inr (Or.inr (Or.inr (Or.inl ⟨by omega, by omega, sumM_R zS (by first | exact Or.inl ⟨by omega, by omega⟩ | exact Or.inr ⟨by omega, Or.inl ⟨by omega, by omega⟩⟩ | exact Or.inr ⟨by omega, Or.inr ⟨by omega, by omega, by omega⟩⟩), rfl, rfl⟩)))))⟩ | exact ⟨0, 0, 0, (wf_88_0 (by omega)).elim (fun w => Or.inr (Or.inr (Or.inr (Or.inr (Or.inr (Or.inr (w))))))) (fun w => Or.inr (Or.inl w))⟩ | omega) (by first | exact Ko_h156 | exact Or.inl ⟨by omega, fillM_R zF (by first | exact Or.inl ⟨by omega, by omega⟩ | exact Or.inr ⟨by omega, Or.inl ⟨by omega, by omega⟩⟩ | exact Or.inr ⟨by omega, Or.inr ⟨by omega, by omega, by omega⟩⟩), by omega, by omega⟩ | exact Or.inr (Or.inr (Or.inl ⟨by omega, by omega, cutM_R zC (by first | exact Or.inl ⟨by omega, by omega⟩ | exact Or.inr ⟨by omega, Or.inl ⟨by omega, by omega⟩⟩ | exact Or.inr ⟨by omega, Or.inr ⟨by omega, by omega, by omega⟩⟩), by first | omega | exact cw9, by omega⟩)) | exact Or.inr (Or.inr (Or.inr (Or.inl ⟨by omega, by omega, by first | (rw [cw9]; exact fmE_R zW (by first | exact Or.inl ⟨by omega, by omega⟩ | exact Or.inr ⟨by omega, Or.inl ⟨by omega, by omega⟩⟩ | exact Or.inr ⟨by omega, Or.inr ⟨by omega, by omega, by omega⟩⟩)) | exact fmE_R zW (by first | exact Or.inl ⟨by omega, by omega⟩ | exact Or.inr ⟨by omega, Or.inl ⟨by omega, by omega⟩⟩ | exact Or.inr ⟨by omega, Or.inr ⟨by omega, by omega, by omega⟩⟩), by omega⟩))) | exact Or.inr (Or.inr (Or.inr (Or.inr (Or.inl ⟨by omega, by omega, joinM_R zJ (by first | exact Or.inl ⟨by omega, by omega⟩ | exact Or.inr ⟨by omega, Or.inl ⟨by omega, by omega⟩⟩ | exact Or.inr ⟨by omega, Or.inr ⟨by omega, by omega, by omega⟩⟩), fun _ => by omega, by omega⟩)))) | exact Or.inr (Or.inr (Or.inr (Or.inr (Or.inr (Or.inl ⟨by omega, by omega, sumM_R zS (by first | exact Or.inl ⟨by omega, by omega⟩ | exact Or.inr ⟨by omega, Or.inl ⟨by omega, by omega⟩⟩ | exact Or.inr ⟨by omega, Or.inr ⟨by omega, by omega, by omega⟩⟩), by first | omega | exact cw9, by omega⟩))))) | exact ⟨0, _, _, Or.inl ⟨by omega, fillM_R zF (by first | exact Or.inl ⟨by omega, by omega⟩ | exact Or.inr ⟨by omega, Or.inl ⟨by omega, by omega⟩⟩ | exact Or.inr ⟨by omega, Or.inr ⟨by omega, by omega, by omega⟩⟩), rfl, rfl⟩⟩ | exact ⟨0, _, _, Or.inr (Or.inr (Or.inl ⟨by omega, by omega, cutM_R zC (by first | exact Or.inl ⟨by omega, by omega⟩ | exact Or.inr ⟨by omega, Or.inl ⟨by omega, by omega⟩⟩ | exact Or.inr ⟨by omega, Or.inr ⟨by omega, by omega, by omega⟩⟩), rfl, rfl⟩))⟩ | exact ⟨0, _, _, Or.inr (Or.inr (Or.inr (Or.inl ⟨by omega, by omega, fmE_R zW (by first | exact Or.inl ⟨by omega, by omega⟩ | exact Or.inr ⟨by omega, Or.inl ⟨by omega, by omega⟩⟩ | exact Or.inr ⟨by omega, Or.inr ⟨by omega, by omega, by omega⟩⟩), rfl⟩)))⟩ | exact ⟨0, 0, _, Or.inr (Or.inr (Or.inr (Or.inr (Or.inl ⟨by omega, by omega, joinM_R zJ (by first | exact Or.inl ⟨by omega, by omega⟩ | exact Or.inr ⟨by omega, Or.inl ⟨by omega, by omega⟩⟩ | exact Or.inr ⟨by omega, Or.inr ⟨by omega, by omega, by omega⟩⟩), fun q => absurd q (by omega), rfl⟩))))⟩ | exact ⟨0, _, _, Or.inr (Or.inr (Or.inr (Or.inr (Or.inr (Or.inl ⟨by omega, by omega, sumM_R zS (by first | exact Or.inl ⟨by omega, by omega⟩ | exact Or.inr ⟨by omega, Or.inl ⟨by omega, by omega⟩⟩ | exact Or.inr ⟨by omega, Or.inr ⟨by omega, by omega, by omega⟩⟩), rfl, rfl⟩)))))⟩ | exact ⟨0, 0, 0, (wf_88_0 (by omega)).elim (fun w => Or.inr (Or.inr (Or.inr (Or.inr (Or.inr (Or.inr (w))))))) (fun w => Or.inr (Or.inl w))⟩ | omega) (by first | exact Ko_h156 | exact Or.inl ⟨by omega, fillM_R zF (by first | exact Or.inl ⟨by omega, by omega⟩ | exact Or.inr ⟨by omega, Or.inl ⟨by omega, by omega⟩⟩ | exact Or.inr ⟨by omega, Or.inr ⟨by omega, by omega, by omega⟩⟩), by omega, by omega⟩ | exact Or.inr (Or.inr (Or.inl ⟨by omega, by omega, cutM_R zC (by first | exact Or.inl ⟨by omega, by omega⟩ | exact Or.inr ⟨by omega, Or.inl ⟨by omega, by omega⟩⟩ | exact Or.inr ⟨by omega, Or.inr ⟨by omega, by omega, by omega⟩⟩), by first | omega | exact cw9, by omega⟩)) | exact Or.inr (Or.inr (Or.inr (Or.inl ⟨by omega, by omega, by first | (rw [cw9]; exact fmE_R zW (by first | exact Or.inl ⟨by omega, by omega⟩ | exact Or.inr ⟨by omega, Or.inl ⟨by omega, by omega⟩⟩ | exact Or.inr ⟨by omega, Or.inr ⟨by omega, by omega, by omega⟩⟩)) | exact fmE_R zW (by first | exact Or.inl ⟨by omega, by omega⟩ | exact Or.inr ⟨by omega, Or.inl ⟨by omega, by omega⟩⟩ | exact Or.inr ⟨by omega, Or.inr ⟨by omega, by omega, by omega⟩⟩), by omega⟩))) | exact Or.inr (Or.inr (Or.inr (Or.inr (Or.inl ⟨by omega, by omega, joinM_R zJ (by first | exact Or.inl ⟨by omega, by omega⟩ | exact Or.inr ⟨by omega, Or.inl ⟨by omega, by omega⟩⟩ | exact Or.inr ⟨by omega, Or.inr ⟨by omega, by omega, by omega⟩⟩), fun _ => by omega, by omega⟩)))) | exact Or.inr (Or.inr (Or.inr (Or.inr (Or.inr (Or.inl ⟨by omega, by omega, sumM_R zS (by first | exact Or.inl ⟨by omega, by omega⟩ | exact Or.inr ⟨by omega, Or.inl ⟨by omega, by omega⟩⟩ | exact Or.inr ⟨by omega, Or.inr ⟨by omega, by omega, by omega⟩⟩), by first | omega | exact cw9, by omega⟩))))) | exact ⟨0, _, _, Or.inl ⟨by omega, fillM_R zF (by first | exact Or.inl ⟨by omega, by omega⟩ | exact Or.inr ⟨by omega, Or.inl ⟨by omega, by omega⟩⟩ | exact Or.inr ⟨by omega, Or.inr ⟨by omega, by omega, by omega⟩⟩), rfl, rfl⟩⟩ | exact ⟨0, _, _, Or.inr (Or.inr (Or.inl ⟨by omega, by omega, cutM_R zC (by first | exact Or.inl ⟨by omega, by omega⟩ | exact Or.inr ⟨by omega, Or.inl ⟨by omega, by omega⟩⟩ | exact Or.inr ⟨by omega, Or.inr ⟨by omega, by omega, by omega⟩⟩), rfl, rfl⟩))⟩ | exact ⟨0, _, _, Or.inr (Or.inr (Or.inr (Or.inl ⟨by omega, by omega, fmE_R zW (by first | exact Or.inl ⟨by omega, by omega⟩ | exact Or.inr ⟨by omega, Or.inl ⟨by omega, by omega⟩⟩ | exact Or.inr ⟨by omega, Or.inr ⟨by omega, by omega, by omega⟩⟩), rfl⟩)))⟩ | exact ⟨0, 0, _, Or.inr (Or.inr (Or.inr (Or.inr (Or.inl ⟨by omega, by omega, joinM_R zJ (by first | exact Or.inl ⟨by omega, by omega⟩ | exact Or.inr ⟨by omega, Or.inl ⟨by omega, by omega⟩⟩ | exact Or.inr ⟨by omega, Or.inr ⟨by omega, by omega, by omega⟩⟩), fun q => absurd q (by omega), rfl⟩))))⟩ | exact ⟨0, _, _, Or.inr (Or.inr (Or.inr (Or.inr (Or.inr (Or.inl ⟨by omega, by omega, sumM_R zS (by first | exact Or.inl ⟨by omega, by omega⟩ | exact Or.inr ⟨by omega, Or.inl ⟨by omega, by omega⟩⟩ | exact Or.inr ⟨by omega, Or.inr ⟨by omega, by omega, by omega⟩⟩), rfl, rfl⟩)))))⟩ | exact ⟨0, 0, 0, (wf_88_0 (by omega)).elim (fun w => Or.inr (Or.inr (Or.inr (Or.inr (Or.inr (Or.inr (w))))))) (fun w => Or.inr (Or.inl w))⟩ | omega) Tok_h156t163 Mq_h156 Wrd_h156 Wd9_h156)
            ·
              refine w_aload_n gz_185_162 rfl ?_
              refine w_iload gz_185_163 rfl ?_
              have ce176 : h6 151 7 = (v3 + 1) := (my_up_self fh6)
              have ce177 : h6 151 27 = k151_27 := ((my_up_fld fh6 (by decide)).trans c151_27_88_0)
              have hi178 : 36 ≤ (36 + v10) := by omega
              have hi179 : (36 + v10) ≤ 41 := by omega
              refine w_inv (k := 0) (as := [(0, (36 + v10))]) (r := []) (x := 151) (ls0 := [(2, 151), (0, (36 + v10))]) gz_185_165 gm_190 rfl is_151 rd_10 rfl rfl rfl rfl rfl (c_Model_readSum9_f0 (d := d) (x1 := (36 + v10)) (wv := wv) (by omega) (by omega) (((my_up_fld fh6 (by decide)).trans ev1.symm).trans (by omega)) (by first | assumption | omega) (by first | assumption | omega) Tok_h6t8 Mq_h6 Wd9_h6 (by first | assumption | exact no_such_saying | exact Fp_told (by omega) (by omega) | omega | (subst_vars; omega) | omega) (fun h180 frh180 w181 w182 xp183 xp184 xp185 Tok_h180t186 Mq_h180t187 Wd9_h180t188 => ?_) (fun h189 frh189 w190 w191 w192 xp193 xp194 xp195 xp196 xp197 xp198 Tok_h189t199 Mq_h189t200 Wd9_h189t201 => ?_))
              ·
                have gh180 : my_fr [(10, 7), (10, 8), (10, 27), (66, -1), (67, -1), (68, -1), (69, -1), (70, -1), (71, -1), (72, -1), (73, -1), (74, -1), (75, -1), (77, -1), (78, -1), (79, -1)] h h180 := my_fr.tr gh6 (frh180.mo rfl)
                have Wrd_h180 : Wrd h180 := Wrd_ag (my_ag.fr frh180 rfl) Wrd_h6
                have Wd9_h180 : Wd9 h180 := Wd9_ag (my_ag.fr frh180 rfl) Wd9_h6
                show wp l rho (d + 4) 185 168 [(2, 151), (0, p88_0), (0, p88_1), (0, p88_2), (0, p88_3), (0, (36 + v10)), (9, 0), (9, 0)] [] h180 Q
                have ps202 : h6 151 7 = (sN (sm h) (h 151 7)) := ps7
                rw [ps202] at xp183
                have tE203 : sm h6 = sm h := sm_eq (fun j => my_fr.at gh6 is_153 rfl) (fun j => my_fr.at gh6 is_154 rfl) (fun j => my_fr.at gh6 is_155 rfl)
                rw [tE203] at xp184
                rw [ps202] at xp184
                have q27 : h6 151 27 = h 151 27 := by omega
                have q57 : h6 157 = h 157 := funext (fun j => my_fr.at gh6 is_157 rfl)
                have zS := xp184
                simp only [q27, q57] at zS
                have Ko_h180t204 : Ko h h180 := Ko_tr Ko_h6 xp185
                refine w_goto (t := 228) gz_185_168 rfl ?_
                refine w_aload_n gz_185_228 rfl ?_
                refine v_getI (j := 8) gz_185_229 rfl is_151 rd_10 rfl (fun v205 ev205 pv205 qv205 => ?_)
                have zv205 := ev205.trans (rfl : h180 151 8 = h180 151 8)
                refine w_ifne (t := 269) gz_185_232 rfl (fun u206 => ?_) (fun u206 => by exfalso; omega)
                refine w_aload_n gz_185_269 rfl ?_
                refine w_bipush gz_185_270 (by decide) ?_
                refine w_inv (k := 0) (as := [(0, 59)]) (r := []) (x := 151) (ls0 := [(2, 151), (0, 59)]) gz_185_272 gm_183 rfl is_151 rd_10 rfl rfl rfl rfl rfl (c_Model_takeSign9_f1 (d := (d + 2))  (v205) (ev205.symm) (by omega) (by omega) Tok_h180t186 (fun w207 w208 xp209 xp210 Tok_h180t211 => ?_))
                show wp l rho (d + 4) 185 275 [(2, 151), (0, p88_0), (0, p88_1), (0, p88_2), (0, p88_3), (0, (36 + v10)), (9, 0), (9, 0)] [] h180 Q
                have psR : h180 151 7 = h180 151 7 := (rfl : h180 151 7 = h180 151 7)
                have npsR : sm h180 = sm h := sm_eq (fun j => my_fr.at gh180 is_153 rfl) (fun j => my_fr.at gh180 is_154 rfl) (fun j => my_fr.at gh180 is_155 rfl)
                have ce212 : h180 151 8 = v205 := ev205.symm
                have ce213 : h180 151 27 = k151_27 := ((my_fr.at frh180 is_151 rfl).trans ((my_up_fld fh6 (by decide)).trans c151_27_88_0))
                have r167 : ∀ j : Int, h180 167 j = h88_0 167 j := fun j => ((my_fr.at frh180 is_167 rfl).trans ((my_up_role fh6 is_167 is_151 rfl).trans (rfl : h88_0 167 j = h88_0 167 j)))
                have r6 := r167 6
                have c214 := ev205.symm
                exact w_vret gz_185_275 gm_185 (k0 h180 (gh180) (by omega) (by omega) (by first | exact Ko_h180t204 | exact Or.inl ⟨by omega, fillM_R zF (by first | exact Or.inl ⟨by omega, by omega⟩ | exact Or.inr ⟨by omega, Or.inl ⟨by omega, by omega⟩⟩ | exact Or.inr ⟨by omega, Or.inr ⟨by omega, by omega, by omega⟩⟩), by omega, by omega⟩ | exact Or.inr (Or.inr (Or.inl ⟨by omega, by omega, cutM_R zC (by first | exact Or.inl ⟨by omega, by omega⟩ | exact Or.inr ⟨by omega, Or.inl ⟨by omega, by omega⟩⟩ | exact Or.inr ⟨by omega, Or.inr ⟨by omega, by omega, by omega⟩⟩), by first | omega | exact cw9, by omega⟩)) | exact Or.inr (Or.inr (Or.inr (Or.inl ⟨by omega, by omega, by first | (rw [cw9]; exact fmE_R zW (by first | exact Or.inl ⟨by omega, by omega⟩ | exact Or.inr ⟨by omega, Or.inl ⟨by omega, by omega⟩⟩ | exact Or.inr ⟨by omega, Or.inr ⟨by omega, by omega, by omega⟩⟩)) | exact fmE_R zW (by first | exact Or.inl ⟨by omega, by omega⟩ | exact Or.inr ⟨by omega, Or.inl ⟨by omega, by omega⟩⟩ | exact Or.inr ⟨by omega, Or.inr ⟨by omega, by omega, by omega⟩⟩), by omega⟩))) | exact Or.inr (Or.inr (Or.inr (Or.inr (Or.inl ⟨by omega, by omega, joinM_R zJ (by first | exact Or.inl ⟨by omega, by omega⟩ | exact Or.inr ⟨by omega, Or.inl ⟨by omega, by omega⟩⟩ | exact Or.inr ⟨by omega, Or.inr ⟨by omega, by omega, by omega⟩⟩), fun _ => by omega, by omega⟩)))) | exact Or.inr (Or.inr (Or.inr (Or.inr (Or.inr (Or.inl ⟨by omega, by omega, sumM_R zS (by first | exact Or.inl ⟨by omega, by omega⟩ | exact Or.inr ⟨by omega, Or.inl ⟨by omega, by omega⟩⟩ | exact Or.inr ⟨by omega, Or.inr ⟨by omega, by omega, by omega⟩⟩), by first | omega | exact cw9, by omega⟩))))) | exact ⟨0, _, _, Or.inl ⟨by omega, fillM_R zF (by first | exact Or.inl ⟨by omega, by omega⟩ | exact Or.inr ⟨by omega, Or.inl ⟨by omega, by omega⟩⟩ | exact Or.inr ⟨by omega, Or.inr ⟨by omega, by omega, by omega⟩⟩), rfl, rfl⟩⟩ | exact ⟨0, _, _, Or.inr (Or.inr (Or.inl ⟨by omega, by omega, cutM_R zC (by first | exact Or.inl ⟨by omega, by omega⟩ | exact Or.inr ⟨by omega, Or.inl ⟨by omega, by omega⟩⟩ | exact Or.inr ⟨by omega, Or.inr ⟨by omega, by omega, by omega⟩⟩), rfl, rfl⟩))⟩ | exact ⟨0, _, _, Or.inr (Or.inr (Or.inr (Or.inl ⟨by omega, by omega, fmE_R zW (by first | exact Or.inl ⟨by omega, by omega⟩ | exact Or.inr ⟨by omega, Or.inl ⟨by omega, by omega⟩⟩ | exact Or.inr ⟨by omega, Or.inr ⟨by omega, by omega, by omega⟩⟩), rfl⟩)))⟩ | exact ⟨0, 0, _, Or.inr (Or.inr (Or.inr (Or.inr (Or.inl ⟨by omega, by omega, joinM_R zJ (by first | exact Or.inl ⟨by omega, by omega⟩ | exact Or.inr ⟨by omega, Or.inl ⟨by omega, by omega⟩⟩ | exact Or.inr ⟨by omega, Or.inr ⟨by omega, by omega, by omega⟩⟩), fun q => absurd q (by omega), rfl⟩))))⟩ | exact ⟨0, _, _, Or.inr (Or.inr (Or.inr (Or.inr (Or.inr (Or.inl ⟨by omega, by omega, sumM_R zS (by first | exact Or.inl ⟨by omega, by omega⟩ | exact Or.inr ⟨by omega, Or.inl ⟨by omega, by omega⟩⟩ | exact Or.inr ⟨by omega, Or.inr ⟨by omega, by omega, by omega⟩⟩), rfl, rfl⟩)))))⟩ | exact ⟨0, 0, 0, (wf_88_0 (by omega)).elim (fun w => Or.inr (Or.inr (Or.inr (Or.inr (Or.inr (Or.inr (w))))))) (fun w => Or.inr (Or.inl w))⟩ | omega) (by first | exact Ko_h180t204 | exact Or.inl ⟨by omega, fillM_R zF (by first | exact Or.inl ⟨by omega, by omega⟩ | exact Or.inr ⟨by omega, Or.inl ⟨by omega, by omega⟩⟩ | exact Or.inr ⟨by omega, Or.inr ⟨by omega, by omega, by omega⟩⟩), by omega, by omega⟩ | exact Or.inr (Or.inr (Or.inl ⟨by omega, by omega, cutM_R zC (by first | exact Or.inl ⟨by omega, by omega⟩ | exact Or.inr ⟨by omega, Or.inl ⟨by omega, by omega⟩⟩ | exact Or.inr ⟨by omega, Or.inr ⟨by omega, by omega, by omega⟩⟩), by first | omega | exact cw9, by omega⟩)) | exact Or.inr (Or.inr (Or.inr (Or.inl ⟨by omega, by omega, by first | (rw [cw9]; exact fmE_R zW (by first | exact Or.inl ⟨by omega, by omega⟩ | exact Or.inr ⟨by omega, Or.inl ⟨by omega, by omega⟩⟩ | exact Or.inr ⟨by omega, Or.inr ⟨by omega, by omega, by omega⟩⟩)) | exact fmE_R zW (by first | exact Or.inl ⟨by omega, by omega⟩ | exact Or.inr ⟨by omega, Or.inl ⟨by omega, by omega⟩⟩ | exact Or.inr ⟨by omega, Or.inr ⟨by omega, by omega, by omega⟩⟩), by omega⟩))) | exact Or.inr (Or.inr (Or.inr (Or.inr (Or.inl ⟨by omega, by omega, joinM_R zJ (by first | exact Or.inl ⟨by omega, by omega⟩ | exact Or.inr ⟨by omega, Or.inl ⟨by omega, by omega⟩⟩ | exact Or.inr ⟨by omega, Or.inr ⟨by omega, by omega, by omega⟩⟩), fun _ => by omega, by omega⟩)))) | exact Or.inr (Or.inr (Or.inr (Or.inr (Or.inr (Or.inl ⟨by omega, by omega, sumM_R zS (by first | exact Or.inl ⟨by omega, by omega⟩ | exact Or.inr ⟨by omega, Or.inl ⟨by omega, by omega⟩⟩ | exact Or.inr ⟨by omega, Or.inr ⟨by omega, by omega, by omega⟩⟩), by first | omega | exact cw9, by omega⟩))))) | exact ⟨0, _, _, Or.inl ⟨by omega, fillM_R zF (by first | exact Or.inl ⟨by omega, by omega⟩ | exact Or.inr ⟨by omega, Or.inl ⟨by omega, by omega⟩⟩ | exact Or.inr ⟨by omega, Or.inr ⟨by omega, by omega, by omega⟩⟩), rfl, rfl⟩⟩ | exact ⟨0, _, _, Or.inr (Or.inr (Or.inl ⟨by omega, by omega, cutM_R zC (by first | exact Or.inl ⟨by omega, by omega⟩ | exact Or.inr ⟨by omega, Or.inl ⟨by omega, by omega⟩⟩ | exact Or.inr ⟨by omega, Or.inr ⟨by omega, by omega, by omega⟩⟩), rfl, rfl⟩))⟩ | exact ⟨0, _, _, Or.inr (Or.inr (Or.inr (Or.inl ⟨by omega, by omega, fmE_R zW (by first | exact Or.inl ⟨by omega, by omega⟩ | exact Or.inr ⟨by omega, Or.inl ⟨by omega, by omega⟩⟩ | exact Or.inr ⟨by omega, Or.inr ⟨by omega, by omega, by omega⟩⟩), rfl⟩)))⟩ | exact ⟨0, 0, _, Or.inr (Or.inr (Or.inr (Or.inr (Or.inl ⟨by omega, by omega, joinM_R zJ (by first | exact Or.inl ⟨by omega, by omega⟩ | exact Or.inr ⟨by omega, Or.inl ⟨by omega, by omega⟩⟩ | exact Or.inr ⟨by omega, Or.inr ⟨by omega, by omega, by omega⟩⟩), fun q => absurd q (by omega), rfl⟩))))⟩ | exact ⟨0, _, _, Or.inr (Or.inr (Or.inr (Or.inr (Or.inr (Or.inl ⟨by omega, by omega, sumM_R zS (by first | exact Or.inl ⟨by omega, by omega⟩ | exact Or.inr ⟨by omega, Or.inl ⟨by omega, by omega⟩⟩ | exact Or.inr ⟨by omega, Or.inr ⟨by omega, by omega, by omega⟩⟩), rfl, rfl⟩)))))⟩ | exact ⟨0, 0, 0, (wf_88_0 (by omega)).elim (fun w => Or.inr (Or.inr (Or.inr (Or.inr (Or.inr (Or.inr (w))))))) (fun w => Or.inr (Or.inl w))⟩ | omega) (by first | exact Ko_h180t204 | exact Or.inl ⟨by omega, fillM_R zF (by first | exact Or.inl ⟨by omega, by omega⟩ | exact Or.inr ⟨by omega, Or.inl ⟨by omega, by omega⟩⟩ | exact Or.inr ⟨by omega, Or.inr ⟨by omega, by omega, by omega⟩⟩), by omega, by omega⟩ | exact Or.inr (Or.inr (Or.inl ⟨by omega, by omega, cutM_R zC (by first | exact Or.inl ⟨by omega, by omega⟩ | exact Or.inr ⟨by omega, Or.inl ⟨by omega, by omega⟩⟩ | exact Or.inr ⟨by omega, Or.inr ⟨by omega, by omega, by omega⟩⟩), by first | omega | exact cw9, by omega⟩)) | exact Or.inr (Or.inr (Or.inr (Or.inl ⟨by omega, by omega, by first | (rw [cw9]; exact fmE_R zW (by first | exact Or.inl ⟨by omega, by omega⟩ | exact Or.inr ⟨by omega, Or.inl ⟨by omega, by omega⟩⟩ | exact Or.inr ⟨by omega, Or.inr ⟨by omega, by omega, by omega⟩⟩)) | exact fmE_R zW (by first | exact Or.inl ⟨by omega, by omega⟩ | exact Or.inr ⟨by omega, Or.inl ⟨by omega, by omega⟩⟩ | exact Or.inr ⟨by omega, Or.inr ⟨by omega, by omega, by omega⟩⟩), by omega⟩))) | exact Or.inr (Or.inr (Or.inr (Or.inr (Or.inl ⟨by omega, by omega, joinM_R zJ (by first | exact Or.inl ⟨by omega, by omega⟩ | exact Or.inr ⟨by omega, Or.inl ⟨by omega, by omega⟩⟩ | exact Or.inr ⟨by omega, Or.inr ⟨by omega, by omega, by omega⟩⟩), fun _ => by omega, by omega⟩)))) | exact Or.inr (Or.inr (Or.inr (Or.inr (Or.inr (Or.inl ⟨by omega, by omega, sumM_R zS (by first | exact Or.inl ⟨by omega, by omega⟩ | exact Or.inr ⟨by omega, Or.inl ⟨by omega, by omega⟩⟩ | exact Or.inr ⟨by omega, Or.inr ⟨by omega, by omega, by omega⟩⟩), by first | omega | exact cw9, by omega⟩))))) | exact ⟨0, _, _, Or.inl ⟨by omega, fillM_R zF (by first | exact Or.inl ⟨by omega, by omega⟩ | exact Or.inr ⟨by omega, Or.inl ⟨by omega, by omega⟩⟩ | exact Or.inr ⟨by omega, Or.inr ⟨by omega, by omega, by omega⟩⟩), rfl, rfl⟩⟩ | exact ⟨0, _, _, Or.inr (Or.inr (Or.inl ⟨by omega, by omega, cutM_R zC (by first | exact Or.inl ⟨by omega, by omega⟩ | exact Or.inr ⟨by omega, Or.inl ⟨by omega, by omega⟩⟩ | exact Or.inr ⟨by omega, Or.inr ⟨by omega, by omega, by omega⟩⟩), rfl, rfl⟩))⟩ | exact ⟨0, _, _, Or.inr (Or.inr (Or.inr (Or.inl ⟨by omega, by omega, fmE_R zW (by first | exact Or.inl ⟨by omega, by omega⟩ | exact Or.inr ⟨by omega, Or.inl ⟨by omega, by omega⟩⟩ | exact Or.inr ⟨by omega, Or.inr ⟨by omega, by omega, by omega⟩⟩), rfl⟩)))⟩ | exact ⟨0, 0, _, Or.inr (Or.inr (Or.inr (Or.inr (Or.inl ⟨by omega, by omega, joinM_R zJ (by first | exact Or.inl ⟨by omega, by omega⟩ | exact Or.inr ⟨by omega, Or.inl ⟨by omega, by omega⟩⟩ | exact Or.inr ⟨by omega, Or.inr ⟨by omega, by omega, by omega⟩⟩), fun q => absurd q (by omega), rfl⟩))))⟩ | exact ⟨0, _, _, Or.inr (Or.inr (Or.inr (Or.inr (Or.inr (Or.inl ⟨by omega, by omega, sumM_R zS (by first | exact Or.inl ⟨by omega, by omega⟩ | exact Or.inr ⟨by omega, Or.inl ⟨by omega, by omega⟩⟩ | exact Or.inr ⟨by omega, Or.inr ⟨by omega, by omega, by omega⟩⟩), rfl, rfl⟩)))))⟩ | exact ⟨0, 0, 0, (wf_88_0 (by omega)).elim (fun w => Or.inr (Or.inr (Or.inr (Or.inr (Or.inr (Or.inr (w))))))) (fun w => Or.inr (Or.inl w))⟩ | omega) Tok_h180t211 Mq_h180t187 Wrd_h180 Wd9_h180t188)
              ·
                have gh189 : my_fr [(10, 7), (10, 8), (10, 27), (66, -1), (67, -1), (68, -1), (69, -1), (70, -1), (71, -1), (72, -1), (73, -1), (74, -1), (75, -1), (77, -1), (78, -1), (79, -1)] h h189 := my_fr.tr gh6 (frh189.mo rfl)
                have Wrd_h189 : Wrd h189 := Wrd_ag (my_ag.fr frh189 rfl) Wrd_h6
                have Wd9_h189 : Wd9 h189 := Wd9_ag (my_ag.fr frh189 rfl) Wd9_h6
                show wp l rho (d + 4) 185 168 [(2, 151), (0, p88_0), (0, p88_1), (0, p88_2), (0, p88_3), (0, (36 + v10)), (9, 0), (9, 0)] [] h189 Q
                have ps215 : h6 151 7 = (sN (sm h) (h 151 7)) := ps7
                rw [ps215] at xp195
                have tE216 : sm h6 = sm h := sm_eq (fun j => my_fr.at gh6 is_153 rfl) (fun j => my_fr.at gh6 is_154 rfl) (fun j => my_fr.at gh6 is_155 rfl)
                rw [tE216] at xp196
                rw [ps215] at xp196
                have q27 : h6 151 27 = h 151 27 := by omega
                have q57 : h6 157 = h 157 := funext (fun j => my_fr.at gh6 is_157 rfl)
                have zS := xp196
                simp only [q27, q57] at zS
                have pk := xp193
                have pk3 := xp194
                have kd := xp197
                have Ko_h189t217 : Ko h h189 := Ko_tr Ko_h6 xp198
                refine w_goto (t := 228) gz_185_168 rfl ?_
                refine w_aload_n gz_185_228 rfl ?_
                refine v_getI (j := 8) gz_185_229 rfl is_151 rd_10 rfl (fun v218 ev218 pv218 qv218 => ?_)
                have zv218 := ev218.trans w192
                refine w_ifne (t := 269) gz_185_232 rfl (fun u219 => by exfalso; omega) (fun u219 => ?_)
                refine w_iload_n gz_185_235 rfl ?_
                refine w_ifne (t := 252) gz_185_236 rfl (fun u220 => by exfalso; omega) (fun u220 => ?_)
                refine w_iload_n gz_185_239 rfl ?_
                refine w_ifne (t := 252) gz_185_240 rfl (fun u221 => by exfalso; omega) (fun u221 => ?_)
                refine w_iload_n gz_185_243 rfl ?_
                refine w_ifne (t := 252) gz_185_244 rfl (fun u222 => by exfalso; omega) (fun u222 => ?_)
                refine w_iload gz_185_247 rfl ?_
                refine w_ifeq (t := 269) gz_185_249 rfl (fun u223 => by exfalso; omega) (fun u223 => ?_)
                refine w_aload_n gz_185_252 rfl ?_
                refine w_iload gz_185_253 rfl ?_
                have d167 : ∀ j : Int, h189 167 j = h88_0 167 j := fun j => ((my_fr.at frh189 is_167 rfl).trans ((my_up_role fh6 is_167 is_151 rfl).trans (rfl : h88_0 167 j = h88_0 167 j)))
                have d6 := d167 6
                have mr0 := Mq_h189t200
                have ce224 : h189 151 27 = k151_27 := ((my_fr.at frh189 is_151 rfl).trans ((my_up_fld fh6 (by decide)).trans c151_27_88_0))
                refine w_inv (k := 1) (as := [(0, (36 + v10))]) (r := []) (x := 151) (ls0 := [(2, 151), (0, (36 + v10)), (9, 0)]) gz_185_255 gm_182 rfl is_151 rd_10 rfl rfl rfl rfl rfl (c_Model_pane2_f0 (d := (d + 3)) (x1 := (36 + v10)) (by omega) (by omega) (ev218.symm.trans (by omega)) (pk.1) (fun h225 frh225 w226 xp227 xp228 => ?_))
                have gh225 : my_fr [(10, 7), (10, 8), (10, 27), (66, -1), (67, -1), (68, -1), (69, -1), (70, -1), (71, -1), (72, -1), (73, -1), (74, -1), (75, -1), (77, -1), (78, -1), (79, -1)] h h225 := my_fr.tr gh189 (frh225.mo rfl)
                have Wrd_h225 : Wrd h225 := Wrd_ag (my_ag.fr frh225 rfl) Wrd_h189
                have Wd9_h225 : Wd9 h225 := Wd9_ag (my_ag.fr frh225 rfl) Wd9_h189t201
                have Tok_h225 : Tok h225 := Tok_ag (my_ag.fr frh225 rfl) Tok_h189t199
                have Ko_h225 : Ko h h225 := Ko_ag (my_ag.fr frh225 rfl) Ko_h189t217
                show wp l rho (d + 4) 185 258 [(2, 151), (0, p88_0), (0, p88_1), (0, p88_2), (0, p88_3), (0, (36 + v10)), (9, 0), (9, 0)] [] h225 Q
                have ag0 : my_ag M3F h189 h225 := my_ag.fr frh225 rfl
                have e27 := xp227
                have e67 : h225 167 6 = h189 167 6 := ag0.at mis_167 rfl
                have mc := ms_c e27
                try (have m3 := mc.2.2.1 kd; rw [← m3] at zW)
                try (have q58 : h189 157 = h 157 := funext (fun j => my_fr.at gh189 is_157 rfl); have j4 := mc.2.1 kd.1; rw [kd.2, q58] at j4)
                refine w_aload_n gz_185_258 rfl ?_
                refine w_getX (v := 167) gz_185_259 is_151 rd_10 rfl (by decide) rfl ?_
                refine w_bipush gz_185_262 (by decide) ?_
                refine w_dup2 gz_185_264 rfl rfl ?_
                refine w_iald gz_185_265 is_167 rd_66 (by omega) (by omega) (fun v230 ev230 pv230 qv230 => ?_)
                have zv230 := ev230.trans ((my_fr.at frh225 is_167 rfl).trans ((my_fr.at frh189 is_167 rfl).trans ev10.symm))
                refine w_iconst gz_185_266 (by decide) ?_
                refine w_iadd gz_185_267 ⟨by omega, by omega⟩ ?_
                have hi231 : 0 ≤ (v230 + 1) := by omega
                have hi232 : (v230 + 1) ≤ 6 := by omega
                refine w_iast gz_185_268 is_167 rd_66 (by omega) (by omega) (by omega) (by omega) (fun h233 fh233 => ?_)
                have gh233 : my_fr [(10, 7), (10, 8), (10, 27), (66, -1), (67, -1), (68, -1), (69, -1), (70, -1), (71, -1), (72, -1), (73, -1), (74, -1), (75, -1), (77, -1), (78, -1), (79, -1)] h h233 := my_fr.up gh225 is_167 fh233 rfl
                have Wrd_h233 : Wrd h233 := Wrd_ag (my_ag.up fh233 is_167 rfl) Wrd_h225
                have Wd9_h233 : Wd9 h233 := Wd9_ag (my_ag.up fh233 is_167 rfl) Wd9_h225
                have Tok_h233 : Tok h233 := Tok_ag (my_ag.up fh233 is_167 rfl) Tok_h225
                have Ko_h233 : Ko h h233 := Ko_7 (a := 167) hwv (by decide) (by omega) fh233 Ko_h225
                have Mq_h233t234 : Mq h233 wv := Mq_add mr0 (by omega) pk pk3 ag0 e27 fh233 (by omega) (by omega)
                have k6 := my_up_self fh233
                refine w_aload_n gz_185_269 rfl ?_
                refine w_bipush gz_185_270 (by decide) ?_
                have ce235 : h233 151 7 = (h189 151 7) := ((my_up_role fh233 is_151 is_167 rfl).trans ((my_fr.at frh225 is_151 rfl).trans (rfl : h189 151 7 = h189 151 7)))
                refine w_inv (k := 0) (as := [(0, 59)]) (r := []) (x := 151) (ls0 := [(2, 151), (0, 59)]) gz_185_272 gm_183 rfl is_151 rd_10 rfl rfl rfl rfl rfl (c_Model_takeSign9_f0 (d := (d + 2))  (((my_up_role fh233 is_151 is_167 rfl).trans ((my_fr.at frh225 is_151 rfl).trans ev218.symm)).trans (by omega)) Tok_h233 (fun h236 frh236 w237 w238 xp239 xp240 xp241 Tok_h236t242 => ?_) (fun h243 frh243 w244 w245 w246 xp247 xp248 xp249 Tok_h243t250 => ?_))
                ·
                  have gh236 : my_fr [(10, 7), (10, 8), (10, 27), (66, -1), (67, -1), (68, -1), (69, -1), (70, -1), (71, -1), (72, -1), (73, -1), (74, -1), (75, -1), (77, -1), (78, -1), (79, -1)] h h236 := my_fr.tr gh233 (frh236.mo rfl)
                  have Wrd_h236 : Wrd h236 := Wrd_ag (my_ag.fr frh236 rfl) Wrd_h233
                  have Wd9_h236 : Wd9 h236 := Wd9_ag (my_ag.fr frh236 rfl) Wd9_h233
                  have Ko_h236 : Ko h h236 := Ko_ag (my_ag.fr frh236 rfl) Ko_h233
                  have Mq_h236 : Mq h236 wv := Mq_ag (my_ag.fr frh236 rfl) Mq_h233t234
                  show wp l rho (d + 4) 185 275 [(2, 151), (0, p88_0), (0, p88_1), (0, p88_2), (0, p88_3), (0, (36 + v10)), (9, 0), (9, 0)] [] h236 Q
                  have ps251 : h233 151 7 = h189 151 7 := ((my_up_role fh233 is_151 is_167 rfl).trans ((my_fr.at frh225 is_151 rfl).trans (rfl : h189 151 7 = h189 151 7)))
                  rw [ps251] at xp239
                  have tE252 : sm h233 = sm h := sm_eq (fun j => my_fr.at gh233 is_153 rfl) (fun j => my_fr.at gh233 is_154 rfl) (fun j => my_fr.at gh233 is_155 rfl)
                  rw [tE252] at xp240
                  rw [ps251] at xp240
                  rw [tE252] at xp241
                  rw [ps251] at xp241
                  have psR : h236 151 7 = h236 151 7 := (rfl : h236 151 7 = h236 151 7)
                  have npsR : sm h236 = sm h := sm_eq (fun j => my_fr.at gh236 is_153 rfl) (fun j => my_fr.at gh236 is_154 rfl) (fun j => my_fr.at gh236 is_155 rfl)
                  have ce253 : h236 151 8 = (h236 151 8) := (rfl : h236 151 8 = h236 151 8)
                  have ce254 : h236 151 27 = h225 151 27 := ((my_fr.at frh236 is_151 rfl).trans ((my_up_role fh233 is_151 is_167 rfl).trans (rfl : h225 151 27 = h225 151 27)))
                  have r167 : ∀ j : Int, h236 167 j = h233 167 j := fun j => ((my_fr.at frh236 is_167 rfl).trans (rfl : h233 167 j = h233 167 j))
                  have r6 := r167 6
                  have cw9 : h236 151 27 = h225 151 27 := by omega
                  have c255 := (rfl : h236 151 8 = h236 151 8)
                  exact w_vret gz_185_275 gm_185 (k0 h236 (gh236) (by omega) (by omega) (by first | exact Ko_h236 | exact Or.inl ⟨by omega, fillM_R zF (by first | exact Or.inl ⟨by omega, by omega⟩ | exact Or.inr ⟨by omega, Or.inl ⟨by omega, by omega⟩⟩ | exact Or.inr ⟨by omega, Or.inr ⟨by omega, by omega, by omega⟩⟩), by omega, by omega⟩ | exact Or.inr (Or.inr (Or.inl ⟨by omega, by omega, cutM_R zC (by first | exact Or.inl ⟨by omega, by omega⟩ | exact Or.inr ⟨by omega, Or.inl ⟨by omega, by omega⟩⟩ | exact Or.inr ⟨by omega, Or.inr ⟨by omega, by omega, by omega⟩⟩), by first | omega | exact cw9, by omega⟩)) | exact Or.inr (Or.inr (Or.inr (Or.inl ⟨by omega, by omega, by first | (rw [cw9]; exact fmE_R zW (by first | exact Or.inl ⟨by omega, by omega⟩ | exact Or.inr ⟨by omega, Or.inl ⟨by omega, by omega⟩⟩ | exact Or.inr ⟨by omega, Or.inr ⟨by omega, by omega, by omega⟩⟩)) | exact fmE_R zW (by first | exact Or.inl ⟨by omega, by omega⟩ | exact Or.inr ⟨by omega, Or.inl ⟨by omega, by omega⟩⟩ | exact Or.inr ⟨by omega, Or.inr ⟨by omega, by omega, by omega⟩⟩), by omega⟩))) | exact Or.inr (Or.inr (Or.inr (Or.inr (Or.inl ⟨by omega, by omega, joinM_R zJ (by first | exact Or.inl ⟨by omega, by omega⟩ | exact Or.inr ⟨by omega, Or.inl ⟨by omega, by omega⟩⟩ | exact Or.inr ⟨by omega, Or.inr ⟨by omega, by omega, by omega⟩⟩), fun _ => by omega, by omega⟩)))) | exact Or.inr (Or.inr (Or.inr (Or.inr (Or.inr (Or.inl ⟨by omega, by omega, sumM_R zS (by first | exact Or.inl ⟨by omega, by omega⟩ | exact Or.inr ⟨by omega, Or.inl ⟨by omega, by omega⟩⟩ | exact Or.inr ⟨by omega, Or.inr ⟨by omega, by omega, by omega⟩⟩), by first | omega | exact cw9, by omega⟩))))) | exact ⟨0, _, _, Or.inl ⟨by omega, fillM_R zF (by first | exact Or.inl ⟨by omega, by omega⟩ | exact Or.inr ⟨by omega, Or.inl ⟨by omega, by omega⟩⟩ | exact Or.inr ⟨by omega, Or.inr ⟨by omega, by omega, by omega⟩⟩), rfl, rfl⟩⟩ | exact ⟨0, _, _, Or.inr (Or.inr (Or.inl ⟨by omega, by omega, cutM_R zC (by first | exact Or.inl ⟨by omega, by omega⟩ | exact Or.inr ⟨by omega, Or.inl ⟨by omega, by omega⟩⟩ | exact Or.inr ⟨by omega, Or.inr ⟨by omega, by omega, by omega⟩⟩), rfl, rfl⟩))⟩ | exact ⟨0, _, _, Or.inr (Or.inr (Or.inr (Or.inl ⟨by omega, by omega, fmE_R zW (by first | exact Or.inl ⟨by omega, by omega⟩ | exact Or.inr ⟨by omega, Or.inl ⟨by omega, by omega⟩⟩ | exact Or.inr ⟨by omega, Or.inr ⟨by omega, by omega, by omega⟩⟩), rfl⟩)))⟩ | exact ⟨0, 0, _, Or.inr (Or.inr (Or.inr (Or.inr (Or.inl ⟨by omega, by omega, joinM_R zJ (by first | exact Or.inl ⟨by omega, by omega⟩ | exact Or.inr ⟨by omega, Or.inl ⟨by omega, by omega⟩⟩ | exact Or.inr ⟨by omega, Or.inr ⟨by omega, by omega, by omega⟩⟩), fun q => absurd q (by omega), rfl⟩))))⟩ | exact ⟨0, _, _, Or.inr (Or.inr (Or.inr (Or.inr (Or.inr (Or.inl ⟨by omega, by omega, sumM_R zS (by first | exact Or.inl ⟨by omega, by omega⟩ | exact Or.inr ⟨by omega, Or.inl ⟨by omega, by omega⟩⟩ | exact Or.inr ⟨by omega, Or.inr ⟨by omega, by omega, by omega⟩⟩), rfl, rfl⟩)))))⟩ | exact ⟨0, 0, 0, (wf_88_0 (by omega)).elim (fun w => Or.inr (Or.inr (Or.inr (Or.inr (Or.inr (Or.inr (w))))))) (fun w => Or.inr (Or.inl w))⟩ | omega) (by first | exact Ko_h236 | exact Or.inl ⟨by omega, fillM_R zF (by first | exact Or.inl ⟨by omega, by omega⟩ | exact Or.inr ⟨by omega, Or.inl ⟨by omega, by omega⟩⟩ | exact Or.inr ⟨by omega, Or.inr ⟨by omega, by omega, by omega⟩⟩), by omega, by omega⟩ | exact Or.inr (Or.inr (Or.inl ⟨by omega, by omega, cutM_R zC (by first | exact Or.inl ⟨by omega, by omega⟩ | exact Or.inr ⟨by omega, Or.inl ⟨by omega, by omega⟩⟩ | exact Or.inr ⟨by omega, Or.inr ⟨by omega, by omega, by omega⟩⟩), by first | omega | exact cw9, by omega⟩)) | exact Or.inr (Or.inr (Or.inr (Or.inl ⟨by omega, by omega, by first | (rw [cw9]; exact fmE_R zW (by first | exact Or.inl ⟨by omega, by omega⟩ | exact Or.inr ⟨by omega, Or.inl ⟨by omega, by omega⟩⟩ | exact Or.inr ⟨by omega, Or.inr ⟨by omega, by omega, by omega⟩⟩)) | exact fmE_R zW (by first | exact Or.inl ⟨by omega, by omega⟩ | exact Or.inr ⟨by omega, Or.inl ⟨by omega, by omega⟩⟩ | exact Or.inr ⟨by omega, Or.inr ⟨by omega, by omega, by omega⟩⟩), by omega⟩))) | exact Or.inr (Or.inr (Or.inr (Or.inr (Or.inl ⟨by omega, by omega, joinM_R zJ (by first | exact Or.inl ⟨by omega, by omega⟩ | exact Or.inr ⟨by omega, Or.inl ⟨by omega, by omega⟩⟩ | exact Or.inr ⟨by omega, Or.inr ⟨by omega, by omega, by omega⟩⟩), fun _ => by omega, by omega⟩)))) | exact Or.inr (Or.inr (Or.inr (Or.inr (Or.inr (Or.inl ⟨by omega, by omega, sumM_R zS (by first | exact Or.inl ⟨by omega, by omega⟩ | exact Or.inr ⟨by omega, Or.inl ⟨by omega, by omega⟩⟩ | exact Or.inr ⟨by omega, Or.inr ⟨by omega, by omega, by omega⟩⟩), by first | omega | exact cw9, by omega⟩))))) | exact ⟨0, _, _, Or.inl ⟨by omega, fillM_R zF (by first | exact Or.inl ⟨by omega, by omega⟩ | exact Or.inr ⟨by omega, Or.inl ⟨by omega, by omega⟩⟩ | exact Or.inr ⟨by omega, Or.inr ⟨by omega, by omega, by omega⟩⟩), rfl, rfl⟩⟩ | exact ⟨0, _, _, Or.inr (Or.inr (Or.inl ⟨by omega, by omega, cutM_R zC (by first | exact Or.inl ⟨by omega, by omega⟩ | exact Or.inr ⟨by omega, Or.inl ⟨by omega, by omega⟩⟩ | exact Or.inr ⟨by omega, Or.inr ⟨by omega, by omega, by omega⟩⟩), rfl, rfl⟩))⟩ | exact ⟨0, _, _, Or.inr (Or.inr (Or.inr (Or.inl ⟨by omega, by omega, fmE_R zW (by first | exact Or.inl ⟨by omega, by omega⟩ | exact Or.inr ⟨by omega, Or.inl ⟨by omega, by omega⟩⟩ | exact Or.inr ⟨by omega, Or.inr ⟨by omega, by omega, by omega⟩⟩), rfl⟩)))⟩ | exact ⟨0, 0, _, Or.inr (Or.inr (Or.inr (Or.inr (Or.inl ⟨by omega, by omega, joinM_R zJ (by first | exact Or.inl ⟨by omega, by omega⟩ | exact Or.inr ⟨by omega, Or.inl ⟨by omega, by omega⟩⟩ | exact Or.inr ⟨by omega, Or.inr ⟨by omega, by omega, by omega⟩⟩), fun q => absurd q (by omega), rfl⟩))))⟩ | exact ⟨0, _, _, Or.inr (Or.inr (Or.inr (Or.inr (Or.inr (Or.inl ⟨by omega, by omega, sumM_R zS (by first | exact Or.inl ⟨by omega, by omega⟩ | exact Or.inr ⟨by omega, Or.inl ⟨by omega, by omega⟩⟩ | exact Or.inr ⟨by omega, Or.inr ⟨by omega, by omega, by omega⟩⟩), rfl, rfl⟩)))))⟩ | exact ⟨0, 0, 0, (wf_88_0 (by omega)).elim (fun w => Or.inr (Or.inr (Or.inr (Or.inr (Or.inr (Or.inr (w))))))) (fun w => Or.inr (Or.inl w))⟩ | omega) (by first | exact Ko_h236 | exact Or.inl ⟨by omega, fillM_R zF (by first | exact Or.inl ⟨by omega, by omega⟩ | exact Or.inr ⟨by omega, Or.inl ⟨by omega, by omega⟩⟩ | exact Or.inr ⟨by omega, Or.inr ⟨by omega, by omega, by omega⟩⟩), by omega, by omega⟩ | exact Or.inr (Or.inr (Or.inl ⟨by omega, by omega, cutM_R zC (by first | exact Or.inl ⟨by omega, by omega⟩ | exact Or.inr ⟨by omega, Or.inl ⟨by omega, by omega⟩⟩ | exact Or.inr ⟨by omega, Or.inr ⟨by omega, by omega, by omega⟩⟩), by first | omega | exact cw9, by omega⟩)) | exact Or.inr (Or.inr (Or.inr (Or.inl ⟨by omega, by omega, by first | (rw [cw9]; exact fmE_R zW (by first | exact Or.inl ⟨by omega, by omega⟩ | exact Or.inr ⟨by omega, Or.inl ⟨by omega, by omega⟩⟩ | exact Or.inr ⟨by omega, Or.inr ⟨by omega, by omega, by omega⟩⟩)) | exact fmE_R zW (by first | exact Or.inl ⟨by omega, by omega⟩ | exact Or.inr ⟨by omega, Or.inl ⟨by omega, by omega⟩⟩ | exact Or.inr ⟨by omega, Or.inr ⟨by omega, by omega, by omega⟩⟩), by omega⟩))) | exact Or.inr (Or.inr (Or.inr (Or.inr (Or.inl ⟨by omega, by omega, joinM_R zJ (by first | exact Or.inl ⟨by omega, by omega⟩ | exact Or.inr ⟨by omega, Or.inl ⟨by omega, by omega⟩⟩ | exact Or.inr ⟨by omega, Or.inr ⟨by omega, by omega, by omega⟩⟩), fun _ => by omega, by omega⟩)))) | exact Or.inr (Or.inr (Or.inr (Or.inr (Or.inr (Or.inl ⟨by omega, by omega, sumM_R zS (by first | exact Or.inl ⟨by omega, by omega⟩ | exact Or.inr ⟨by omega, Or.inl ⟨by omega, by omega⟩⟩ | exact Or.inr ⟨by omega, Or.inr ⟨by omega, by omega, by omega⟩⟩), by first | omega | exact cw9, by omega⟩))))) | exact ⟨0, _, _, Or.inl ⟨by omega, fillM_R zF (by first | exact Or.inl ⟨by omega, by omega⟩ | exact Or.inr ⟨by omega, Or.inl ⟨by omega, by omega⟩⟩ | exact Or.inr ⟨by omega, Or.inr ⟨by omega, by omega, by omega⟩⟩), rfl, rfl⟩⟩ | exact ⟨0, _, _, Or.inr (Or.inr (Or.inl ⟨by omega, by omega, cutM_R zC (by first | exact Or.inl ⟨by omega, by omega⟩ | exact Or.inr ⟨by omega, Or.inl ⟨by omega, by omega⟩⟩ | exact Or.inr ⟨by omega, Or.inr ⟨by omega, by omega, by omega⟩⟩), rfl, rfl⟩))⟩ | exact ⟨0, _, _, Or.inr (Or.inr (Or.inr (Or.inl ⟨by omega, by omega, fmE_R zW (by first | exact Or.inl ⟨by omega, by omega⟩ | exact Or.inr ⟨by omega, Or.inl ⟨by omega, by omega⟩⟩ | exact Or.inr ⟨by omega, Or.inr ⟨by omega, by omega, by omega⟩⟩), rfl⟩)))⟩ | exact ⟨0, 0, _, Or.inr (Or.inr (Or.inr (Or.inr (Or.inl ⟨by omega, by omega, joinM_R zJ (by first | exact Or.inl ⟨by omega, by omega⟩ | exact Or.inr ⟨by omega, Or.inl ⟨by omega, by omega⟩⟩ | exact Or.inr ⟨by omega, Or.inr ⟨by omega, by omega, by omega⟩⟩), fun q => absurd q (by omega), rfl⟩))))⟩ | exact ⟨0, _, _, Or.inr (Or.inr (Or.inr (Or.inr (Or.inr (Or.inl ⟨by omega, by omega, sumM_R zS (by first | exact Or.inl ⟨by omega, by omega⟩ | exact Or.inr ⟨by omega, Or.inl ⟨by omega, by omega⟩⟩ | exact Or.inr ⟨by omega, Or.inr ⟨by omega, by omega, by omega⟩⟩), rfl, rfl⟩)))))⟩ | exact ⟨0, 0, 0, (wf_88_0 (by omega)).elim (fun w => Or.inr (Or.inr (Or.inr (Or.inr (Or.inr (Or.inr (w))))))) (fun w => Or.inr (Or.inl w))⟩ | omega) Tok_h236t242 Mq_h236 Wrd_h236 Wd9_h236)
                ·
                  have gh243 : my_fr [(10, 7), (10, 8), (10, 27), (66, -1), (67, -1), (68, -1), (69, -1), (70, -1), (71, -1), (72, -1), (73, -1), (74, -1), (75, -1), (77, -1), (78, -1), (79, -1)] h h243 := my_fr.tr gh233 (frh243.mo rfl)
                  have Wrd_h243 : Wrd h243 := Wrd_ag (my_ag.fr frh243 rfl) Wrd_h233
                  have Wd9_h243 : Wd9 h243 := Wd9_ag (my_ag.fr frh243 rfl) Wd9_h233
                  have Ko_h243 : Ko h h243 := Ko_ag (my_ag.fr frh243 rfl) Ko_h233
                  have Mq_h243 : Mq h243 wv := Mq_ag (my_ag.fr frh243 rfl) Mq_h233t234
                  show wp l rho (d + 4) 185 275 [(2, 151), (0, p88_0), (0, p88_1), (0, p88_2), (0, p88_3), (0, (36 + v10)), (9, 0), (9, 0)] [] h243 Q
                  have ps256 : h233 151 7 = h189 151 7 := ((my_up_role fh233 is_151 is_167 rfl).trans ((my_fr.at frh225 is_151 rfl).trans (rfl : h189 151 7 = h189 151 7)))
                  rw [ps256] at xp247
                  have tE257 : sm h233 = sm h := sm_eq (fun j => my_fr.at gh233 is_153 rfl) (fun j => my_fr.at gh233 is_154 rfl) (fun j => my_fr.at gh233 is_155 rfl)
                  rw [tE257] at xp248
                  rw [ps256] at xp248
                  rw [tE257] at xp249
                  rw [ps256] at xp249
                  have psR : h243 151 7 = (sN (sm h) ((h189 151 7))) := xp248
                  have npsR : sm h243 = sm h := sm_eq (fun j => my_fr.at gh243 is_153 rfl) (fun j => my_fr.at gh243 is_154 rfl) (fun j => my_fr.at gh243 is_155 rfl)
                  have ce258 : h243 151 7 = (h243 151 7) := (rfl : h243 151 7 = h243 151 7)
                  have ce259 : h243 151 8 = 0 := w246
                  have ce260 : h243 151 27 = h225 151 27 := ((my_fr.at frh243 is_151 rfl).trans ((my_up_role fh233 is_151 is_167 rfl).trans (rfl : h225 151 27 = h225 151 27)))
                  have r167 : ∀ j : Int, h243 167 j = h233 167 j := fun j => ((my_fr.at frh243 is_167 rfl).trans (rfl : h233 167 j = h233 167 j))
                  have r6 := r167 6
                  have cw9 : h243 151 27 = h225 151 27 := by omega
                  have c261 := (rfl : h243 151 7 = h243 151 7)
                  have c262 := w246
                  exact w_vret gz_185_275 gm_185 (k1 h243 (gh243) (by omega) (by omega) (by omega) (by first | exact Ko_h243 | exact Or.inl ⟨by omega, fillM_R zF (by first | exact Or.inl ⟨by omega, by omega⟩ | exact Or.inr ⟨by omega, Or.inl ⟨by omega, by omega⟩⟩ | exact Or.inr ⟨by omega, Or.inr ⟨by omega, by omega, by omega⟩⟩), by omega, by omega⟩ | exact Or.inr (Or.inr (Or.inl ⟨by omega, by omega, cutM_R zC (by first | exact Or.inl ⟨by omega, by omega⟩ | exact Or.inr ⟨by omega, Or.inl ⟨by omega, by omega⟩⟩ | exact Or.inr ⟨by omega, Or.inr ⟨by omega, by omega, by omega⟩⟩), by first | omega | exact cw9, by omega⟩)) | exact Or.inr (Or.inr (Or.inr (Or.inl ⟨by omega, by omega, by first | (rw [cw9]; exact fmE_R zW (by first | exact Or.inl ⟨by omega, by omega⟩ | exact Or.inr ⟨by omega, Or.inl ⟨by omega, by omega⟩⟩ | exact Or.inr ⟨by omega, Or.inr ⟨by omega, by omega, by omega⟩⟩)) | exact fmE_R zW (by first | exact Or.inl ⟨by omega, by omega⟩ | exact Or.inr ⟨by omega, Or.inl ⟨by omega, by omega⟩⟩ | exact Or.inr ⟨by omega, Or.inr ⟨by omega, by omega, by omega⟩⟩), by omega⟩))) | exact Or.inr (Or.inr (Or.inr (Or.inr (Or.inl ⟨by omega, by omega, joinM_R zJ (by first | exact Or.inl ⟨by omega, by omega⟩ | exact Or.inr ⟨by omega, Or.inl ⟨by omega, by omega⟩⟩ | exact Or.inr ⟨by omega, Or.inr ⟨by omega, by omega, by omega⟩⟩), fun _ => by omega, by omega⟩)))) | exact Or.inr (Or.inr (Or.inr (Or.inr (Or.inr (Or.inl ⟨by omega, by omega, sumM_R zS (by first | exact Or.inl ⟨by omega, by omega⟩ | exact Or.inr ⟨by omega, Or.inl ⟨by omega, by omega⟩⟩ | exact Or.inr ⟨by omega, Or.inr ⟨by omega, by omega, by omega⟩⟩), by first | omega | exact cw9, by omega⟩))))) | exact ⟨0, _, _, Or.inl ⟨by omega, fillM_R zF (by first | exact Or.inl ⟨by omega, by omega⟩ | exact Or.inr ⟨by omega, Or.inl ⟨by omega, by omega⟩⟩ | exact Or.inr ⟨by omega, Or.inr ⟨by omega, by omega, by omega⟩⟩), rfl, rfl⟩⟩ | exact ⟨0, _, _, Or.inr (Or.inr (Or.inl ⟨by omega, by omega, cutM_R zC (by first | exact Or.inl ⟨by omega, by omega⟩ | exact Or.inr ⟨by omega, Or.inl ⟨by omega, by omega⟩⟩ | exact Or.inr ⟨by omega, Or.inr ⟨by omega, by omega, by omega⟩⟩), rfl, rfl⟩))⟩ | exact ⟨0, _, _, Or.inr (Or.inr (Or.inr (Or.inl ⟨by omega, by omega, fmE_R zW (by first | exact Or.inl ⟨by omega, by omega⟩ | exact Or.inr ⟨by omega, Or.inl ⟨by omega, by omega⟩⟩ | exact Or.inr ⟨by omega, Or.inr ⟨by omega, by omega, by omega⟩⟩), rfl⟩)))⟩ | exact ⟨0, 0, _, Or.inr (Or.inr (Or.inr (Or.inr (Or.inl ⟨by omega, by omega, joinM_R zJ (by first | exact Or.inl ⟨by omega, by omega⟩ | exact Or.inr ⟨by omega, Or.inl ⟨by omega, by omega⟩⟩ | exact Or.inr ⟨by omega, Or.inr ⟨by omega, by omega, by omega⟩⟩), fun q => absurd q (by omega), rfl⟩))))⟩ | exact ⟨0, _, _, Or.inr (Or.inr (Or.inr (Or.inr (Or.inr (Or.inl ⟨by omega, by omega, sumM_R zS (by first | exact Or.inl ⟨by omega, by omega⟩ | exact Or.inr ⟨by omega, Or.inl ⟨by omega, by omega⟩⟩ | exact Or.inr ⟨by omega, Or.inr ⟨by omega, by omega, by omega⟩⟩), rfl, rfl⟩)))))⟩ | exact ⟨0, 0, 0, (wf_88_0 (by omega)).elim (fun w => Or.inr (Or.inr (Or.inr (Or.inr (Or.inr (Or.inr (w))))))) (fun w => Or.inr (Or.inl w))⟩ | omega) (by first | exact Ko_h243 | exact Or.inl ⟨by omega, fillM_R zF (by first | exact Or.inl ⟨by omega, by omega⟩ | exact Or.inr ⟨by omega, Or.inl ⟨by omega, by omega⟩⟩ | exact Or.inr ⟨by omega, Or.inr ⟨by omega, by omega, by omega⟩⟩), by omega, by omega⟩ | exact Or.inr (Or.inr (Or.inl ⟨by omega, by omega, cutM_R zC (by first | exact Or.inl ⟨by omega, by omega⟩ | exact Or.inr ⟨by omega, Or.inl ⟨by omega, by omega⟩⟩ | exact Or.inr ⟨by omega, Or.inr ⟨by omega, by omega, by omega⟩⟩), by first | omega | exact cw9, by omega⟩)) | exact Or.inr (Or.inr (Or.inr (Or.inl ⟨by omega, by omega, by first | (rw [cw9]; exact fmE_R zW (by first | exact Or.inl ⟨by omega, by omega⟩ | exact Or.inr ⟨by omega, Or.inl ⟨by omega, by omega⟩⟩ | exact Or.inr ⟨by omega, Or.inr ⟨by omega, by omega, by omega⟩⟩)) | exact fmE_R zW (by first | exact Or.inl ⟨by omega, by omega⟩ | exact Or.inr ⟨by omega, Or.inl ⟨by omega, by omega⟩⟩ | exact Or.inr ⟨by omega, Or.inr ⟨by omega, by omega, by omega⟩⟩), by omega⟩))) | exact Or.inr (Or.inr (Or.inr (Or.inr (Or.inl ⟨by omega, by omega, joinM_R zJ (by first | exact Or.inl ⟨by omega, by omega⟩ | exact Or.inr ⟨by omega, Or.inl ⟨by omega, by omega⟩⟩ | exact Or.inr ⟨by omega, Or.inr ⟨by omega, by omega, by omega⟩⟩), fun _ => by omega, by omega⟩)))) | exact Or.inr (Or.inr (Or.inr (Or.inr (Or.inr (Or.inl ⟨by omega, by omega, sumM_R zS (by first | exact Or.inl ⟨by omega, by omega⟩ | exact Or.inr ⟨by omega, Or.inl ⟨by omega, by omega⟩⟩ | exact Or.inr ⟨by omega, Or.inr ⟨by omega, by omega, by omega⟩⟩), by first | omega | exact cw9, by omega⟩))))) | exact ⟨0, _, _, Or.inl ⟨by omega, fillM_R zF (by first | exact Or.inl ⟨by omega, by omega⟩ | exact Or.inr ⟨by omega, Or.inl ⟨by omega, by omega⟩⟩ | exact Or.inr ⟨by omega, Or.inr ⟨by omega, by omega, by omega⟩⟩), rfl, rfl⟩⟩ | exact ⟨0, _, _, Or.inr (Or.inr (Or.inl ⟨by omega, by omega, cutM_R zC (by first | exact Or.inl ⟨by omega, by omega⟩ | exact Or.inr ⟨by omega, Or.inl ⟨by omega, by omega⟩⟩ | exact Or.inr ⟨by omega, Or.inr ⟨by omega, by omega, by omega⟩⟩), rfl, rfl⟩))⟩ | exact ⟨0, _, _, Or.inr (Or.inr (Or.inr (Or.inl ⟨by omega, by omega, fmE_R zW (by first | exact Or.inl ⟨by omega, by omega⟩ | exact Or.inr ⟨by omega, Or.inl ⟨by omega, by omega⟩⟩ | exact Or.inr ⟨by omega, Or.inr ⟨by omega, by omega, by omega⟩⟩), rfl⟩)))⟩ | exact ⟨0, 0, _, Or.inr (Or.inr (Or.inr (Or.inr (Or.inl ⟨by omega, by omega, joinM_R zJ (by first | exact Or.inl ⟨by omega, by omega⟩ | exact Or.inr ⟨by omega, Or.inl ⟨by omega, by omega⟩⟩ | exact Or.inr ⟨by omega, Or.inr ⟨by omega, by omega, by omega⟩⟩), fun q => absurd q (by omega), rfl⟩))))⟩ | exact ⟨0, _, _, Or.inr (Or.inr (Or.inr (Or.inr (Or.inr (Or.inl ⟨by omega, by omega, sumM_R zS (by first | exact Or.inl ⟨by omega, by omega⟩ | exact Or.inr ⟨by omega, Or.inl ⟨by omega, by omega⟩⟩ | exact Or.inr ⟨by omega, Or.inr ⟨by omega, by omega, by omega⟩⟩), rfl, rfl⟩)))))⟩ | exact ⟨0, 0, 0, (wf_88_0 (by omega)).elim (fun w => Or.inr (Or.inr (Or.inr (Or.inr (Or.inr (Or.inr (w))))))) (fun w => Or.inr (Or.inl w))⟩ | omega) (by first | exact Ko_h243 | exact Or.inl ⟨by omega, fillM_R zF (by first | exact Or.inl ⟨by omega, by omega⟩ | exact Or.inr ⟨by omega, Or.inl ⟨by omega, by omega⟩⟩ | exact Or.inr ⟨by omega, Or.inr ⟨by omega, by omega, by omega⟩⟩), by omega, by omega⟩ | exact Or.inr (Or.inr (Or.inl ⟨by omega, by omega, cutM_R zC (by first | exact Or.inl ⟨by omega, by omega⟩ | exact Or.inr ⟨by omega, Or.inl ⟨by omega, by omega⟩⟩ | exact Or.inr ⟨by omega, Or.inr ⟨by omega, by omega, by omega⟩⟩), by first | omega | exact cw9, by omega⟩)) | exact Or.inr (Or.inr (Or.inr (Or.inl ⟨by omega, by omega, by first | (rw [cw9]; exact fmE_R zW (by first | exact Or.inl ⟨by omega, by omega⟩ | exact Or.inr ⟨by omega, Or.inl ⟨by omega, by omega⟩⟩ | exact Or.inr ⟨by omega, Or.inr ⟨by omega, by omega, by omega⟩⟩)) | exact fmE_R zW (by first | exact Or.inl ⟨by omega, by omega⟩ | exact Or.inr ⟨by omega, Or.inl ⟨by omega, by omega⟩⟩ | exact Or.inr ⟨by omega, Or.inr ⟨by omega, by omega, by omega⟩⟩), by omega⟩))) | exact Or.inr (Or.inr (Or.inr (Or.inr (Or.inl ⟨by omega, by omega, joinM_R zJ (by first | exact Or.inl ⟨by omega, by omega⟩ | exact Or.inr ⟨by omega, Or.inl ⟨by omega, by omega⟩⟩ | exact Or.inr ⟨by omega, Or.inr ⟨by omega, by omega, by omega⟩⟩), fun _ => by omega, by omega⟩)))) | exact Or.inr (Or.inr (Or.inr (Or.inr (Or.inr (Or.inl ⟨by omega, by omega, sumM_R zS (by first | exact Or.inl ⟨by omega, by omega⟩ | exact Or.inr ⟨by omega, Or.inl ⟨by omega, by omega⟩⟩ | exact Or.inr ⟨by omega, Or.inr ⟨by omega, by omega, by omega⟩⟩), by first | omega | exact cw9, by omega⟩))))) | exact ⟨0, _, _, Or.inl ⟨by omega, fillM_R zF (by first | exact Or.inl ⟨by omega, by omega⟩ | exact Or.inr ⟨by omega, Or.inl ⟨by omega, by omega⟩⟩ | exact Or.inr ⟨by omega, Or.inr ⟨by omega, by omega, by omega⟩⟩), rfl, rfl⟩⟩ | exact ⟨0, _, _, Or.inr (Or.inr (Or.inl ⟨by omega, by omega, cutM_R zC (by first | exact Or.inl ⟨by omega, by omega⟩ | exact Or.inr ⟨by omega, Or.inl ⟨by omega, by omega⟩⟩ | exact Or.inr ⟨by omega, Or.inr ⟨by omega, by omega, by omega⟩⟩), rfl, rfl⟩))⟩ | exact ⟨0, _, _, Or.inr (Or.inr (Or.inr (Or.inl ⟨by omega, by omega, fmE_R zW (by first | exact Or.inl ⟨by omega, by omega⟩ | exact Or.inr ⟨by omega, Or.inl ⟨by omega, by omega⟩⟩ | exact Or.inr ⟨by omega, Or.inr ⟨by omega, by omega, by omega⟩⟩), rfl⟩)))⟩ | exact ⟨0, 0, _, Or.inr (Or.inr (Or.inr (Or.inr (Or.inl ⟨by omega, by omega, joinM_R zJ (by first | exact Or.inl ⟨by omega, by omega⟩ | exact Or.inr ⟨by omega, Or.inl ⟨by omega, by omega⟩⟩ | exact Or.inr ⟨by omega, Or.inr ⟨by omega, by omega, by omega⟩⟩), fun q => absurd q (by omega), rfl⟩))))⟩ | exact ⟨0, _, _, Or.inr (Or.inr (Or.inr (Or.inr (Or.inr (Or.inl ⟨by omega, by omega, sumM_R zS (by first | exact Or.inl ⟨by omega, by omega⟩ | exact Or.inr ⟨by omega, Or.inl ⟨by omega, by omega⟩⟩ | exact Or.inr ⟨by omega, Or.inr ⟨by omega, by omega, by omega⟩⟩), rfl, rfl⟩)))))⟩ | exact ⟨0, 0, 0, (wf_88_0 (by omega)).elim (fun w => Or.inr (Or.inr (Or.inr (Or.inr (Or.inr (Or.inr (w))))))) (fun w => Or.inr (Or.inl w))⟩ | omega) Tok_h243t250 Mq_h243 Wrd_h243 Wd9_h243)
          ·
            refine w_aload_n gz_185_148 rfl ?_
            refine w_iload gz_185_149 rfl ?_
            have ce263 : h6 151 7 = (v3 + 1) := (my_up_self fh6)
            have ce264 : h6 151 27 = k151_27 := ((my_up_fld fh6 (by decide)).trans c151_27_88_0)
            have hi265 : 36 ≤ (36 + v10) := by omega
            have hi266 : (36 + v10) ≤ 41 := by omega
            refine w_inv (k := 1) (as := [(0, (36 + v10))]) (r := []) (x := 151) (ls0 := [(2, 151), (0, (36 + v10)), (9, 0)]) gz_185_151 gm_189 rfl is_151 rd_10 rfl rfl rfl rfl rfl (c_Model_readJoin9_f0 (d := d) (x1 := (36 + v10)) (wv := wv) (by omega) (by omega) (((my_up_fld fh6 (by decide)).trans ev1.symm).trans (by omega)) (by first | assumption | omega) (by first | assumption | omega) Tok_h6t8 Mq_h6 Wd9_h6 (by first | assumption | exact no_such_saying | exact Fp_told (by omega) (by omega) | omega | (subst_vars; omega) | omega) (fun h267 frh267 w268 w269 xp270 xp271 xp272 Tok_h267t273 Mq_h267t274 Wd9_h267t275 => ?_) (fun h276 frh276 w277 w278 w279 xp280 xp281 xp282 xp283 xp284 xp285 Tok_h276t286 Mq_h276t287 Wd9_h276t288 => ?_))
            ·
              have gh267 : my_fr [(10, 7), (10, 8), (10, 27), (66, -1), (67, -1), (68, -1), (69, -1), (70, -1), (71, -1), (72, -1), (73, -1), (74, -1), (75, -1), (77, -1), (78, -1), (79, -1)] h h267 := my_fr.tr gh6 (frh267.mo rfl)
              have Wrd_h267 : Wrd h267 := Wrd_ag (my_ag.fr frh267 rfl) Wrd_h6
              have Wd9_h267 : Wd9 h267 := Wd9_ag (my_ag.fr frh267 rfl) Wd9_h6
              show wp l rho (d + 4) 185 154 [(2, 151), (0, p88_0), (0, p88_1), (0, p88_2), (0, p88_3), (0, (36 + v10)), (9, 0), (9, 0)] [] h267 Q
              have ps289 : h6 151 7 = (sN (sm h) (h 151 7)) := ps7
              rw [ps289] at xp270
              have tE290 : sm h6 = sm h := sm_eq (fun j => my_fr.at gh6 is_153 rfl) (fun j => my_fr.at gh6 is_154 rfl) (fun j => my_fr.at gh6 is_155 rfl)
              rw [tE290] at xp271
              rw [ps289] at xp271
              have q27 : h6 151 27 = h 151 27 := by omega
              have q57 : h6 157 = h 157 := funext (fun j => my_fr.at gh6 is_157 rfl)
              have zJ := xp271
              simp only [q27, q57] at zJ
              have Ko_h267t291 : Ko h h267 := Ko_tr Ko_h6 xp272
              refine w_goto (t := 228) gz_185_154 rfl ?_
              refine w_aload_n gz_185_228 rfl ?_
              refine v_getI (j := 8) gz_185_229 rfl is_151 rd_10 rfl (fun v292 ev292 pv292 qv292 => ?_)
              have zv292 := ev292.trans (rfl : h267 151 8 = h267 151 8)
              refine w_ifne (t := 269) gz_185_232 rfl (fun u293 => ?_) (fun u293 => by exfalso; omega)
              refine w_aload_n gz_185_269 rfl ?_
              refine w_bipush gz_185_270 (by decide) ?_
              refine w_inv (k := 0) (as := [(0, 59)]) (r := []) (x := 151) (ls0 := [(2, 151), (0, 59)]) gz_185_272 gm_183 rfl is_151 rd_10 rfl rfl rfl rfl rfl (c_Model_takeSign9_f1 (d := (d + 2))  (v292) (ev292.symm) (by omega) (by omega) Tok_h267t273 (fun w294 w295 xp296 xp297 Tok_h267t298 => ?_))
              show wp l rho (d + 4) 185 275 [(2, 151), (0, p88_0), (0, p88_1), (0, p88_2), (0, p88_3), (0, (36 + v10)), (9, 0), (9, 0)] [] h267 Q
              have psR : h267 151 7 = h267 151 7 := (rfl : h267 151 7 = h267 151 7)
              have npsR : sm h267 = sm h := sm_eq (fun j => my_fr.at gh267 is_153 rfl) (fun j => my_fr.at gh267 is_154 rfl) (fun j => my_fr.at gh267 is_155 rfl)
              have ce299 : h267 151 8 = v292 := ev292.symm
              have ce300 : h267 151 27 = k151_27 := ((my_fr.at frh267 is_151 rfl).trans ((my_up_fld fh6 (by decide)).trans c151_27_88_0))
              have r167 : ∀ j : Int, h267 167 j = h88_0 167 j := fun j => ((my_fr.at frh267 is_167 rfl).trans ((my_up_role fh6 is_167 is_151 rfl).trans (rfl : h88_0 167 j = h88_0 167 j)))
              have r6 := r167 6
              have c301 := ev292.symm
              exact w_vret gz_185_275 gm_185 (k0 h267 (gh267) (by omega) (by omega) (by first | exact Ko_h267t291 | exact Or.inl ⟨by omega, fillM_R zF (by first | exact Or.inl ⟨by omega, by omega⟩ | exact Or.inr ⟨by omega, Or.inl ⟨by omega, by omega⟩⟩ | exact Or.inr ⟨by omega, Or.inr ⟨by omega, by omega, by omega⟩⟩), by omega, by omega⟩ | exact Or.inr (Or.inr (Or.inl ⟨by omega, by omega, cutM_R zC (by first | exact Or.inl ⟨by omega, by omega⟩ | exact Or.inr ⟨by omega, Or.inl ⟨by omega, by omega⟩⟩ | exact Or.inr ⟨by omega, Or.inr ⟨by omega, by omega, by omega⟩⟩), by first | omega | exact cw9, by omega⟩)) | exact Or.inr (Or.inr (Or.inr (Or.inl ⟨by omega, by omega, by first | (rw [cw9]; exact fmE_R zW (by first | exact Or.inl ⟨by omega, by omega⟩ | exact Or.inr ⟨by omega, Or.inl ⟨by omega, by omega⟩⟩ | exact Or.inr ⟨by omega, Or.inr ⟨by omega, by omega, by omega⟩⟩)) | exact fmE_R zW (by first | exact Or.inl ⟨by omega, by omega⟩ | exact Or.inr ⟨by omega, Or.inl ⟨by omega, by omega⟩⟩ | exact Or.inr ⟨by omega, Or.inr ⟨by omega, by omega, by omega⟩⟩), by omega⟩))) | exact Or.inr (Or.inr (Or.inr (Or.inr (Or.inl ⟨by omega, by omega, joinM_R zJ (by first | exact Or.inl ⟨by omega, by omega⟩ | exact Or.inr ⟨by omega, Or.inl ⟨by omega, by omega⟩⟩ | exact Or.inr ⟨by omega, Or.inr ⟨by omega, by omega, by omega⟩⟩), fun _ => by omega, by omega⟩)))) | exact Or.inr (Or.inr (Or.inr (Or.inr (Or.inr (Or.inl ⟨by omega, by omega, sumM_R zS (by first | exact Or.inl ⟨by omega, by omega⟩ | exact Or.inr ⟨by omega, Or.inl ⟨by omega, by omega⟩⟩ | exact Or.inr ⟨by omega, Or.inr ⟨by omega, by omega, by omega⟩⟩), by first | omega | exact cw9, by omega⟩))))) | exact ⟨0, _, _, Or.inl ⟨by omega, fillM_R zF (by first | exact Or.inl ⟨by omega, by omega⟩ | exact Or.inr ⟨by omega, Or.inl ⟨by omega, by omega⟩⟩ | exact Or.inr ⟨by omega, Or.inr ⟨by omega, by omega, by omega⟩⟩), rfl, rfl⟩⟩ | exact ⟨0, _, _, Or.inr (Or.inr (Or.inl ⟨by omega, by omega, cutM_R zC (by first | exact Or.inl ⟨by omega, by omega⟩ | exact Or.inr ⟨by omega, Or.inl ⟨by omega, by omega⟩⟩ | exact Or.inr ⟨by omega, Or.inr ⟨by omega, by omega, by omega⟩⟩), rfl, rfl⟩))⟩ | exact ⟨0, _, _, Or.inr (Or.inr (Or.inr (Or.inl ⟨by omega, by omega, fmE_R zW (by first | exact Or.inl ⟨by omega, by omega⟩ | exact Or.inr ⟨by omega, Or.inl ⟨by omega, by omega⟩⟩ | exact Or.inr ⟨by omega, Or.inr ⟨by omega, by omega, by omega⟩⟩), rfl⟩)))⟩ | exact ⟨0, 0, _, Or.inr (Or.inr (Or.inr (Or.inr (Or.inl ⟨by omega, by omega, joinM_R zJ (by first | exact Or.inl ⟨by omega, by omega⟩ | exact Or.inr ⟨by omega, Or.inl ⟨by omega, by omega⟩⟩ | exact Or.inr ⟨by omega, Or.inr ⟨by omega, by omega, by omega⟩⟩), fun q => absurd q (by omega), rfl⟩))))⟩ | exact ⟨0, _, _, Or.inr (Or.inr (Or.inr (Or.inr (Or.inr (Or.inl ⟨by omega, by omega, sumM_R zS (by first | exact Or.inl ⟨by omega, by omega⟩ | exact Or.inr ⟨by omega, Or.inl ⟨by omega, by omega⟩⟩ | exact Or.inr ⟨by omega, Or.inr ⟨by omega, by omega, by omega⟩⟩), rfl, rfl⟩)))))⟩ | exact ⟨0, 0, 0, (wf_88_0 (by omega)).elim (fun w => Or.inr (Or.inr (Or.inr (Or.inr (Or.inr (Or.inr (w))))))) (fun w => Or.inr (Or.inl w))⟩ | omega) (by first | exact Ko_h267t291 | exact Or.inl ⟨by omega, fillM_R zF (by first | exact Or.inl ⟨by omega, by omega⟩ | exact Or.inr ⟨by omega, Or.inl ⟨by omega, by omega⟩⟩ | exact Or.inr ⟨by omega, Or.inr ⟨by omega, by omega, by omega⟩⟩), by omega, by omega⟩ | exact Or.inr (Or.inr (Or.inl ⟨by omega, by omega, cutM_R zC (by first | exact Or.inl ⟨by omega, by omega⟩ | exact Or.inr ⟨by omega, Or.inl ⟨by omega, by omega⟩⟩ | exact Or.inr ⟨by omega, Or.inr ⟨by omega, by omega, by omega⟩⟩), by first | omega | exact cw9, by omega⟩)) | exact Or.inr (Or.inr (Or.inr (Or.inl ⟨by omega, by omega, by first | (rw [cw9]; exact fmE_R zW (by first | exact Or.inl ⟨by omega, by omega⟩ | exact Or.inr ⟨by omega, Or.inl ⟨by omega, by omega⟩⟩ | exact Or.inr ⟨by omega, Or.inr ⟨by omega, by omega, by omega⟩⟩)) | exact fmE_R zW (by first | exact Or.inl ⟨by omega, by omega⟩ | exact Or.inr ⟨by omega, Or.inl ⟨by omega, by omega⟩⟩ | exact Or.inr ⟨by omega, Or.inr ⟨by omega, by omega, by omega⟩⟩), by omega⟩))) | exact Or.inr (Or.inr (Or.inr (Or.inr (Or.inl ⟨by omega, by omega, joinM_R zJ (by first | exact Or.inl ⟨by omega, by omega⟩ | exact Or.inr ⟨by omega, Or.inl ⟨by omega, by omega⟩⟩ | exact Or.inr ⟨by omega, Or.inr ⟨by omega, by omega, by omega⟩⟩), fun _ => by omega, by omega⟩)))) | exact Or.inr (Or.inr (Or.inr (Or.inr (Or.inr (Or.inl ⟨by omega, by omega, sumM_R zS (by first | exact Or.inl ⟨by omega, by omega⟩ | exact Or.inr ⟨by omega, Or.inl ⟨by omega, by omega⟩⟩ | exact Or.inr ⟨by omega, Or.inr ⟨by omega, by omega, by omega⟩⟩), by first | omega | exact cw9, by omega⟩))))) | exact ⟨0, _, _, Or.inl ⟨by omega, fillM_R zF (by first | exact Or.inl ⟨by omega, by omega⟩ | exact Or.inr ⟨by omega, Or.inl ⟨by omega, by omega⟩⟩ | exact Or.inr ⟨by omega, Or.inr ⟨by omega, by omega, by omega⟩⟩), rfl, rfl⟩⟩ | exact ⟨0, _, _, Or.inr (Or.inr (Or.inl ⟨by omega, by omega, cutM_R zC (by first | exact Or.inl ⟨by omega, by omega⟩ | exact Or.inr ⟨by omega, Or.inl ⟨by omega, by omega⟩⟩ | exact Or.inr ⟨by omega, Or.inr ⟨by omega, by omega, by omega⟩⟩), rfl, rfl⟩))⟩ | exact ⟨0, _, _, Or.inr (Or.inr (Or.inr (Or.inl ⟨by omega, by omega, fmE_R zW (by first | exact Or.inl ⟨by omega, by omega⟩ | exact Or.inr ⟨by omega, Or.inl ⟨by omega, by omega⟩⟩ | exact Or.inr ⟨by omega, Or.inr ⟨by omega, by omega, by omega⟩⟩), rfl⟩)))⟩ | exact ⟨0, 0, _, Or.inr (Or.inr (Or.inr (Or.inr (Or.inl ⟨by omega, by omega, joinM_R zJ (by first | exact Or.inl ⟨by omega, by omega⟩ | exact Or.inr ⟨by omega, Or.inl ⟨by omega, by omega⟩⟩ | exact Or.inr ⟨by omega, Or.inr ⟨by omega, by omega, by omega⟩⟩), fun q => absurd q (by omega), rfl⟩))))⟩ | exact ⟨0, _, _, Or.inr (Or.inr (Or.inr (Or.inr (Or.inr (Or.inl ⟨by omega, by omega, sumM_R zS (by first | exact Or.inl ⟨by omega, by omega⟩ | exact Or.inr ⟨by omega, Or.inl ⟨by omega, by omega⟩⟩ | exact Or.inr ⟨by omega, Or.inr ⟨by omega, by omega, by omega⟩⟩), rfl, rfl⟩)))))⟩ | exact ⟨0, 0, 0, (wf_88_0 (by omega)).elim (fun w => Or.inr (Or.inr (Or.inr (Or.inr (Or.inr (Or.inr (w))))))) (fun w => Or.inr (Or.inl w))⟩ | omega) (by first | exact Ko_h267t291 | exact Or.inl ⟨by omega, fillM_R zF (by first | exact Or.inl ⟨by omega, by omega⟩ | exact Or.inr ⟨by omega, Or.inl ⟨by omega, by omega⟩⟩ | exact Or.inr ⟨by omega, Or.inr ⟨by omega, by omega, by omega⟩⟩), by omega, by omega⟩ | exact Or.inr (Or.inr (Or.inl ⟨by omega, by omega, cutM_R zC (by first | exact Or.inl ⟨by omega, by omega⟩ | exact Or.inr ⟨by omega, Or.inl ⟨by omega, by omega⟩⟩ | exact Or.inr ⟨by omega, Or.inr ⟨by omega, by omega, by omega⟩⟩), by first | omega | exact cw9, by omega⟩)) | exact Or.inr (Or.inr (Or.inr (Or.inl ⟨by omega, by omega, by first | (rw [cw9]; exact fmE_R zW (by first | exact Or.inl ⟨by omega, by omega⟩ | exact Or.inr ⟨by omega, Or.inl ⟨by omega, by omega⟩⟩ | exact Or.inr ⟨by omega, Or.inr ⟨by omega, by omega, by omega⟩⟩)) | exact fmE_R zW (by first | exact Or.inl ⟨by omega, by omega⟩ | exact Or.inr ⟨by omega, Or.inl ⟨by omega, by omega⟩⟩ | exact Or.inr ⟨by omega, Or.inr ⟨by omega, by omega, by omega⟩⟩), by omega⟩))) | exact Or.inr (Or.inr (Or.inr (Or.inr (Or.inl ⟨by omega, by omega, joinM_R zJ (by first | exact Or.inl ⟨by omega, by omega⟩ | exact Or.inr ⟨by omega, Or.inl ⟨by omega, by omega⟩⟩ | exact Or.inr ⟨by omega, Or.inr ⟨by omega, by omega, by omega⟩⟩), fun _ => by omega, by omega⟩)))) | exact Or.inr (Or.inr (Or.inr (Or.inr (Or.inr (Or.inl ⟨by omega, by omega, sumM_R zS (by first | exact Or.inl ⟨by omega, by omega⟩ | exact Or.inr ⟨by omega, Or.inl ⟨by omega, by omega⟩⟩ | exact Or.inr ⟨by omega, Or.inr ⟨by omega, by omega, by omega⟩⟩), by first | omega | exact cw9, by omega⟩))))) | exact ⟨0, _, _, Or.inl ⟨by omega, fillM_R zF (by first | exact Or.inl ⟨by omega, by omega⟩ | exact Or.inr ⟨by omega, Or.inl ⟨by omega, by omega⟩⟩ | exact Or.inr ⟨by omega, Or.inr ⟨by omega, by omega, by omega⟩⟩), rfl, rfl⟩⟩ | exact ⟨0, _, _, Or.inr (Or.inr (Or.inl ⟨by omega, by omega, cutM_R zC (by first | exact Or.inl ⟨by omega, by omega⟩ | exact Or.inr ⟨by omega, Or.inl ⟨by omega, by omega⟩⟩ | exact Or.inr ⟨by omega, Or.inr ⟨by omega, by omega, by omega⟩⟩), rfl, rfl⟩))⟩ | exact ⟨0, _, _, Or.inr (Or.inr (Or.inr (Or.inl ⟨by omega, by omega, fmE_R zW (by first | exact Or.inl ⟨by omega, by omega⟩ | exact Or.inr ⟨by omega, Or.inl ⟨by omega, by omega⟩⟩ | exact Or.inr ⟨by omega, Or.inr ⟨by omega, by omega, by omega⟩⟩), rfl⟩)))⟩ | exact ⟨0, 0, _, Or.inr (Or.inr (Or.inr (Or.inr (Or.inl ⟨by omega, by omega, joinM_R zJ (by first | exact Or.inl ⟨by omega, by omega⟩ | exact Or.inr ⟨by omega, Or.inl ⟨by omega, by omega⟩⟩ | exact Or.inr ⟨by omega, Or.inr ⟨by omega, by omega, by omega⟩⟩), fun q => absurd q (by omega), rfl⟩))))⟩ | exact ⟨0, _, _, Or.inr (Or.inr (Or.inr (Or.inr (Or.inr (Or.inl ⟨by omega, by omega, sumM_R zS (by first | exact Or.inl ⟨by omega, by omega⟩ | exact Or.inr ⟨by omega, Or.inl ⟨by omega, by omega⟩⟩ | exact Or.inr ⟨by omega, Or.inr ⟨by omega, by omega, by omega⟩⟩), rfl, rfl⟩)))))⟩ | exact ⟨0, 0, 0, (wf_88_0 (by omega)).elim (fun w => Or.inr (Or.inr (Or.inr (Or.inr (Or.inr (Or.inr (w))))))) (fun w => Or.inr (Or.inl w))⟩ | omega) Tok_h267t298 Mq_h267t274 Wrd_h267 Wd9_h267t275)
            ·
              have gh276 : my_fr [(10, 7), (10, 8), (10, 27), (66, -1), (67, -1), (68, -1), (69, -1), (70, -1), (71, -1), (72, -1), (73, -1), (74, -1), (75, -1), (77, -1), (78, -1), (79, -1)] h h276 := my_fr.tr gh6 (frh276.mo rfl)
              have Wrd_h276 : Wrd h276 := Wrd_ag (my_ag.fr frh276 rfl) Wrd_h6
              have Wd9_h276 : Wd9 h276 := Wd9_ag (my_ag.fr frh276 rfl) Wd9_h6
              show wp l rho (d + 4) 185 154 [(2, 151), (0, p88_0), (0, p88_1), (0, p88_2), (0, p88_3), (0, (36 + v10)), (9, 0), (9, 0)] [] h276 Q
              have ps302 : h6 151 7 = (sN (sm h) (h 151 7)) := ps7
              rw [ps302] at xp282
              have tE303 : sm h6 = sm h := sm_eq (fun j => my_fr.at gh6 is_153 rfl) (fun j => my_fr.at gh6 is_154 rfl) (fun j => my_fr.at gh6 is_155 rfl)
              rw [tE303] at xp283
              rw [ps302] at xp283
              rw [tE303] at xp284
              rw [ps302] at xp284
              have q27 : h6 151 27 = h 151 27 := by omega
              have q57 : h6 157 = h 157 := funext (fun j => my_fr.at gh6 is_157 rfl)
              have zJ := xp283
              simp only [q27, q57] at zJ
              have pk := xp280
              have pk3 := xp281
              have kd := xp284
              have Ko_h276t304 : Ko h h276 := Ko_tr Ko_h6 xp285
              refine w_goto (t := 228) gz_185_154 rfl ?_
              refine w_aload_n gz_185_228 rfl ?_
              refine v_getI (j := 8) gz_185_229 rfl is_151 rd_10 rfl (fun v305 ev305 pv305 qv305 => ?_)
              have zv305 := ev305.trans w279
              refine w_ifne (t := 269) gz_185_232 rfl (fun u306 => by exfalso; omega) (fun u306 => ?_)
              refine w_iload_n gz_185_235 rfl ?_
              refine w_ifne (t := 252) gz_185_236 rfl (fun u307 => by exfalso; omega) (fun u307 => ?_)
              refine w_iload_n gz_185_239 rfl ?_
              refine w_ifne (t := 252) gz_185_240 rfl (fun u308 => by exfalso; omega) (fun u308 => ?_)
              refine w_iload_n gz_185_243 rfl ?_
              refine w_ifne (t := 252) gz_185_244 rfl (fun u309 => ?_) (fun u309 => by exfalso; omega)
              refine w_aload_n gz_185_252 rfl ?_
              refine w_iload gz_185_253 rfl ?_
              have d167 : ∀ j : Int, h276 167 j = h88_0 167 j := fun j => ((my_fr.at frh276 is_167 rfl).trans ((my_up_role fh6 is_167 is_151 rfl).trans (rfl : h88_0 167 j = h88_0 167 j)))
              have d6 := d167 6
              have mr0 := Mq_h276t287
              have ce310 : h276 151 27 = k151_27 := ((my_fr.at frh276 is_151 rfl).trans ((my_up_fld fh6 (by decide)).trans c151_27_88_0))
              refine w_inv (k := 1) (as := [(0, (36 + v10))]) (r := []) (x := 151) (ls0 := [(2, 151), (0, (36 + v10)), (9, 0)]) gz_185_255 gm_182 rfl is_151 rd_10 rfl rfl rfl rfl rfl (c_Model_pane2_f0 (d := (d + 3)) (x1 := (36 + v10)) (by omega) (by omega) (ev305.symm.trans (by omega)) (pk.1) (fun h311 frh311 w312 xp313 xp314 => ?_))
              have gh311 : my_fr [(10, 7), (10, 8), (10, 27), (66, -1), (67, -1), (68, -1), (69, -1), (70, -1), (71, -1), (72, -1), (73, -1), (74, -1), (75, -1), (77, -1), (78, -1), (79, -1)] h h311 := my_fr.tr gh276 (frh311.mo rfl)
              have Wrd_h311 : Wrd h311 := Wrd_ag (my_ag.fr frh311 rfl) Wrd_h276
              have Wd9_h311 : Wd9 h311 := Wd9_ag (my_ag.fr frh311 rfl) Wd9_h276t288
              have Tok_h311 : Tok h311 := Tok_ag (my_ag.fr frh311 rfl) Tok_h276t286
              have Ko_h311 : Ko h h311 := Ko_ag (my_ag.fr frh311 rfl) Ko_h276t304
              show wp l rho (d + 4) 185 258 [(2, 151), (0, p88_0), (0, p88_1), (0, p88_2), (0, p88_3), (0, (36 + v10)), (9, 0), (9, 0)] [] h311 Q
              have ag0 : my_ag M3F h276 h311 := my_ag.fr frh311 rfl
              have e27 := xp313
              have e67 : h311 167 6 = h276 167 6 := ag0.at mis_167 rfl
              have mc := ms_c e27
              try (have m3 := mc.2.2.1 kd; rw [← m3] at zW)
              try (have q58 : h276 157 = h 157 := funext (fun j => my_fr.at gh276 is_157 rfl); have j4 := mc.2.1 kd.1; rw [kd.2, q58] at j4)
              refine w_aload_n gz_185_258 rfl ?_
              refine w_getX (v := 167) gz_185_259 is_151 rd_10 rfl (by decide) rfl ?_
              refine w_bipush gz_185_262 (by decide) ?_
              refine w_dup2 gz_185_264 rfl rfl ?_
              refine w_iald gz_185_265 is_167 rd_66 (by omega) (by omega) (fun v316 ev316 pv316 qv316 => ?_)
              have zv316 := ev316.trans ((my_fr.at frh311 is_167 rfl).trans ((my_fr.at frh276 is_167 rfl).trans ev10.symm))
              refine w_iconst gz_185_266 (by decide) ?_
              refine w_iadd gz_185_267 ⟨by omega, by omega⟩ ?_
              have hi317 : 0 ≤ (v316 + 1) := by omega
              have hi318 : (v316 + 1) ≤ 6 := by omega
              refine w_iast gz_185_268 is_167 rd_66 (by omega) (by omega) (by omega) (by omega) (fun h319 fh319 => ?_)
              have gh319 : my_fr [(10, 7), (10, 8), (10, 27), (66, -1), (67, -1), (68, -1), (69, -1), (70, -1), (71, -1), (72, -1), (73, -1), (74, -1), (75, -1), (77, -1), (78, -1), (79, -1)] h h319 := my_fr.up gh311 is_167 fh319 rfl
              have Wrd_h319 : Wrd h319 := Wrd_ag (my_ag.up fh319 is_167 rfl) Wrd_h311
              have Wd9_h319 : Wd9 h319 := Wd9_ag (my_ag.up fh319 is_167 rfl) Wd9_h311
              have Tok_h319 : Tok h319 := Tok_ag (my_ag.up fh319 is_167 rfl) Tok_h311
              have Ko_h319 : Ko h h319 := Ko_7 (a := 167) hwv (by decide) (by omega) fh319 Ko_h311
              have Mq_h319t320 : Mq h319 wv := Mq_add mr0 (by omega) pk pk3 ag0 e27 fh319 (by omega) (by omega)
              have k6 := my_up_self fh319
              refine w_aload_n gz_185_269 rfl ?_
              refine w_bipush gz_185_270 (by decide) ?_
              have ce321 : h319 151 7 = (h276 151 7) := ((my_up_role fh319 is_151 is_167 rfl).trans ((my_fr.at frh311 is_151 rfl).trans (rfl : h276 151 7 = h276 151 7)))
              refine w_inv (k := 0) (as := [(0, 59)]) (r := []) (x := 151) (ls0 := [(2, 151), (0, 59)]) gz_185_272 gm_183 rfl is_151 rd_10 rfl rfl rfl rfl rfl (c_Model_takeSign9_f0 (d := (d + 2))  (((my_up_role fh319 is_151 is_167 rfl).trans ((my_fr.at frh311 is_151 rfl).trans ev305.symm)).trans (by omega)) Tok_h319 (fun h322 frh322 w323 w324 xp325 xp326 xp327 Tok_h322t328 => ?_) (fun h329 frh329 w330 w331 w332 xp333 xp334 xp335 Tok_h329t336 => ?_))
              ·
                have gh322 : my_fr [(10, 7), (10, 8), (10, 27), (66, -1), (67, -1), (68, -1), (69, -1), (70, -1), (71, -1), (72, -1), (73, -1), (74, -1), (75, -1), (77, -1), (78, -1), (79, -1)] h h322 := my_fr.tr gh319 (frh322.mo rfl)
                have Wrd_h322 : Wrd h322 := Wrd_ag (my_ag.fr frh322 rfl) Wrd_h319
                have Wd9_h322 : Wd9 h322 := Wd9_ag (my_ag.fr frh322 rfl) Wd9_h319
                have Ko_h322 : Ko h h322 := Ko_ag (my_ag.fr frh322 rfl) Ko_h319
                have Mq_h322 : Mq h322 wv := Mq_ag (my_ag.fr frh322 rfl) Mq_h319t320
                show wp l rho (d + 4) 185 275 [(2, 151), (0, p88_0), (0, p88_1), (0, p88_2), (0, p88_3), (0, (36 + v10)), (9, 0), (9, 0)] [] h322 Q
                have ps337 : h319 151 7 = h276 151 7 := ((my_up_role fh319 is_151 is_167 rfl).trans ((my_fr.at frh311 is_151 rfl).trans (rfl : h276 151 7 = h276 151 7)))
                rw [ps337] at xp325
                have tE338 : sm h319 = sm h := sm_eq (fun j => my_fr.at gh319 is_153 rfl) (fun j => my_fr.at gh319 is_154 rfl) (fun j => my_fr.at gh319 is_155 rfl)
                rw [tE338] at xp326
                rw [ps337] at xp326
                rw [tE338] at xp327
                rw [ps337] at xp327
                have psR : h322 151 7 = h322 151 7 := (rfl : h322 151 7 = h322 151 7)
                have npsR : sm h322 = sm h := sm_eq (fun j => my_fr.at gh322 is_153 rfl) (fun j => my_fr.at gh322 is_154 rfl) (fun j => my_fr.at gh322 is_155 rfl)
                have ce339 : h322 151 8 = (h322 151 8) := (rfl : h322 151 8 = h322 151 8)
                have ce340 : h322 151 27 = h311 151 27 := ((my_fr.at frh322 is_151 rfl).trans ((my_up_role fh319 is_151 is_167 rfl).trans (rfl : h311 151 27 = h311 151 27)))
                have r167 : ∀ j : Int, h322 167 j = h319 167 j := fun j => ((my_fr.at frh322 is_167 rfl).trans (rfl : h319 167 j = h319 167 j))
                have r6 := r167 6
                have cw9 : h322 151 27 = h311 151 27 := by omega
                have c341 := (rfl : h322 151 8 = h322 151 8)
                exact w_vret gz_185_275 gm_185 (k0 h322 (gh322) (by omega) (by omega) (by first | exact Ko_h322 | exact Or.inl ⟨by omega, fillM_R zF (by first | exact Or.inl ⟨by omega, by omega⟩ | exact Or.inr ⟨by omega, Or.inl ⟨by omega, by omega⟩⟩ | exact Or.inr ⟨by omega, Or.inr ⟨by omega, by omega, by omega⟩⟩), by omega, by omega⟩ | exact Or.inr (Or.inr (Or.inl ⟨by omega, by omega, cutM_R zC (by first | exact Or.inl ⟨by omega, by omega⟩ | exact Or.inr ⟨by omega, Or.inl ⟨by omega, by omega⟩⟩ | exact Or.inr ⟨by omega, Or.inr ⟨by omega, by omega, by omega⟩⟩), by first | omega | exact cw9, by omega⟩)) | exact Or.inr (Or.inr (Or.inr (Or.inl ⟨by omega, by omega, by first | (rw [cw9]; exact fmE_R zW (by first | exact Or.inl ⟨by omega, by omega⟩ | exact Or.inr ⟨by omega, Or.inl ⟨by omega, by omega⟩⟩ | exact Or.inr ⟨by omega, Or.inr ⟨by omega, by omega, by omega⟩⟩)) | exact fmE_R zW (by first | exact Or.inl ⟨by omega, by omega⟩ | exact Or.inr ⟨by omega, Or.inl ⟨by omega, by omega⟩⟩ | exact Or.inr ⟨by omega, Or.inr ⟨by omega, by omega, by omega⟩⟩), by omega⟩))) | exact Or.inr (Or.inr (Or.inr (Or.inr (Or.inl ⟨by omega, by omega, joinM_R zJ (by first | exact Or.inl ⟨by omega, by omega⟩ | exact Or.inr ⟨by omega, Or.inl ⟨by omega, by omega⟩⟩ | exact Or.inr ⟨by omega, Or.inr ⟨by omega, by omega, by omega⟩⟩), fun _ => by omega, by omega⟩)))) | exact Or.inr (Or.inr (Or.inr (Or.inr (Or.inr (Or.inl ⟨by omega, by omega, sumM_R zS (by first | exact Or.inl ⟨by omega, by omega⟩ | exact Or.inr ⟨by omega, Or.inl ⟨by omega, by omega⟩⟩ | exact Or.inr ⟨by omega, Or.inr ⟨by omega, by omega, by omega⟩⟩), by first | omega | exact cw9, by omega⟩))))) | exact ⟨0, _, _, Or.inl ⟨by omega, fillM_R zF (by first | exact Or.inl ⟨by omega, by omega⟩ | exact Or.inr ⟨by omega, Or.inl ⟨by omega, by omega⟩⟩ | exact Or.inr ⟨by omega, Or.inr ⟨by omega, by omega, by omega⟩⟩), rfl, rfl⟩⟩ | exact ⟨0, _, _, Or.inr (Or.inr (Or.inl ⟨by omega, by omega, cutM_R zC (by first | exact Or.inl ⟨by omega, by omega⟩ | exact Or.inr ⟨by omega, Or.inl ⟨by omega, by omega⟩⟩ | exact Or.inr ⟨by omega, Or.inr ⟨by omega, by omega, by omega⟩⟩), rfl, rfl⟩))⟩ | exact ⟨0, _, _, Or.inr (Or.inr (Or.inr (Or.inl ⟨by omega, by omega, fmE_R zW (by first | exact Or.inl ⟨by omega, by omega⟩ | exact Or.inr ⟨by omega, Or.inl ⟨by omega, by omega⟩⟩ | exact Or.inr ⟨by omega, Or.inr ⟨by omega, by omega, by omega⟩⟩), rfl⟩)))⟩ | exact ⟨0, 0, _, Or.inr (Or.inr (Or.inr (Or.inr (Or.inl ⟨by omega, by omega, joinM_R zJ (by first | exact Or.inl ⟨by omega, by omega⟩ | exact Or.inr ⟨by omega, Or.inl ⟨by omega, by omega⟩⟩ | exact Or.inr ⟨by omega, Or.inr ⟨by omega, by omega, by omega⟩⟩), fun q => absurd q (by omega), rfl⟩))))⟩ | exact ⟨0, _, _, Or.inr (Or.inr (Or.inr (Or.inr (Or.inr (Or.inl ⟨by omega, by omega, sumM_R zS (by first | exact Or.inl ⟨by omega, by omega⟩ | exact Or.inr ⟨by omega, Or.inl ⟨by omega, by omega⟩⟩ | exact Or.inr ⟨by omega, Or.inr ⟨by omega, by omega, by omega⟩⟩), rfl, rfl⟩)))))⟩ | exact ⟨0, 0, 0, (wf_88_0 (by omega)).elim (fun w => Or.inr (Or.inr (Or.inr (Or.inr (Or.inr (Or.inr (w))))))) (fun w => Or.inr (Or.inl w))⟩ | omega) (by first | exact Ko_h322 | exact Or.inl ⟨by omega, fillM_R zF (by first | exact Or.inl ⟨by omega, by omega⟩ | exact Or.inr ⟨by omega, Or.inl ⟨by omega, by omega⟩⟩ | exact Or.inr ⟨by omega, Or.inr ⟨by omega, by omega, by omega⟩⟩), by omega, by omega⟩ | exact Or.inr (Or.inr (Or.inl ⟨by omega, by omega, cutM_R zC (by first | exact Or.inl ⟨by omega, by omega⟩ | exact Or.inr ⟨by omega, Or.inl ⟨by omega, by omega⟩⟩ | exact Or.inr ⟨by omega, Or.inr ⟨by omega, by omega, by omega⟩⟩), by first | omega | exact cw9, by omega⟩)) | exact Or.inr (Or.inr (Or.inr (Or.inl ⟨by omega, by omega, by first | (rw [cw9]; exact fmE_R zW (by first | exact Or.inl ⟨by omega, by omega⟩ | exact Or.inr ⟨by omega, Or.inl ⟨by omega, by omega⟩⟩ | exact Or.inr ⟨by omega, Or.inr ⟨by omega, by omega, by omega⟩⟩)) | exact fmE_R zW (by first | exact Or.inl ⟨by omega, by omega⟩ | exact Or.inr ⟨by omega, Or.inl ⟨by omega, by omega⟩⟩ | exact Or.inr ⟨by omega, Or.inr ⟨by omega, by omega, by omega⟩⟩), by omega⟩))) | exact Or.inr (Or.inr (Or.inr (Or.inr (Or.inl ⟨by omega, by omega, joinM_R zJ (by first | exact Or.inl ⟨by omega, by omega⟩ | exact Or.inr ⟨by omega, Or.inl ⟨by omega, by omega⟩⟩ | exact Or.inr ⟨by omega, Or.inr ⟨by omega, by omega, by omega⟩⟩), fun _ => by omega, by omega⟩)))) | exact Or.inr (Or.inr (Or.inr (Or.inr (Or.inr (Or.inl ⟨by omega, by omega, sumM_R zS (by first | exact Or.inl ⟨by omega, by omega⟩ | exact Or.inr ⟨by omega, Or.inl ⟨by omega, by omega⟩⟩ | exact Or.inr ⟨by omega, Or.inr ⟨by omega, by omega, by omega⟩⟩), by first | omega | exact cw9, by omega⟩))))) | exact ⟨0, _, _, Or.inl ⟨by omega, fillM_R zF (by first | exact Or.inl ⟨by omega, by omega⟩ | exact Or.inr ⟨by omega, Or.inl ⟨by omega, by omega⟩⟩ | exact Or.inr ⟨by omega, Or.inr ⟨by omega, by omega, by omega⟩⟩), rfl, rfl⟩⟩ | exact ⟨0, _, _, Or.inr (Or.inr (Or.inl ⟨by omega, by omega, cutM_R zC (by first | exact Or.inl ⟨by omega, by omega⟩ | exact Or.inr ⟨by omega, Or.inl ⟨by omega, by omega⟩⟩ | exact Or.inr ⟨by omega, Or.inr ⟨by omega, by omega, by omega⟩⟩), rfl, rfl⟩))⟩ | exact ⟨0, _, _, Or.inr (Or.inr (Or.inr (Or.inl ⟨by omega, by omega, fmE_R zW (by first | exact Or.inl ⟨by omega, by omega⟩ | exact Or.inr ⟨by omega, Or.inl ⟨by omega, by omega⟩⟩ | exact Or.inr ⟨by omega, Or.inr ⟨by omega, by omega, by omega⟩⟩), rfl⟩)))⟩ | exact ⟨0, 0, _, Or.inr (Or.inr (Or.inr (Or.inr (Or.inl ⟨by omega, by omega, joinM_R zJ (by first | exact Or.inl ⟨by omega, by omega⟩ | exact Or.inr ⟨by omega, Or.inl ⟨by omega, by omega⟩⟩ | exact Or.inr ⟨by omega, Or.inr ⟨by omega, by omega, by omega⟩⟩), fun q => absurd q (by omega), rfl⟩))))⟩ | exact ⟨0, _, _, Or.inr (Or.inr (Or.inr (Or.inr (Or.inr (Or.inl ⟨by omega, by omega, sumM_R zS (by first | exact Or.inl ⟨by omega, by omega⟩ | exact Or.inr ⟨by omega, Or.inl ⟨by omega, by omega⟩⟩ | exact Or.inr ⟨by omega, Or.inr ⟨by omega, by omega, by omega⟩⟩), rfl, rfl⟩)))))⟩ | exact ⟨0, 0, 0, (wf_88_0 (by omega)).elim (fun w => Or.inr (Or.inr (Or.inr (Or.inr (Or.inr (Or.inr (w))))))) (fun w => Or.inr (Or.inl w))⟩ | omega) (by first | exact Ko_h322 | exact Or.inl ⟨by omega, fillM_R zF (by first | exact Or.inl ⟨by omega, by omega⟩ | exact Or.inr ⟨by omega, Or.inl ⟨by omega, by omega⟩⟩ | exact Or.inr ⟨by omega, Or.inr ⟨by omega, by omega, by omega⟩⟩), by omega, by omega⟩ | exact Or.inr (Or.inr (Or.inl ⟨by omega, by omega, cutM_R zC (by first | exact Or.inl ⟨by omega, by omega⟩ | exact Or.inr ⟨by omega, Or.inl ⟨by omega, by omega⟩⟩ | exact Or.inr ⟨by omega, Or.inr ⟨by omega, by omega, by omega⟩⟩), by first | omega | exact cw9, by omega⟩)) | exact Or.inr (Or.inr (Or.inr (Or.inl ⟨by omega, by omega, by first | (rw [cw9]; exact fmE_R zW (by first | exact Or.inl ⟨by omega, by omega⟩ | exact Or.inr ⟨by omega, Or.inl ⟨by omega, by omega⟩⟩ | exact Or.inr ⟨by omega, Or.inr ⟨by omega, by omega, by omega⟩⟩)) | exact fmE_R zW (by first | exact Or.inl ⟨by omega, by omega⟩ | exact Or.inr ⟨by omega, Or.inl ⟨by omega, by omega⟩⟩ | exact Or.inr ⟨by omega, Or.inr ⟨by omega, by omega, by omega⟩⟩), by omega⟩))) | exact Or.inr (Or.inr (Or.inr (Or.inr (Or.inl ⟨by omega, by omega, joinM_R zJ (by first | exact Or.inl ⟨by omega, by omega⟩ | exact Or.inr ⟨by omega, Or.inl ⟨by omega, by omega⟩⟩ | exact Or.inr ⟨by omega, Or.inr ⟨by omega, by omega, by omega⟩⟩), fun _ => by omega, by omega⟩)))) | exact Or.inr (Or.inr (Or.inr (Or.inr (Or.inr (Or.inl ⟨by omega, by omega, sumM_R zS (by first | exact Or.inl ⟨by omega, by omega⟩ | exact Or.inr ⟨by omega, Or.inl ⟨by omega, by omega⟩⟩ | exact Or.inr ⟨by omega, Or.inr ⟨by omega, by omega, by omega⟩⟩), by first | omega | exact cw9, by omega⟩))))) | exact ⟨0, _, _, Or.inl ⟨by omega, fillM_R zF (by first | exact Or.inl ⟨by omega, by omega⟩ | exact Or.inr ⟨by omega, Or.inl ⟨by omega, by omega⟩⟩ | exact Or.inr ⟨by omega, Or.inr ⟨by omega, by omega, by omega⟩⟩), rfl, rfl⟩⟩ | exact ⟨0, _, _, Or.inr (Or.inr (Or.inl ⟨by omega, by omega, cutM_R zC (by first | exact Or.inl ⟨by omega, by omega⟩ | exact Or.inr ⟨by omega, Or.inl ⟨by omega, by omega⟩⟩ | exact Or.inr ⟨by omega, Or.inr ⟨by omega, by omega, by omega⟩⟩), rfl, rfl⟩))⟩ | exact ⟨0, _, _, Or.inr (Or.inr (Or.inr (Or.inl ⟨by omega, by omega, fmE_R zW (by first | exact Or.inl ⟨by omega, by omega⟩ | exact Or.inr ⟨by omega, Or.inl ⟨by omega, by omega⟩⟩ | exact Or.inr ⟨by omega, Or.inr ⟨by omega, by omega, by omega⟩⟩), rfl⟩)))⟩ | exact ⟨0, 0, _, Or.inr (Or.inr (Or.inr (Or.inr (Or.inl ⟨by omega, by omega, joinM_R zJ (by first | exact Or.inl ⟨by omega, by omega⟩ | exact Or.inr ⟨by omega, Or.inl ⟨by omega, by omega⟩⟩ | exact Or.inr ⟨by omega, Or.inr ⟨by omega, by omega, by omega⟩⟩), fun q => absurd q (by omega), rfl⟩))))⟩ | exact ⟨0, _, _, Or.inr (Or.inr (Or.inr (Or.inr (Or.inr (Or.inl ⟨by omega, by omega, sumM_R zS (by first | exact Or.inl ⟨by omega, by omega⟩ | exact Or.inr ⟨by omega, Or.inl ⟨by omega, by omega⟩⟩ | exact Or.inr ⟨by omega, Or.inr ⟨by omega, by omega, by omega⟩⟩), rfl, rfl⟩)))))⟩ | exact ⟨0, 0, 0, (wf_88_0 (by omega)).elim (fun w => Or.inr (Or.inr (Or.inr (Or.inr (Or.inr (Or.inr (w))))))) (fun w => Or.inr (Or.inl w))⟩ | omega) Tok_h322t328 Mq_h322 Wrd_h322 Wd9_h322)
              ·
                have gh329 : my_fr [(10, 7), (10, 8), (10, 27), (66, -1), (67, -1), (68, -1), (69, -1), (70, -1), (71, -1), (72, -1), (73, -1), (74, -1), (75, -1), (77, -1), (78, -1), (79, -1)] h h329 := my_fr.tr gh319 (frh329.mo rfl)
                have Wrd_h329 : Wrd h329 := Wrd_ag (my_ag.fr frh329 rfl) Wrd_h319
                have Wd9_h329 : Wd9 h329 := Wd9_ag (my_ag.fr frh329 rfl) Wd9_h319
                have Ko_h329 : Ko h h329 := Ko_ag (my_ag.fr frh329 rfl) Ko_h319
                have Mq_h329 : Mq h329 wv := Mq_ag (my_ag.fr frh329 rfl) Mq_h319t320
                show wp l rho (d + 4) 185 275 [(2, 151), (0, p88_0), (0, p88_1), (0, p88_2), (0, p88_3), (0, (36 + v10)), (9, 0), (9, 0)] [] h329 Q
                have ps342 : h319 151 7 = h276 151 7 := ((my_up_role fh319 is_151 is_167 rfl).trans ((my_fr.at frh311 is_151 rfl).trans (rfl : h276 151 7 = h276 151 7)))
                rw [ps342] at xp333
                have tE343 : sm h319 = sm h := sm_eq (fun j => my_fr.at gh319 is_153 rfl) (fun j => my_fr.at gh319 is_154 rfl) (fun j => my_fr.at gh319 is_155 rfl)
                rw [tE343] at xp334
                rw [ps342] at xp334
                rw [tE343] at xp335
                rw [ps342] at xp335
                have psR : h329 151 7 = (sN (sm h) ((h276 151 7))) := xp334
                have npsR : sm h329 = sm h := sm_eq (fun j => my_fr.at gh329 is_153 rfl) (fun j => my_fr.at gh329 is_154 rfl) (fun j => my_fr.at gh329 is_155 rfl)
                have ce344 : h329 151 7 = (h329 151 7) := (rfl : h329 151 7 = h329 151 7)
                have ce345 : h329 151 8 = 0 := w332
                have ce346 : h329 151 27 = h311 151 27 := ((my_fr.at frh329 is_151 rfl).trans ((my_up_role fh319 is_151 is_167 rfl).trans (rfl : h311 151 27 = h311 151 27)))
                have r167 : ∀ j : Int, h329 167 j = h319 167 j := fun j => ((my_fr.at frh329 is_167 rfl).trans (rfl : h319 167 j = h319 167 j))
                have r6 := r167 6
                have cw9 : h329 151 27 = h311 151 27 := by omega
                have c347 := (rfl : h329 151 7 = h329 151 7)
                have c348 := w332
                exact w_vret gz_185_275 gm_185 (k1 h329 (gh329) (by omega) (by omega) (by omega) (by first | exact Ko_h329 | exact Or.inl ⟨by omega, fillM_R zF (by first | exact Or.inl ⟨by omega, by omega⟩ | exact Or.inr ⟨by omega, Or.inl ⟨by omega, by omega⟩⟩ | exact Or.inr ⟨by omega, Or.inr ⟨by omega, by omega, by omega⟩⟩), by omega, by omega⟩ | exact Or.inr (Or.inr (Or.inl ⟨by omega, by omega, cutM_R zC (by first | exact Or.inl ⟨by omega, by omega⟩ | exact Or.inr ⟨by omega, Or.inl ⟨by omega, by omega⟩⟩ | exact Or.inr ⟨by omega, Or.inr ⟨by omega, by omega, by omega⟩⟩), by first | omega | exact cw9, by omega⟩)) | exact Or.inr (Or.inr (Or.inr (Or.inl ⟨by omega, by omega, by first | (rw [cw9]; exact fmE_R zW (by first | exact Or.inl ⟨by omega, by omega⟩ | exact Or.inr ⟨by omega, Or.inl ⟨by omega, by omega⟩⟩ | exact Or.inr ⟨by omega, Or.inr ⟨by omega, by omega, by omega⟩⟩)) | exact fmE_R zW (by first | exact Or.inl ⟨by omega, by omega⟩ | exact Or.inr ⟨by omega, Or.inl ⟨by omega, by omega⟩⟩ | exact Or.inr ⟨by omega, Or.inr ⟨by omega, by omega, by omega⟩⟩), by omega⟩))) | exact Or.inr (Or.inr (Or.inr (Or.inr (Or.inl ⟨by omega, by omega, joinM_R zJ (by first | exact Or.inl ⟨by omega, by omega⟩ | exact Or.inr ⟨by omega, Or.inl ⟨by omega, by omega⟩⟩ | exact Or.inr ⟨by omega, Or.inr ⟨by omega, by omega, by omega⟩⟩), fun _ => by omega, by omega⟩)))) | exact Or.inr (Or.inr (Or.inr (Or.inr (Or.inr (Or.inl ⟨by omega, by omega, sumM_R zS (by first | exact Or.inl ⟨by omega, by omega⟩ | exact Or.inr ⟨by omega, Or.inl ⟨by omega, by omega⟩⟩ | exact Or.inr ⟨by omega, Or.inr ⟨by omega, by omega, by omega⟩⟩), by first | omega | exact cw9, by omega⟩))))) | exact ⟨0, _, _, Or.inl ⟨by omega, fillM_R zF (by first | exact Or.inl ⟨by omega, by omega⟩ | exact Or.inr ⟨by omega, Or.inl ⟨by omega, by omega⟩⟩ | exact Or.inr ⟨by omega, Or.inr ⟨by omega, by omega, by omega⟩⟩), rfl, rfl⟩⟩ | exact ⟨0, _, _, Or.inr (Or.inr (Or.inl ⟨by omega, by omega, cutM_R zC (by first | exact Or.inl ⟨by omega, by omega⟩ | exact Or.inr ⟨by omega, Or.inl ⟨by omega, by omega⟩⟩ | exact Or.inr ⟨by omega, Or.inr ⟨by omega, by omega, by omega⟩⟩), rfl, rfl⟩))⟩ | exact ⟨0, _, _, Or.inr (Or.inr (Or.inr (Or.inl ⟨by omega, by omega, fmE_R zW (by first | exact Or.inl ⟨by omega, by omega⟩ | exact Or.inr ⟨by omega, Or.inl ⟨by omega, by omega⟩⟩ | exact Or.inr ⟨by omega, Or.inr ⟨by omega, by omega, by omega⟩⟩), rfl⟩)))⟩ | exact ⟨0, 0, _, Or.inr (Or.inr (Or.inr (Or.inr (Or.inl ⟨by omega, by omega, joinM_R zJ (by first | exact Or.inl ⟨by omega, by omega⟩ | exact Or.inr ⟨by omega, Or.inl ⟨by omega, by omega⟩⟩ | exact Or.inr ⟨by omega, Or.inr ⟨by omega, by omega, by omega⟩⟩), fun q => absurd q (by omega), rfl⟩))))⟩ | exact ⟨0, _, _, Or.inr (Or.inr (Or.inr (Or.inr (Or.inr (Or.inl ⟨by omega, by omega, sumM_R zS (by first | exact Or.inl ⟨by omega, by omega⟩ | exact Or.inr ⟨by omega, Or.inl ⟨by omega, by omega⟩⟩ | exact Or.inr ⟨by omega, Or.inr ⟨by omega, by omega, by omega⟩⟩), rfl, rfl⟩)))))⟩ | exact ⟨0, 0, 0, (wf_88_0 (by omega)).elim (fun w => Or.inr (Or.inr (Or.inr (Or.inr (Or.inr (Or.inr (w))))))) (fun w => Or.inr (Or.inl w))⟩ | omega) (by first | exact Ko_h329 | exact Or.inl ⟨by omega, fillM_R zF (by first | exact Or.inl ⟨by omega, by omega⟩ | exact Or.inr ⟨by omega, Or.inl ⟨by omega, by omega⟩⟩ | exact Or.inr ⟨by omega, Or.inr ⟨by omega, by omega, by omega⟩⟩), by omega, by omega⟩ | exact Or.inr (Or.inr (Or.inl ⟨by omega, by omega, cutM_R zC (by first | exact Or.inl ⟨by omega, by omega⟩ | exact Or.inr ⟨by omega, Or.inl ⟨by omega, by omega⟩⟩ | exact Or.inr ⟨by omega, Or.inr ⟨by omega, by omega, by omega⟩⟩), by first | omega | exact cw9, by omega⟩)) | exact Or.inr (Or.inr (Or.inr (Or.inl ⟨by omega, by omega, by first | (rw [cw9]; exact fmE_R zW (by first | exact Or.inl ⟨by omega, by omega⟩ | exact Or.inr ⟨by omega, Or.inl ⟨by omega, by omega⟩⟩ | exact Or.inr ⟨by omega, Or.inr ⟨by omega, by omega, by omega⟩⟩)) | exact fmE_R zW (by first | exact Or.inl ⟨by omega, by omega⟩ | exact Or.inr ⟨by omega, Or.inl ⟨by omega, by omega⟩⟩ | exact Or.inr ⟨by omega, Or.inr ⟨by omega, by omega, by omega⟩⟩), by omega⟩))) | exact Or.inr (Or.inr (Or.inr (Or.inr (Or.inl ⟨by omega, by omega, joinM_R zJ (by first | exact Or.inl ⟨by omega, by omega⟩ | exact Or.inr ⟨by omega, Or.inl ⟨by omega, by omega⟩⟩ | exact Or.inr ⟨by omega, Or.inr ⟨by omega, by omega, by omega⟩⟩), fun _ => by omega, by omega⟩)))) | exact Or.inr (Or.inr (Or.inr (Or.inr (Or.inr (Or.inl ⟨by omega, by omega, sumM_R zS (by first | exact Or.inl ⟨by omega, by omega⟩ | exact Or.inr ⟨by omega, Or.inl ⟨by omega, by omega⟩⟩ | exact Or.inr ⟨by omega, Or.inr ⟨by omega, by omega, by omega⟩⟩), by first | omega | exact cw9, by omega⟩))))) | exact ⟨0, _, _, Or.inl ⟨by omega, fillM_R zF (by first | exact Or.inl ⟨by omega, by omega⟩ | exact Or.inr ⟨by omega, Or.inl ⟨by omega, by omega⟩⟩ | exact Or.inr ⟨by omega, Or.inr ⟨by omega, by omega, by omega⟩⟩), rfl, rfl⟩⟩ | exact ⟨0, _, _, Or.inr (Or.inr (Or.inl ⟨by omega, by omega, cutM_R zC (by first | exact Or.inl ⟨by omega, by omega⟩ | exact Or.inr ⟨by omega, Or.inl ⟨by omega, by omega⟩⟩ | exact Or.inr ⟨by omega, Or.inr ⟨by omega, by omega, by omega⟩⟩), rfl, rfl⟩))⟩ | exact ⟨0, _, _, Or.inr (Or.inr (Or.inr (Or.inl ⟨by omega, by omega, fmE_R zW (by first | exact Or.inl ⟨by omega, by omega⟩ | exact Or.inr ⟨by omega, Or.inl ⟨by omega, by omega⟩⟩ | exact Or.inr ⟨by omega, Or.inr ⟨by omega, by omega, by omega⟩⟩), rfl⟩)))⟩ | exact ⟨0, 0, _, Or.inr (Or.inr (Or.inr (Or.inr (Or.inl ⟨by omega, by omega, joinM_R zJ (by first | exact Or.inl ⟨by omega, by omega⟩ | exact Or.inr ⟨by omega, Or.inl ⟨by omega, by omega⟩⟩ | exact Or.inr ⟨by omega, Or.inr ⟨by omega, by omega, by omega⟩⟩), fun q => absurd q (by omega), rfl⟩))))⟩ | exact ⟨0, _, _, Or.inr (Or.inr (Or.inr (Or.inr (Or.inr (Or.inl ⟨by omega, by omega, sumM_R zS (by first | exact Or.inl ⟨by omega, by omega⟩ | exact Or.inr ⟨by omega, Or.inl ⟨by omega, by omega⟩⟩ | exact Or.inr ⟨by omega, Or.inr ⟨by omega, by omega, by omega⟩⟩), rfl, rfl⟩)))))⟩ | exact ⟨0, 0, 0, (wf_88_0 (by omega)).elim (fun w => Or.inr (Or.inr (Or.inr (Or.inr (Or.inr (Or.inr (w))))))) (fun w => Or.inr (Or.inl w))⟩ | omega) (by first | exact Ko_h329 | exact Or.inl ⟨by omega, fillM_R zF (by first | exact Or.inl ⟨by omega, by omega⟩ | exact Or.inr ⟨by omega, Or.inl ⟨by omega, by omega⟩⟩ | exact Or.inr ⟨by omega, Or.inr ⟨by omega, by omega, by omega⟩⟩), by omega, by omega⟩ | exact Or.inr (Or.inr (Or.inl ⟨by omega, by omega, cutM_R zC (by first | exact Or.inl ⟨by omega, by omega⟩ | exact Or.inr ⟨by omega, Or.inl ⟨by omega, by omega⟩⟩ | exact Or.inr ⟨by omega, Or.inr ⟨by omega, by omega, by omega⟩⟩), by first | omega | exact cw9, by omega⟩)) | exact Or.inr (Or.inr (Or.inr (Or.inl ⟨by omega, by omega, by first | (rw [cw9]; exact fmE_R zW (by first | exact Or.inl ⟨by omega, by omega⟩ | exact Or.inr ⟨by omega, Or.inl ⟨by omega, by omega⟩⟩ | exact Or.inr ⟨by omega, Or.inr ⟨by omega, by omega, by omega⟩⟩)) | exact fmE_R zW (by first | exact Or.inl ⟨by omega, by omega⟩ | exact Or.inr ⟨by omega, Or.inl ⟨by omega, by omega⟩⟩ | exact Or.inr ⟨by omega, Or.inr ⟨by omega, by omega, by omega⟩⟩), by omega⟩))) | exact Or.inr (Or.inr (Or.inr (Or.inr (Or.inl ⟨by omega, by omega, joinM_R zJ (by first | exact Or.inl ⟨by omega, by omega⟩ | exact Or.inr ⟨by omega, Or.inl ⟨by omega, by omega⟩⟩ | exact Or.inr ⟨by omega, Or.inr ⟨by omega, by omega, by omega⟩⟩), fun _ => by omega, by omega⟩)))) | exact Or.inr (Or.inr (Or.inr (Or.inr (Or.inr (Or.inl ⟨by omega, by omega, sumM_R zS (by first | exact Or.inl ⟨by omega, by omega⟩ | exact Or.inr ⟨by omega, Or.inl ⟨by omega, by omega⟩⟩ | exact Or.inr ⟨by omega, Or.inr ⟨by omega, by omega, by omega⟩⟩), by first | omega | exact cw9, by omega⟩))))) | exact ⟨0, _, _, Or.inl ⟨by omega, fillM_R zF (by first | exact Or.inl ⟨by omega, by omega⟩ | exact Or.inr ⟨by omega, Or.inl ⟨by omega, by omega⟩⟩ | exact Or.inr ⟨by omega, Or.inr ⟨by omega, by omega, by omega⟩⟩), rfl, rfl⟩⟩ | exact ⟨0, _, _, Or.inr (Or.inr (Or.inl ⟨by omega, by omega, cutM_R zC (by first | exact Or.inl ⟨by omega, by omega⟩ | exact Or.inr ⟨by omega, Or.inl ⟨by omega, by omega⟩⟩ | exact Or.inr ⟨by omega, Or.inr ⟨by omega, by omega, by omega⟩⟩), rfl, rfl⟩))⟩ | exact ⟨0, _, _, Or.inr (Or.inr (Or.inr (Or.inl ⟨by omega, by omega, fmE_R zW (by first | exact Or.inl ⟨by omega, by omega⟩ | exact Or.inr ⟨by omega, Or.inl ⟨by omega, by omega⟩⟩ | exact Or.inr ⟨by omega, Or.inr ⟨by omega, by omega, by omega⟩⟩), rfl⟩)))⟩ | exact ⟨0, 0, _, Or.inr (Or.inr (Or.inr (Or.inr (Or.inl ⟨by omega, by omega, joinM_R zJ (by first | exact Or.inl ⟨by omega, by omega⟩ | exact Or.inr ⟨by omega, Or.inl ⟨by omega, by omega⟩⟩ | exact Or.inr ⟨by omega, Or.inr ⟨by omega, by omega, by omega⟩⟩), fun q => absurd q (by omega), rfl⟩))))⟩ | exact ⟨0, _, _, Or.inr (Or.inr (Or.inr (Or.inr (Or.inr (Or.inl ⟨by omega, by omega, sumM_R zS (by first | exact Or.inl ⟨by omega, by omega⟩ | exact Or.inr ⟨by omega, Or.inl ⟨by omega, by omega⟩⟩ | exact Or.inr ⟨by omega, Or.inr ⟨by omega, by omega, by omega⟩⟩), rfl, rfl⟩)))))⟩ | exact ⟨0, 0, 0, (wf_88_0 (by omega)).elim (fun w => Or.inr (Or.inr (Or.inr (Or.inr (Or.inr (Or.inr (w))))))) (fun w => Or.inr (Or.inl w))⟩ | omega) Tok_h329t336 Mq_h329 Wrd_h329 Wd9_h329)
        ·
          refine w_aload_n gz_185_135 rfl ?_
          refine w_iload gz_185_136 rfl ?_
          have ce349 : h6 151 7 = (v3 + 1) := (my_up_self fh6)
          have ce350 : h6 151 27 = k151_27 := ((my_up_fld fh6 (by decide)).trans c151_27_88_0)
          have hi351 : 36 ≤ (36 + v10) := by omega
          have hi352 : (36 + v10) ≤ 41 := by omega
          refine w_inv (k := 3) (as := [(0, (36 + v10))]) (r := []) (x := 151) (ls0 := [(2, 151), (0, (36 + v10)), (9, 0), (9, 0), (9, 0)]) gz_185_138 gm_188 rfl is_151 rd_10 rfl rfl rfl rfl rfl (c_Model_readFew9_f0 (d := (d + 1)) (x1 := (36 + v10)) (wv := wv) (by omega) (by omega) (((my_up_fld fh6 (by decide)).trans ev1.symm).trans (by omega)) (by first | assumption | omega) (by first | assumption | omega) Tok_h6t8 Mq_h6 Wd9_h6 (by first | assumption | exact no_such_saying | exact Fp_told (by omega) (by omega) | omega | (subst_vars; omega) | omega) (fun h353 frh353 xp354 xp355 xp356 xp357 xp358 xp359 Tok_h353t360 Mq_h353t361 Wd9_h353t362 => ?_))
          have gh353 : my_fr [(10, 7), (10, 8), (10, 27), (66, -1), (67, -1), (68, -1), (69, -1), (70, -1), (71, -1), (72, -1), (73, -1), (74, -1), (75, -1), (77, -1), (78, -1), (79, -1)] h h353 := my_fr.tr gh6 (frh353.mo rfl)
          have Wrd_h353 : Wrd h353 := Wrd_ag (my_ag.fr frh353 rfl) Wrd_h6
          have Wd9_h353 : Wd9 h353 := Wd9_ag (my_ag.fr frh353 rfl) Wd9_h6
          show wp l rho (d + 4) 185 141 [(2, 151), (0, p88_0), (0, p88_1), (0, p88_2), (0, p88_3), (0, (36 + v10)), (9, 0), (9, 0)] [] h353 Q
          have ps363 : h6 151 7 = (sN (sm h) (h 151 7)) := ps7
          rw [ps363] at xp356
          have tE364 : sm h6 = sm h := sm_eq (fun j => my_fr.at gh6 is_153 rfl) (fun j => my_fr.at gh6 is_154 rfl) (fun j => my_fr.at gh6 is_155 rfl)
          rw [tE364] at xp357
          rw [ps363] at xp357
          have q27 : h6 151 27 = h 151 27 := by omega
          have q57 : h6 157 = h 157 := funext (fun j => my_fr.at gh6 is_157 rfl)
          have zW := xp357
          simp only [q27, q57] at zW
          have pk := xp354
          have pk3 := xp355
          have kd := xp358
          have Ko_h353t365 : Ko h h353 := Ko_tr Ko_h6 xp359
          refine w_goto (t := 228) gz_185_141 rfl ?_
          refine w_aload_n gz_185_228 rfl ?_
          refine v_getI (j := 8) gz_185_229 rfl is_151 rd_10 rfl (fun v366 ev366 pv366 qv366 => ?_)
          refine w_ifne (t := 269) gz_185_232 rfl (fun u367 => ?_) (fun u367 => ?_)
          ·
            refine w_aload_n gz_185_269 rfl ?_
            refine w_bipush gz_185_270 (by decide) ?_
            refine w_inv (k := 0) (as := [(0, 59)]) (r := []) (x := 151) (ls0 := [(2, 151), (0, 59)]) gz_185_272 gm_183 rfl is_151 rd_10 rfl rfl rfl rfl rfl (c_Model_takeSign9_f1 (d := (d + 2))  (v366) (ev366.symm) (by omega) (by omega) Tok_h353t360 (fun w368 w369 xp370 xp371 Tok_h353t372 => ?_))
            show wp l rho (d + 4) 185 275 [(2, 151), (0, p88_0), (0, p88_1), (0, p88_2), (0, p88_3), (0, (36 + v10)), (9, 0), (9, 0)] [] h353 Q
            have psR : h353 151 7 = h353 151 7 := (rfl : h353 151 7 = h353 151 7)
            have npsR : sm h353 = sm h := sm_eq (fun j => my_fr.at gh353 is_153 rfl) (fun j => my_fr.at gh353 is_154 rfl) (fun j => my_fr.at gh353 is_155 rfl)
            have ce373 : h353 151 8 = v366 := ev366.symm
            have ce374 : h353 151 27 = k151_27 := ((my_fr.at frh353 is_151 rfl).trans ((my_up_fld fh6 (by decide)).trans c151_27_88_0))
            have r167 : ∀ j : Int, h353 167 j = h88_0 167 j := fun j => ((my_fr.at frh353 is_167 rfl).trans ((my_up_role fh6 is_167 is_151 rfl).trans (rfl : h88_0 167 j = h88_0 167 j)))
            have r6 := r167 6
            have c375 := ev366.symm
            exact w_vret gz_185_275 gm_185 (k0 h353 (gh353) (by omega) (by omega) (by first | exact Ko_h353t365 | exact Or.inl ⟨by omega, fillM_R zF (by first | exact Or.inl ⟨by omega, by omega⟩ | exact Or.inr ⟨by omega, Or.inl ⟨by omega, by omega⟩⟩ | exact Or.inr ⟨by omega, Or.inr ⟨by omega, by omega, by omega⟩⟩), by omega, by omega⟩ | exact Or.inr (Or.inr (Or.inl ⟨by omega, by omega, cutM_R zC (by first | exact Or.inl ⟨by omega, by omega⟩ | exact Or.inr ⟨by omega, Or.inl ⟨by omega, by omega⟩⟩ | exact Or.inr ⟨by omega, Or.inr ⟨by omega, by omega, by omega⟩⟩), by first | omega | exact cw9, by omega⟩)) | exact Or.inr (Or.inr (Or.inr (Or.inl ⟨by omega, by omega, by first | (rw [cw9]; exact fmE_R zW (by first | exact Or.inl ⟨by omega, by omega⟩ | exact Or.inr ⟨by omega, Or.inl ⟨by omega, by omega⟩⟩ | exact Or.inr ⟨by omega, Or.inr ⟨by omega, by omega, by omega⟩⟩)) | exact fmE_R zW (by first | exact Or.inl ⟨by omega, by omega⟩ | exact Or.inr ⟨by omega, Or.inl ⟨by omega, by omega⟩⟩ | exact Or.inr ⟨by omega, Or.inr ⟨by omega, by omega, by omega⟩⟩), by omega⟩))) | exact Or.inr (Or.inr (Or.inr (Or.inr (Or.inl ⟨by omega, by omega, joinM_R zJ (by first | exact Or.inl ⟨by omega, by omega⟩ | exact Or.inr ⟨by omega, Or.inl ⟨by omega, by omega⟩⟩ | exact Or.inr ⟨by omega, Or.inr ⟨by omega, by omega, by omega⟩⟩), fun _ => by omega, by omega⟩)))) | exact Or.inr (Or.inr (Or.inr (Or.inr (Or.inr (Or.inl ⟨by omega, by omega, sumM_R zS (by first | exact Or.inl ⟨by omega, by omega⟩ | exact Or.inr ⟨by omega, Or.inl ⟨by omega, by omega⟩⟩ | exact Or.inr ⟨by omega, Or.inr ⟨by omega, by omega, by omega⟩⟩), by first | omega | exact cw9, by omega⟩))))) | exact ⟨0, _, _, Or.inl ⟨by omega, fillM_R zF (by first | exact Or.inl ⟨by omega, by omega⟩ | exact Or.inr ⟨by omega, Or.inl ⟨by omega, by omega⟩⟩ | exact Or.inr ⟨by omega, Or.inr ⟨by omega, by omega, by omega⟩⟩), rfl, rfl⟩⟩ | exact ⟨0, _, _, Or.inr (Or.inr (Or.inl ⟨by omega, by omega, cutM_R zC (by first | exact Or.inl ⟨by omega, by omega⟩ | exact Or.inr ⟨by omega, Or.inl ⟨by omega, by omega⟩⟩ | exact Or.inr ⟨by omega, Or.inr ⟨by omega, by omega, by omega⟩⟩), rfl, rfl⟩))⟩ | exact ⟨0, _, _, Or.inr (Or.inr (Or.inr (Or.inl ⟨by omega, by omega, fmE_R zW (by first | exact Or.inl ⟨by omega, by omega⟩ | exact Or.inr ⟨by omega, Or.inl ⟨by omega, by omega⟩⟩ | exact Or.inr ⟨by omega, Or.inr ⟨by omega, by omega, by omega⟩⟩), rfl⟩)))⟩ | exact ⟨0, 0, _, Or.inr (Or.inr (Or.inr (Or.inr (Or.inl ⟨by omega, by omega, joinM_R zJ (by first | exact Or.inl ⟨by omega, by omega⟩ | exact Or.inr ⟨by omega, Or.inl ⟨by omega, by omega⟩⟩ | exact Or.inr ⟨by omega, Or.inr ⟨by omega, by omega, by omega⟩⟩), fun q => absurd q (by omega), rfl⟩))))⟩ | exact ⟨0, _, _, Or.inr (Or.inr (Or.inr (Or.inr (Or.inr (Or.inl ⟨by omega, by omega, sumM_R zS (by first | exact Or.inl ⟨by omega, by omega⟩ | exact Or.inr ⟨by omega, Or.inl ⟨by omega, by omega⟩⟩ | exact Or.inr ⟨by omega, Or.inr ⟨by omega, by omega, by omega⟩⟩), rfl, rfl⟩)))))⟩ | exact ⟨0, 0, 0, (wf_88_0 (by omega)).elim (fun w => Or.inr (Or.inr (Or.inr (Or.inr (Or.inr (Or.inr (w))))))) (fun w => Or.inr (Or.inl w))⟩ | omega) (by first | exact Ko_h353t365 | exact Or.inl ⟨by omega, fillM_R zF (by first | exact Or.inl ⟨by omega, by omega⟩ | exact Or.inr ⟨by omega, Or.inl ⟨by omega, by omega⟩⟩ | exact Or.inr ⟨by omega, Or.inr ⟨by omega, by omega, by omega⟩⟩), by omega, by omega⟩ | exact Or.inr (Or.inr (Or.inl ⟨by omega, by omega, cutM_R zC (by first | exact Or.inl ⟨by omega, by omega⟩ | exact Or.inr ⟨by omega, Or.inl ⟨by omega, by omega⟩⟩ | exact Or.inr ⟨by omega, Or.inr ⟨by omega, by omega, by omega⟩⟩), by first | omega | exact cw9, by omega⟩)) | exact Or.inr (Or.inr (Or.inr (Or.inl ⟨by omega, by omega, by first | (rw [cw9]; exact fmE_R zW (by first | exact Or.inl ⟨by omega, by omega⟩ | exact Or.inr ⟨by omega, Or.inl ⟨by omega, by omega⟩⟩ | exact Or.inr ⟨by omega, Or.inr ⟨by omega, by omega, by omega⟩⟩)) | exact fmE_R zW (by first | exact Or.inl ⟨by omega, by omega⟩ | exact Or.inr ⟨by omega, Or.inl ⟨by omega, by omega⟩⟩ | exact Or.inr ⟨by omega, Or.inr ⟨by omega, by omega, by omega⟩⟩), by omega⟩))) | exact Or.inr (Or.inr (Or.inr (Or.inr (Or.inl ⟨by omega, by omega, joinM_R zJ (by first | exact Or.inl ⟨by omega, by omega⟩ | exact Or.inr ⟨by omega, Or.inl ⟨by omega, by omega⟩⟩ | exact Or.inr ⟨by omega, Or.inr ⟨by omega, by omega, by omega⟩⟩), fun _ => by omega, by omega⟩)))) | exact Or.inr (Or.inr (Or.inr (Or.inr (Or.inr (Or.inl ⟨by omega, by omega, sumM_R zS (by first | exact Or.inl ⟨by omega, by omega⟩ | exact Or.inr ⟨by omega, Or.inl ⟨by omega, by omega⟩⟩ | exact Or.inr ⟨by omega, Or.inr ⟨by omega, by omega, by omega⟩⟩), by first | omega | exact cw9, by omega⟩))))) | exact ⟨0, _, _, Or.inl ⟨by omega, fillM_R zF (by first | exact Or.inl ⟨by omega, by omega⟩ | exact Or.inr ⟨by omega, Or.inl ⟨by omega, by omega⟩⟩ | exact Or.inr ⟨by omega, Or.inr ⟨by omega, by omega, by omega⟩⟩), rfl, rfl⟩⟩ | exact ⟨0, _, _, Or.inr (Or.inr (Or.inl ⟨by omega, by omega, cutM_R zC (by first | exact Or.inl ⟨by omega, by omega⟩ | exact Or.inr ⟨by omega, Or.inl ⟨by omega, by omega⟩⟩ | exact Or.inr ⟨by omega, Or.inr ⟨by omega, by omega, by omega⟩⟩), rfl, rfl⟩))⟩ | exact ⟨0, _, _, Or.inr (Or.inr (Or.inr (Or.inl ⟨by omega, by omega, fmE_R zW (by first | exact Or.inl ⟨by omega, by omega⟩ | exact Or.inr ⟨by omega, Or.inl ⟨by omega, by omega⟩⟩ | exact Or.inr ⟨by omega, Or.inr ⟨by omega, by omega, by omega⟩⟩), rfl⟩)))⟩ | exact ⟨0, 0, _, Or.inr (Or.inr (Or.inr (Or.inr (Or.inl ⟨by omega, by omega, joinM_R zJ (by first | exact Or.inl ⟨by omega, by omega⟩ | exact Or.inr ⟨by omega, Or.inl ⟨by omega, by omega⟩⟩ | exact Or.inr ⟨by omega, Or.inr ⟨by omega, by omega, by omega⟩⟩), fun q => absurd q (by omega), rfl⟩))))⟩ | exact ⟨0, _, _, Or.inr (Or.inr (Or.inr (Or.inr (Or.inr (Or.inl ⟨by omega, by omega, sumM_R zS (by first | exact Or.inl ⟨by omega, by omega⟩ | exact Or.inr ⟨by omega, Or.inl ⟨by omega, by omega⟩⟩ | exact Or.inr ⟨by omega, Or.inr ⟨by omega, by omega, by omega⟩⟩), rfl, rfl⟩)))))⟩ | exact ⟨0, 0, 0, (wf_88_0 (by omega)).elim (fun w => Or.inr (Or.inr (Or.inr (Or.inr (Or.inr (Or.inr (w))))))) (fun w => Or.inr (Or.inl w))⟩ | omega) (by first | exact Ko_h353t365 | exact Or.inl ⟨by omega, fillM_R zF (by first | exact Or.inl ⟨by omega, by omega⟩ | exact Or.inr ⟨by omega, Or.inl ⟨by omega, by omega⟩⟩ | exact Or.inr ⟨by omega, Or.inr ⟨by omega, by omega, by omega⟩⟩), by omega, by omega⟩ | exact Or.inr (Or.inr (Or.inl ⟨by omega, by omega, cutM_R zC (by first | exact Or.inl ⟨by omega, by omega⟩ | exact Or.inr ⟨by omega, Or.inl ⟨by omega, by omega⟩⟩ | exact Or.inr ⟨by omega, Or.inr ⟨by omega, by omega, by omega⟩⟩), by first | omega | exact cw9, by omega⟩)) | exact Or.inr (Or.inr (Or.inr (Or.inl ⟨by omega, by omega, by first | (rw [cw9]; exact fmE_R zW (by first | exact Or.inl ⟨by omega, by omega⟩ | exact Or.inr ⟨by omega, Or.inl ⟨by omega, by omega⟩⟩ | exact Or.inr ⟨by omega, Or.inr ⟨by omega, by omega, by omega⟩⟩)) | exact fmE_R zW (by first | exact Or.inl ⟨by omega, by omega⟩ | exact Or.inr ⟨by omega, Or.inl ⟨by omega, by omega⟩⟩ | exact Or.inr ⟨by omega, Or.inr ⟨by omega, by omega, by omega⟩⟩), by omega⟩))) | exact Or.inr (Or.inr (Or.inr (Or.inr (Or.inl ⟨by omega, by omega, joinM_R zJ (by first | exact Or.inl ⟨by omega, by omega⟩ | exact Or.inr ⟨by omega, Or.inl ⟨by omega, by omega⟩⟩ | exact Or.inr ⟨by omega, Or.inr ⟨by omega, by omega, by omega⟩⟩), fun _ => by omega, by omega⟩)))) | exact Or.inr (Or.inr (Or.inr (Or.inr (Or.inr (Or.inl ⟨by omega, by omega, sumM_R zS (by first | exact Or.inl ⟨by omega, by omega⟩ | exact Or.inr ⟨by omega, Or.inl ⟨by omega, by omega⟩⟩ | exact Or.inr ⟨by omega, Or.inr ⟨by omega, by omega, by omega⟩⟩), by first | omega | exact cw9, by omega⟩))))) | exact ⟨0, _, _, Or.inl ⟨by omega, fillM_R zF (by first | exact Or.inl ⟨by omega, by omega⟩ | exact Or.inr ⟨by omega, Or.inl ⟨by omega, by omega⟩⟩ | exact Or.inr ⟨by omega, Or.inr ⟨by omega, by omega, by omega⟩⟩), rfl, rfl⟩⟩ | exact ⟨0, _, _, Or.inr (Or.inr (Or.inl ⟨by omega, by omega, cutM_R zC (by first | exact Or.inl ⟨by omega, by omega⟩ | exact Or.inr ⟨by omega, Or.inl ⟨by omega, by omega⟩⟩ | exact Or.inr ⟨by omega, Or.inr ⟨by omega, by omega, by omega⟩⟩), rfl, rfl⟩))⟩ | exact ⟨0, _, _, Or.inr (Or.inr (Or.inr (Or.inl ⟨by omega, by omega, fmE_R zW (by first | exact Or.inl ⟨by omega, by omega⟩ | exact Or.inr ⟨by omega, Or.inl ⟨by omega, by omega⟩⟩ | exact Or.inr ⟨by omega, Or.inr ⟨by omega, by omega, by omega⟩⟩), rfl⟩)))⟩ | exact ⟨0, 0, _, Or.inr (Or.inr (Or.inr (Or.inr (Or.inl ⟨by omega, by omega, joinM_R zJ (by first | exact Or.inl ⟨by omega, by omega⟩ | exact Or.inr ⟨by omega, Or.inl ⟨by omega, by omega⟩⟩ | exact Or.inr ⟨by omega, Or.inr ⟨by omega, by omega, by omega⟩⟩), fun q => absurd q (by omega), rfl⟩))))⟩ | exact ⟨0, _, _, Or.inr (Or.inr (Or.inr (Or.inr (Or.inr (Or.inl ⟨by omega, by omega, sumM_R zS (by first | exact Or.inl ⟨by omega, by omega⟩ | exact Or.inr ⟨by omega, Or.inl ⟨by omega, by omega⟩⟩ | exact Or.inr ⟨by omega, Or.inr ⟨by omega, by omega, by omega⟩⟩), rfl, rfl⟩)))))⟩ | exact ⟨0, 0, 0, (wf_88_0 (by omega)).elim (fun w => Or.inr (Or.inr (Or.inr (Or.inr (Or.inr (Or.inr (w))))))) (fun w => Or.inr (Or.inl w))⟩ | omega) Tok_h353t372 Mq_h353t361 Wrd_h353 Wd9_h353t362)
          ·
            refine w_iload_n gz_185_235 rfl ?_
            refine w_ifne (t := 252) gz_185_236 rfl (fun u376 => by exfalso; omega) (fun u376 => ?_)
            refine w_iload_n gz_185_239 rfl ?_
            refine w_ifne (t := 252) gz_185_240 rfl (fun u377 => ?_) (fun u377 => by exfalso; omega)
            refine w_aload_n gz_185_252 rfl ?_
            refine w_iload gz_185_253 rfl ?_
            have d167 : ∀ j : Int, h353 167 j = h88_0 167 j := fun j => ((my_fr.at frh353 is_167 rfl).trans ((my_up_role fh6 is_167 is_151 rfl).trans (rfl : h88_0 167 j = h88_0 167 j)))
            have d6 := d167 6
            have mr0 := Mq_h353t361
            have ce378 : h353 151 27 = k151_27 := ((my_fr.at frh353 is_151 rfl).trans ((my_up_fld fh6 (by decide)).trans c151_27_88_0))
            refine w_inv (k := 1) (as := [(0, (36 + v10))]) (r := []) (x := 151) (ls0 := [(2, 151), (0, (36 + v10)), (9, 0)]) gz_185_255 gm_182 rfl is_151 rd_10 rfl rfl rfl rfl rfl (c_Model_pane2_f0 (d := (d + 3)) (x1 := (36 + v10)) (by omega) (by omega) (ev366.symm.trans (by omega)) (pk.1) (fun h379 frh379 w380 xp381 xp382 => ?_))
            have gh379 : my_fr [(10, 7), (10, 8), (10, 27), (66, -1), (67, -1), (68, -1), (69, -1), (70, -1), (71, -1), (72, -1), (73, -1), (74, -1), (75, -1), (77, -1), (78, -1), (79, -1)] h h379 := my_fr.tr gh353 (frh379.mo rfl)
            have Wrd_h379 : Wrd h379 := Wrd_ag (my_ag.fr frh379 rfl) Wrd_h353
            have Wd9_h379 : Wd9 h379 := Wd9_ag (my_ag.fr frh379 rfl) Wd9_h353t362
            have Tok_h379 : Tok h379 := Tok_ag (my_ag.fr frh379 rfl) Tok_h353t360
            have Ko_h379 : Ko h h379 := Ko_ag (my_ag.fr frh379 rfl) Ko_h353t365
            show wp l rho (d + 4) 185 258 [(2, 151), (0, p88_0), (0, p88_1), (0, p88_2), (0, p88_3), (0, (36 + v10)), (9, 0), (9, 0)] [] h379 Q
            have ag0 : my_ag M3F h353 h379 := my_ag.fr frh379 rfl
            have e27 := xp381
            have e67 : h379 167 6 = h353 167 6 := ag0.at mis_167 rfl
            have mc := ms_c e27
            try (have m3 := mc.2.2.1 kd; rw [← m3] at zW)
            try (have q58 : h353 157 = h 157 := funext (fun j => my_fr.at gh353 is_157 rfl); have j4 := mc.2.1 kd.1; rw [kd.2, q58] at j4)
            refine w_aload_n gz_185_258 rfl ?_
            refine w_getX (v := 167) gz_185_259 is_151 rd_10 rfl (by decide) rfl ?_
            refine w_bipush gz_185_262 (by decide) ?_
            refine w_dup2 gz_185_264 rfl rfl ?_
            refine w_iald gz_185_265 is_167 rd_66 (by omega) (by omega) (fun v384 ev384 pv384 qv384 => ?_)
            have zv384 := ev384.trans ((my_fr.at frh379 is_167 rfl).trans ((my_fr.at frh353 is_167 rfl).trans ev10.symm))
            refine w_iconst gz_185_266 (by decide) ?_
            refine w_iadd gz_185_267 ⟨by omega, by omega⟩ ?_
            have hi385 : 0 ≤ (v384 + 1) := by omega
            have hi386 : (v384 + 1) ≤ 6 := by omega
            refine w_iast gz_185_268 is_167 rd_66 (by omega) (by omega) (by omega) (by omega) (fun h387 fh387 => ?_)
            have gh387 : my_fr [(10, 7), (10, 8), (10, 27), (66, -1), (67, -1), (68, -1), (69, -1), (70, -1), (71, -1), (72, -1), (73, -1), (74, -1), (75, -1), (77, -1), (78, -1), (79, -1)] h h387 := my_fr.up gh379 is_167 fh387 rfl
            have Wrd_h387 : Wrd h387 := Wrd_ag (my_ag.up fh387 is_167 rfl) Wrd_h379
            have Wd9_h387 : Wd9 h387 := Wd9_ag (my_ag.up fh387 is_167 rfl) Wd9_h379
            have Tok_h387 : Tok h387 := Tok_ag (my_ag.up fh387 is_167 rfl) Tok_h379
            have Ko_h387 : Ko h h387 := Ko_7 (a := 167) hwv (by decide) (by omega) fh387 Ko_h379
            have Mq_h387t388 : Mq h387 wv := Mq_add mr0 (by omega) pk pk3 ag0 e27 fh387 (by omega) (by omega)
            have k6 := my_up_self fh387
            refine w_aload_n gz_185_269 rfl ?_
            refine w_bipush gz_185_270 (by decide) ?_
            have ce389 : h387 151 7 = h353 151 7 := ((my_up_role fh387 is_151 is_167 rfl).trans ((my_fr.at frh379 is_151 rfl).trans (rfl : h353 151 7 = h353 151 7)))
            refine w_inv (k := 0) (as := [(0, 59)]) (r := []) (x := 151) (ls0 := [(2, 151), (0, 59)]) gz_185_272 gm_183 rfl is_151 rd_10 rfl rfl rfl rfl rfl (c_Model_takeSign9_f0 (d := (d + 2))  (((my_up_role fh387 is_151 is_167 rfl).trans ((my_fr.at frh379 is_151 rfl).trans ev366.symm)).trans (by omega)) Tok_h387 (fun h390 frh390 w391 w392 xp393 xp394 xp395 Tok_h390t396 => ?_) (fun h397 frh397 w398 w399 w400 xp401 xp402 xp403 Tok_h397t404 => ?_))
            ·
              have gh390 : my_fr [(10, 7), (10, 8), (10, 27), (66, -1), (67, -1), (68, -1), (69, -1), (70, -1), (71, -1), (72, -1), (73, -1), (74, -1), (75, -1), (77, -1), (78, -1), (79, -1)] h h390 := my_fr.tr gh387 (frh390.mo rfl)
              have Wrd_h390 : Wrd h390 := Wrd_ag (my_ag.fr frh390 rfl) Wrd_h387
              have Wd9_h390 : Wd9 h390 := Wd9_ag (my_ag.fr frh390 rfl) Wd9_h387
              have Ko_h390 : Ko h h390 := Ko_ag (my_ag.fr frh390 rfl) Ko_h387
              have Mq_h390 : Mq h390 wv := Mq_ag (my_ag.fr frh390 rfl) Mq_h387t388
              show wp l rho (d + 4) 185 275 [(2, 151), (0, p88_0), (0, p88_1), (0, p88_2), (0, p88_3), (0, (36 + v10)), (9, 0), (9, 0)] [] h390 Q
              have ps405 : h387 151 7 = h353 151 7 := ((my_up_role fh387 is_151 is_167 rfl).trans ((my_fr.at frh379 is_151 rfl).trans (rfl : h353 151 7 = h353 151 7)))
              rw [ps405] at xp393
              have tE406 : sm h387 = sm h := sm_eq (fun j => my_fr.at gh387 is_153 rfl) (fun j => my_fr.at gh387 is_154 rfl) (fun j => my_fr.at gh387 is_155 rfl)
              rw [tE406] at xp394
              rw [ps405] at xp394
              rw [tE406] at xp395
              rw [ps405] at xp395
              have psR : h390 151 7 = h390 151 7 := (rfl : h390 151 7 = h390 151 7)
              have npsR : sm h390 = sm h := sm_eq (fun j => my_fr.at gh390 is_153 rfl) (fun j => my_fr.at gh390 is_154 rfl) (fun j => my_fr.at gh390 is_155 rfl)
              have ce407 : h390 151 8 = (h390 151 8) := (rfl : h390 151 8 = h390 151 8)
              have ce408 : h390 151 27 = h379 151 27 := ((my_fr.at frh390 is_151 rfl).trans ((my_up_role fh387 is_151 is_167 rfl).trans (rfl : h379 151 27 = h379 151 27)))
              have r167 : ∀ j : Int, h390 167 j = h387 167 j := fun j => ((my_fr.at frh390 is_167 rfl).trans (rfl : h387 167 j = h387 167 j))
              have r6 := r167 6
              have cw9 : h390 151 27 = h379 151 27 := by omega
              have c409 := (rfl : h390 151 8 = h390 151 8)
              exact w_vret gz_185_275 gm_185 (k0 h390 (gh390) (by omega) (by omega) (by first | exact Ko_h390 | exact Or.inl ⟨by omega, fillM_R zF (by first | exact Or.inl ⟨by omega, by omega⟩ | exact Or.inr ⟨by omega, Or.inl ⟨by omega, by omega⟩⟩ | exact Or.inr ⟨by omega, Or.inr ⟨by omega, by omega, by omega⟩⟩), by omega, by omega⟩ | exact Or.inr (Or.inr (Or.inl ⟨by omega, by omega, cutM_R zC (by first | exact Or.inl ⟨by omega, by omega⟩ | exact Or.inr ⟨by omega, Or.inl ⟨by omega, by omega⟩⟩ | exact Or.inr ⟨by omega, Or.inr ⟨by omega, by omega, by omega⟩⟩), by first | omega | exact cw9, by omega⟩)) | exact Or.inr (Or.inr (Or.inr (Or.inl ⟨by omega, by omega, by first | (rw [cw9]; exact fmE_R zW (by first | exact Or.inl ⟨by omega, by omega⟩ | exact Or.inr ⟨by omega, Or.inl ⟨by omega, by omega⟩⟩ | exact Or.inr ⟨by omega, Or.inr ⟨by omega, by omega, by omega⟩⟩)) | exact fmE_R zW (by first | exact Or.inl ⟨by omega, by omega⟩ | exact Or.inr ⟨by omega, Or.inl ⟨by omega, by omega⟩⟩ | exact Or.inr ⟨by omega, Or.inr ⟨by omega, by omega, by omega⟩⟩), by omega⟩))) | exact Or.inr (Or.inr (Or.inr (Or.inr (Or.inl ⟨by omega, by omega, joinM_R zJ (by first | exact Or.inl ⟨by omega, by omega⟩ | exact Or.inr ⟨by omega, Or.inl ⟨by omega, by omega⟩⟩ | exact Or.inr ⟨by omega, Or.inr ⟨by omega, by omega, by omega⟩⟩), fun _ => by omega, by omega⟩)))) | exact Or.inr (Or.inr (Or.inr (Or.inr (Or.inr (Or.inl ⟨by omega, by omega, sumM_R zS (by first | exact Or.inl ⟨by omega, by omega⟩ | exact Or.inr ⟨by omega, Or.inl ⟨by omega, by omega⟩⟩ | exact Or.inr ⟨by omega, Or.inr ⟨by omega, by omega, by omega⟩⟩), by first | omega | exact cw9, by omega⟩))))) | exact ⟨0, _, _, Or.inl ⟨by omega, fillM_R zF (by first | exact Or.inl ⟨by omega, by omega⟩ | exact Or.inr ⟨by omega, Or.inl ⟨by omega, by omega⟩⟩ | exact Or.inr ⟨by omega, Or.inr ⟨by omega, by omega, by omega⟩⟩), rfl, rfl⟩⟩ | exact ⟨0, _, _, Or.inr (Or.inr (Or.inl ⟨by omega, by omega, cutM_R zC (by first | exact Or.inl ⟨by omega, by omega⟩ | exact Or.inr ⟨by omega, Or.inl ⟨by omega, by omega⟩⟩ | exact Or.inr ⟨by omega, Or.inr ⟨by omega, by omega, by omega⟩⟩), rfl, rfl⟩))⟩ | exact ⟨0, _, _, Or.inr (Or.inr (Or.inr (Or.inl ⟨by omega, by omega, fmE_R zW (by first | exact Or.inl ⟨by omega, by omega⟩ | exact Or.inr ⟨by omega, Or.inl ⟨by omega, by omega⟩⟩ | exact Or.inr ⟨by omega, Or.inr ⟨by omega, by omega, by omega⟩⟩), rfl⟩)))⟩ | exact ⟨0, 0, _, Or.inr (Or.inr (Or.inr (Or.inr (Or.inl ⟨by omega, by omega, joinM_R zJ (by first | exact Or.inl ⟨by omega, by omega⟩ | exact Or.inr ⟨by omega, Or.inl ⟨by omega, by omega⟩⟩ | exact Or.inr ⟨by omega, Or.inr ⟨by omega, by omega, by omega⟩⟩), fun q => absurd q (by omega), rfl⟩))))⟩ | exact ⟨0, _, _, Or.inr (Or.inr (Or.inr (Or.inr (Or.inr (Or.inl ⟨by omega, by omega, sumM_R zS (by first | exact Or.inl ⟨by omega, by omega⟩ | exact Or.inr ⟨by omega, Or.inl ⟨by omega, by omega⟩⟩ | exact Or.inr ⟨by omega, Or.inr ⟨by omega, by omega, by omega⟩⟩), rfl, rfl⟩)))))⟩ | exact ⟨0, 0, 0, (wf_88_0 (by omega)).elim (fun w => Or.inr (Or.inr (Or.inr (Or.inr (Or.inr (Or.inr (w))))))) (fun w => Or.inr (Or.inl w))⟩ | omega) (by first | exact Ko_h390 | exact Or.inl ⟨by omega, fillM_R zF (by first | exact Or.inl ⟨by omega, by omega⟩ | exact Or.inr ⟨by omega, Or.inl ⟨by omega, by omega⟩⟩ | exact Or.inr ⟨by omega, Or.inr ⟨by omega, by omega, by omega⟩⟩), by omega, by omega⟩ | exact Or.inr (Or.inr (Or.inl ⟨by omega, by omega, cutM_R zC (by first | exact Or.inl ⟨by omega, by omega⟩ | exact Or.inr ⟨by omega, Or.inl ⟨by omega, by omega⟩⟩ | exact Or.inr ⟨by omega, Or.inr ⟨by omega, by omega, by omega⟩⟩), by first | omega | exact cw9, by omega⟩)) | exact Or.inr (Or.inr (Or.inr (Or.inl ⟨by omega, by omega, by first | (rw [cw9]; exact fmE_R zW (by first | exact Or.inl ⟨by omega, by omega⟩ | exact Or.inr ⟨by omega, Or.inl ⟨by omega, by omega⟩⟩ | exact Or.inr ⟨by omega, Or.inr ⟨by omega, by omega, by omega⟩⟩)) | exact fmE_R zW (by first | exact Or.inl ⟨by omega, by omega⟩ | exact Or.inr ⟨by omega, Or.inl ⟨by omega, by omega⟩⟩ | exact Or.inr ⟨by omega, Or.inr ⟨by omega, by omega, by omega⟩⟩), by omega⟩))) | exact Or.inr (Or.inr (Or.inr (Or.inr (Or.inl ⟨by omega, by omega, joinM_R zJ (by first | exact Or.inl ⟨by omega, by omega⟩ | exact Or.inr ⟨by omega, Or.inl ⟨by omega, by omega⟩⟩ | exact Or.inr ⟨by omega, Or.inr ⟨by omega, by omega, by omega⟩⟩), fun _ => by omega, by omega⟩)))) | exact Or.inr (Or.inr (Or.inr (Or.inr (Or.inr (Or.inl ⟨by omega, by omega, sumM_R zS (by first | exact Or.inl ⟨by omega, by omega⟩ | exact Or.inr ⟨by omega, Or.inl ⟨by omega, by omega⟩⟩ | exact Or.inr ⟨by omega, Or.inr ⟨by omega, by omega, by omega⟩⟩), by first | omega | exact cw9, by omega⟩))))) | exact ⟨0, _, _, Or.inl ⟨by omega, fillM_R zF (by first | exact Or.inl ⟨by omega, by omega⟩ | exact Or.inr ⟨by omega, Or.inl ⟨by omega, by omega⟩⟩ | exact Or.inr ⟨by omega, Or.inr ⟨by omega, by omega, by omega⟩⟩), rfl, rfl⟩⟩ | exact ⟨0, _, _, Or.inr (Or.inr (Or.inl ⟨by omega, by omega, cutM_R zC (by first | exact Or.inl ⟨by omega, by omega⟩ | exact Or.inr ⟨by omega, Or.inl ⟨by omega, by omega⟩⟩ | exact Or.inr ⟨by omega, Or.inr ⟨by omega, by omega, by omega⟩⟩), rfl, rfl⟩))⟩ | exact ⟨0, _, _, Or.inr (Or.inr (Or.inr (Or.inl ⟨by omega, by omega, fmE_R zW (by first | exact Or.inl ⟨by omega, by omega⟩ | exact Or.inr ⟨by omega, Or.inl ⟨by omega, by omega⟩⟩ | exact Or.inr ⟨by omega, Or.inr ⟨by omega, by omega, by omega⟩⟩), rfl⟩)))⟩ | exact ⟨0, 0, _, Or.inr (Or.inr (Or.inr (Or.inr (Or.inl ⟨by omega, by omega, joinM_R zJ (by first | exact Or.inl ⟨by omega, by omega⟩ | exact Or.inr ⟨by omega, Or.inl ⟨by omega, by omega⟩⟩ | exact Or.inr ⟨by omega, Or.inr ⟨by omega, by omega, by omega⟩⟩), fun q => absurd q (by omega), rfl⟩))))⟩ | exact ⟨0, _, _, Or.inr (Or.inr (Or.inr (Or.inr (Or.inr (Or.inl ⟨by omega, by omega, sumM_R zS (by first | exact Or.inl ⟨by omega, by omega⟩ | exact Or.inr ⟨by omega, Or.inl ⟨by omega, by omega⟩⟩ | exact Or.inr ⟨by omega, Or.inr ⟨by omega, by omega, by omega⟩⟩), rfl, rfl⟩)))))⟩ | exact ⟨0, 0, 0, (wf_88_0 (by omega)).elim (fun w => Or.inr (Or.inr (Or.inr (Or.inr (Or.inr (Or.inr (w))))))) (fun w => Or.inr (Or.inl w))⟩ | omega) (by first | exact Ko_h390 | exact Or.inl ⟨by omega, fillM_R zF (by first | exact Or.inl ⟨by omega, by omega⟩ | exact Or.inr ⟨by omega, Or.inl ⟨by omega, by omega⟩⟩ | exact Or.inr ⟨by omega, Or.inr ⟨by omega, by omega, by omega⟩⟩), by omega, by omega⟩ | exact Or.inr (Or.inr (Or.inl ⟨by omega, by omega, cutM_R zC (by first | exact Or.inl ⟨by omega, by omega⟩ | exact Or.inr ⟨by omega, Or.inl ⟨by omega, by omega⟩⟩ | exact Or.inr ⟨by omega, Or.inr ⟨by omega, by omega, by omega⟩⟩), by first | omega | exact cw9, by omega⟩)) | exact Or.inr (Or.inr (Or.inr (Or.inl ⟨by omega, by omega, by first | (rw [cw9]; exact fmE_R zW (by first | exact Or.inl ⟨by omega, by omega⟩ | exact Or.inr ⟨by omega, Or.inl ⟨by omega, by omega⟩⟩ | exact Or.inr ⟨by omega, Or.inr ⟨by omega, by omega, by omega⟩⟩)) | exact fmE_R zW (by first | exact Or.inl ⟨by omega, by omega⟩ | exact Or.inr ⟨by omega, Or.inl ⟨by omega, by omega⟩⟩ | exact Or.inr ⟨by omega, Or.inr ⟨by omega, by omega, by omega⟩⟩), by omega⟩))) | exact Or.inr (Or.inr (Or.inr (Or.inr (Or.inl ⟨by omega, by omega, joinM_R zJ (by first | exact Or.inl ⟨by omega, by omega⟩ | exact Or.inr ⟨by omega, Or.inl ⟨by omega, by omega⟩⟩ | exact Or.inr ⟨by omega, Or.inr ⟨by omega, by omega, by omega⟩⟩), fun _ => by omega, by omega⟩)))) | exact Or.inr (Or.inr (Or.inr (Or.inr (Or.inr (Or.inl ⟨by omega, by omega, sumM_R zS (by first | exact Or.inl ⟨by omega, by omega⟩ | exact Or.inr ⟨by omega, Or.inl ⟨by omega, by omega⟩⟩ | exact Or.inr ⟨by omega, Or.inr ⟨by omega, by omega, by omega⟩⟩), by first | omega | exact cw9, by omega⟩))))) | exact ⟨0, _, _, Or.inl ⟨by omega, fillM_R zF (by first | exact Or.inl ⟨by omega, by omega⟩ | exact Or.inr ⟨by omega, Or.inl ⟨by omega, by omega⟩⟩ | exact Or.inr ⟨by omega, Or.inr ⟨by omega, by omega, by omega⟩⟩), rfl, rfl⟩⟩ | exact ⟨0, _, _, Or.inr (Or.inr (Or.inl ⟨by omega, by omega, cutM_R zC (by first | exact Or.inl ⟨by omega, by omega⟩ | exact Or.inr ⟨by omega, Or.inl ⟨by omega, by omega⟩⟩ | exact Or.inr ⟨by omega, Or.inr ⟨by omega, by omega, by omega⟩⟩), rfl, rfl⟩))⟩ | exact ⟨0, _, _, Or.inr (Or.inr (Or.inr (Or.inl ⟨by omega, by omega, fmE_R zW (by first | exact Or.inl ⟨by omega, by omega⟩ | exact Or.inr ⟨by omega, Or.inl ⟨by omega, by omega⟩⟩ | exact Or.inr ⟨by omega, Or.inr ⟨by omega, by omega, by omega⟩⟩), rfl⟩)))⟩ | exact ⟨0, 0, _, Or.inr (Or.inr (Or.inr (Or.inr (Or.inl ⟨by omega, by omega, joinM_R zJ (by first | exact Or.inl ⟨by omega, by omega⟩ | exact Or.inr ⟨by omega, Or.inl ⟨by omega, by omega⟩⟩ | exact Or.inr ⟨by omega, Or.inr ⟨by omega, by omega, by omega⟩⟩), fun q => absurd q (by omega), rfl⟩))))⟩ | exact ⟨0, _, _, Or.inr (Or.inr (Or.inr (Or.inr (Or.inr (Or.inl ⟨by omega, by omega, sumM_R zS (by first | exact Or.inl ⟨by omega, by omega⟩ | exact Or.inr ⟨by omega, Or.inl ⟨by omega, by omega⟩⟩ | exact Or.inr ⟨by omega, Or.inr ⟨by omega, by omega, by omega⟩⟩), rfl, rfl⟩)))))⟩ | exact ⟨0, 0, 0, (wf_88_0 (by omega)).elim (fun w => Or.inr (Or.inr (Or.inr (Or.inr (Or.inr (Or.inr (w))))))) (fun w => Or.inr (Or.inl w))⟩ | omega) Tok_h390t396 Mq_h390 Wrd_h390 Wd9_h390)
            ·
              have gh397 : my_fr [(10, 7), (10, 8), (10, 27), (66, -1), (67, -1), (68, -1), (69, -1), (70, -1), (71, -1), (72, -1), (73, -1), (74, -1), (75, -1), (77, -1), (78, -1), (79, -1)] h h397 := my_fr.tr gh387 (frh397.mo rfl)
              have Wrd_h397 : Wrd h397 := Wrd_ag (my_ag.fr frh397 rfl) Wrd_h387
              have Wd9_h397 : Wd9 h397 := Wd9_ag (my_ag.fr frh397 rfl) Wd9_h387
              have Ko_h397 : Ko h h397 := Ko_ag (my_ag.fr frh397 rfl) Ko_h387
              have Mq_h397 : Mq h397 wv := Mq_ag (my_ag.fr frh397 rfl) Mq_h387t388
              show wp l rho (d + 4) 185 275 [(2, 151), (0, p88_0), (0, p88_1), (0, p88_2), (0, p88_3), (0, (36 + v10)), (9, 0), (9, 0)] [] h397 Q
              have ps410 : h387 151 7 = h353 151 7 := ((my_up_role fh387 is_151 is_167 rfl).trans ((my_fr.at frh379 is_151 rfl).trans (rfl : h353 151 7 = h353 151 7)))
              rw [ps410] at xp401
              have tE411 : sm h387 = sm h := sm_eq (fun j => my_fr.at gh387 is_153 rfl) (fun j => my_fr.at gh387 is_154 rfl) (fun j => my_fr.at gh387 is_155 rfl)
              rw [tE411] at xp402
              rw [ps410] at xp402
              rw [tE411] at xp403
              rw [ps410] at xp403
              have psR : h397 151 7 = (sN (sm h) ((h353 151 7))) := xp402
              have npsR : sm h397 = sm h := sm_eq (fun j => my_fr.at gh397 is_153 rfl) (fun j => my_fr.at gh397 is_154 rfl) (fun j => my_fr.at gh397 is_155 rfl)
              have ce412 : h397 151 7 = (h397 151 7) := (rfl : h397 151 7 = h397 151 7)
              have ce413 : h397 151 8 = 0 := w400
              have ce414 : h397 151 27 = h379 151 27 := ((my_fr.at frh397 is_151 rfl).trans ((my_up_role fh387 is_151 is_167 rfl).trans (rfl : h379 151 27 = h379 151 27)))
              have r167 : ∀ j : Int, h397 167 j = h387 167 j := fun j => ((my_fr.at frh397 is_167 rfl).trans (rfl : h387 167 j = h387 167 j))
              have r6 := r167 6
              have cw9 : h397 151 27 = h379 151 27 := by omega
              have c415 := (rfl : h397 151 7 = h397 151 7)
              have c416 := w400
              exact w_vret gz_185_275 gm_185 (k1 h397 (gh397) (by omega) (by omega) (by omega) (by first | exact Ko_h397 | exact Or.inl ⟨by omega, fillM_R zF (by first | exact Or.inl ⟨by omega, by omega⟩ | exact Or.inr ⟨by omega, Or.inl ⟨by omega, by omega⟩⟩ | exact Or.inr ⟨by omega, Or.inr ⟨by omega, by omega, by omega⟩⟩), by omega, by omega⟩ | exact Or.inr (Or.inr (Or.inl ⟨by omega, by omega, cutM_R zC (by first | exact Or.inl ⟨by omega, by omega⟩ | exact Or.inr ⟨by omega, Or.inl ⟨by omega, by omega⟩⟩ | exact Or.inr ⟨by omega, Or.inr ⟨by omega, by omega, by omega⟩⟩), by first | omega | exact cw9, by omega⟩)) | exact Or.inr (Or.inr (Or.inr (Or.inl ⟨by omega, by omega, by first | (rw [cw9]; exact fmE_R zW (by first | exact Or.inl ⟨by omega, by omega⟩ | exact Or.inr ⟨by omega, Or.inl ⟨by omega, by omega⟩⟩ | exact Or.inr ⟨by omega, Or.inr ⟨by omega, by omega, by omega⟩⟩)) | exact fmE_R zW (by first | exact Or.inl ⟨by omega, by omega⟩ | exact Or.inr ⟨by omega, Or.inl ⟨by omega, by omega⟩⟩ | exact Or.inr ⟨by omega, Or.inr ⟨by omega, by omega, by omega⟩⟩), by omega⟩))) | exact Or.inr (Or.inr (Or.inr (Or.inr (Or.inl ⟨by omega, by omega, joinM_R zJ (by first | exact Or.inl ⟨by omega, by omega⟩ | exact Or.inr ⟨by omega, Or.inl ⟨by omega, by omega⟩⟩ | exact Or.inr ⟨by omega, Or.inr ⟨by omega, by omega, by omega⟩⟩), fun _ => by omega, by omega⟩)))) | exact Or.inr (Or.inr (Or.inr (Or.inr (Or.inr (Or.inl ⟨by omega, by omega, sumM_R zS (by first | exact Or.inl ⟨by omega, by omega⟩ | exact Or.inr ⟨by omega, Or.inl ⟨by omega, by omega⟩⟩ | exact Or.inr ⟨by omega, Or.inr ⟨by omega, by omega, by omega⟩⟩), by first | omega | exact cw9, by omega⟩))))) | exact ⟨0, _, _, Or.inl ⟨by omega, fillM_R zF (by first | exact Or.inl ⟨by omega, by omega⟩ | exact Or.inr ⟨by omega, Or.inl ⟨by omega, by omega⟩⟩ | exact Or.inr ⟨by omega, Or.inr ⟨by omega, by omega, by omega⟩⟩), rfl, rfl⟩⟩ | exact ⟨0, _, _, Or.inr (Or.inr (Or.inl ⟨by omega, by omega, cutM_R zC (by first | exact Or.inl ⟨by omega, by omega⟩ | exact Or.inr ⟨by omega, Or.inl ⟨by omega, by omega⟩⟩ | exact Or.inr ⟨by omega, Or.inr ⟨by omega, by omega, by omega⟩⟩), rfl, rfl⟩))⟩ | exact ⟨0, _, _, Or.inr (Or.inr (Or.inr (Or.inl ⟨by omega, by omega, fmE_R zW (by first | exact Or.inl ⟨by omega, by omega⟩ | exact Or.inr ⟨by omega, Or.inl ⟨by omega, by omega⟩⟩ | exact Or.inr ⟨by omega, Or.inr ⟨by omega, by omega, by omega⟩⟩), rfl⟩)))⟩ | exact ⟨0, 0, _, Or.inr (Or.inr (Or.inr (Or.inr (Or.inl ⟨by omega, by omega, joinM_R zJ (by first | exact Or.inl ⟨by omega, by omega⟩ | exact Or.inr ⟨by omega, Or.inl ⟨by omega, by omega⟩⟩ | exact Or.inr ⟨by omega, Or.inr ⟨by omega, by omega, by omega⟩⟩), fun q => absurd q (by omega), rfl⟩))))⟩ | exact ⟨0, _, _, Or.inr (Or.inr (Or.inr (Or.inr (Or.inr (Or.inl ⟨by omega, by omega, sumM_R zS (by first | exact Or.inl ⟨by omega, by omega⟩ | exact Or.inr ⟨by omega, Or.inl ⟨by omega, by omega⟩⟩ | exact Or.inr ⟨by omega, Or.inr ⟨by omega, by omega, by omega⟩⟩), rfl, rfl⟩)))))⟩ | exact ⟨0, 0, 0, (wf_88_0 (by omega)).elim (fun w => Or.inr (Or.inr (Or.inr (Or.inr (Or.inr (Or.inr (w))))))) (fun w => Or.inr (Or.inl w))⟩ | omega) (by first | exact Ko_h397 | exact Or.inl ⟨by omega, fillM_R zF (by first | exact Or.inl ⟨by omega, by omega⟩ | exact Or.inr ⟨by omega, Or.inl ⟨by omega, by omega⟩⟩ | exact Or.inr ⟨by omega, Or.inr ⟨by omega, by omega, by omega⟩⟩), by omega, by omega⟩ | exact Or.inr (Or.inr (Or.inl ⟨by omega, by omega, cutM_R zC (by first | exact Or.inl ⟨by omega, by omega⟩ | exact Or.inr ⟨by omega, Or.inl ⟨by omega, by omega⟩⟩ | exact Or.inr ⟨by omega, Or.inr ⟨by omega, by omega, by omega⟩⟩), by first | omega | exact cw9, by omega⟩)) | exact Or.inr (Or.inr (Or.inr (Or.inl ⟨by omega, by omega, by first | (rw [cw9]; exact fmE_R zW (by first | exact Or.inl ⟨by omega, by omega⟩ | exact Or.inr ⟨by omega, Or.inl ⟨by omega, by omega⟩⟩ | exact Or.inr ⟨by omega, Or.inr ⟨by omega, by omega, by omega⟩⟩)) | exact fmE_R zW (by first | exact Or.inl ⟨by omega, by omega⟩ | exact Or.inr ⟨by omega, Or.inl ⟨by omega, by omega⟩⟩ | exact Or.inr ⟨by omega, Or.inr ⟨by omega, by omega, by omega⟩⟩), by omega⟩))) | exact Or.inr (Or.inr (Or.inr (Or.inr (Or.inl ⟨by omega, by omega, joinM_R zJ (by first | exact Or.inl ⟨by omega, by omega⟩ | exact Or.inr ⟨by omega, Or.inl ⟨by omega, by omega⟩⟩ | exact Or.inr ⟨by omega, Or.inr ⟨by omega, by omega, by omega⟩⟩), fun _ => by omega, by omega⟩)))) | exact Or.inr (Or.inr (Or.inr (Or.inr (Or.inr (Or.inl ⟨by omega, by omega, sumM_R zS (by first | exact Or.inl ⟨by omega, by omega⟩ | exact Or.inr ⟨by omega, Or.inl ⟨by omega, by omega⟩⟩ | exact Or.inr ⟨by omega, Or.inr ⟨by omega, by omega, by omega⟩⟩), by first | omega | exact cw9, by omega⟩))))) | exact ⟨0, _, _, Or.inl ⟨by omega, fillM_R zF (by first | exact Or.inl ⟨by omega, by omega⟩ | exact Or.inr ⟨by omega, Or.inl ⟨by omega, by omega⟩⟩ | exact Or.inr ⟨by omega, Or.inr ⟨by omega, by omega, by omega⟩⟩), rfl, rfl⟩⟩ | exact ⟨0, _, _, Or.inr (Or.inr (Or.inl ⟨by omega, by omega, cutM_R zC (by first | exact Or.inl ⟨by omega, by omega⟩ | exact Or.inr ⟨by omega, Or.inl ⟨by omega, by omega⟩⟩ | exact Or.inr ⟨by omega, Or.inr ⟨by omega, by omega, by omega⟩⟩), rfl, rfl⟩))⟩ | exact ⟨0, _, _, Or.inr (Or.inr (Or.inr (Or.inl ⟨by omega, by omega, fmE_R zW (by first | exact Or.inl ⟨by omega, by omega⟩ | exact Or.inr ⟨by omega, Or.inl ⟨by omega, by omega⟩⟩ | exact Or.inr ⟨by omega, Or.inr ⟨by omega, by omega, by omega⟩⟩), rfl⟩)))⟩ | exact ⟨0, 0, _, Or.inr (Or.inr (Or.inr (Or.inr (Or.inl ⟨by omega, by omega, joinM_R zJ (by first | exact Or.inl ⟨by omega, by omega⟩ | exact Or.inr ⟨by omega, Or.inl ⟨by omega, by omega⟩⟩ | exact Or.inr ⟨by omega, Or.inr ⟨by omega, by omega, by omega⟩⟩), fun q => absurd q (by omega), rfl⟩))))⟩ | exact ⟨0, _, _, Or.inr (Or.inr (Or.inr (Or.inr (Or.inr (Or.inl ⟨by omega, by omega, sumM_R zS (by first | exact Or.inl ⟨by omega, by omega⟩ | exact Or.inr ⟨by omega, Or.inl ⟨by omega, by omega⟩⟩ | exact Or.inr ⟨by omega, Or.inr ⟨by omega, by omega, by omega⟩⟩), rfl, rfl⟩)))))⟩ | exact ⟨0, 0, 0, (wf_88_0 (by omega)).elim (fun w => Or.inr (Or.inr (Or.inr (Or.inr (Or.inr (Or.inr (w))))))) (fun w => Or.inr (Or.inl w))⟩ | omega) (by first | exact Ko_h397 | exact Or.inl ⟨by omega, fillM_R zF (by first | exact Or.inl ⟨by omega, by omega⟩ | exact Or.inr ⟨by omega, Or.inl ⟨by omega, by omega⟩⟩ | exact Or.inr ⟨by omega, Or.inr ⟨by omega, by omega, by omega⟩⟩), by omega, by omega⟩ | exact Or.inr (Or.inr (Or.inl ⟨by omega, by omega, cutM_R zC (by first | exact Or.inl ⟨by omega, by omega⟩ | exact Or.inr ⟨by omega, Or.inl ⟨by omega, by omega⟩⟩ | exact Or.inr ⟨by omega, Or.inr ⟨by omega, by omega, by omega⟩⟩), by first | omega | exact cw9, by omega⟩)) | exact Or.inr (Or.inr (Or.inr (Or.inl ⟨by omega, by omega, by first | (rw [cw9]; exact fmE_R zW (by first | exact Or.inl ⟨by omega, by omega⟩ | exact Or.inr ⟨by omega, Or.inl ⟨by omega, by omega⟩⟩ | exact Or.inr ⟨by omega, Or.inr ⟨by omega, by omega, by omega⟩⟩)) | exact fmE_R zW (by first | exact Or.inl ⟨by omega, by omega⟩ | exact Or.inr ⟨by omega, Or.inl ⟨by omega, by omega⟩⟩ | exact Or.inr ⟨by omega, Or.inr ⟨by omega, by omega, by omega⟩⟩), by omega⟩))) | exact Or.inr (Or.inr (Or.inr (Or.inr (Or.inl ⟨by omega, by omega, joinM_R zJ (by first | exact Or.inl ⟨by omega, by omega⟩ | exact Or.inr ⟨by omega, Or.inl ⟨by omega, by omega⟩⟩ | exact Or.inr ⟨by omega, Or.inr ⟨by omega, by omega, by omega⟩⟩), fun _ => by omega, by omega⟩)))) | exact Or.inr (Or.inr (Or.inr (Or.inr (Or.inr (Or.inl ⟨by omega, by omega, sumM_R zS (by first | exact Or.inl ⟨by omega, by omega⟩ | exact Or.inr ⟨by omega, Or.inl ⟨by omega, by omega⟩⟩ | exact Or.inr ⟨by omega, Or.inr ⟨by omega, by omega, by omega⟩⟩), by first | omega | exact cw9, by omega⟩))))) | exact ⟨0, _, _, Or.inl ⟨by omega, fillM_R zF (by first | exact Or.inl ⟨by omega, by omega⟩ | exact Or.inr ⟨by omega, Or.inl ⟨by omega, by omega⟩⟩ | exact Or.inr ⟨by omega, Or.inr ⟨by omega, by omega, by omega⟩⟩), rfl, rfl⟩⟩ | exact ⟨0, _, _, Or.inr (Or.inr (Or.inl ⟨by omega, by omega, cutM_R zC (by first | exact Or.inl ⟨by omega, by omega⟩ | exact Or.inr ⟨by omega, Or.inl ⟨by omega, by omega⟩⟩ | exact Or.inr ⟨by omega, Or.inr ⟨by omega, by omega, by omega⟩⟩), rfl, rfl⟩))⟩ | exact ⟨0, _, _, Or.inr (Or.inr (Or.inr (Or.inl ⟨by omega, by omega, fmE_R zW (by first | exact Or.inl ⟨by omega, by omega⟩ | exact Or.inr ⟨by omega, Or.inl ⟨by omega, by omega⟩⟩ | exact Or.inr ⟨by omega, Or.inr ⟨by omega, by omega, by omega⟩⟩), rfl⟩)))⟩ | exact ⟨0, 0, _, Or.inr (Or.inr (Or.inr (Or.inr (Or.inl ⟨by omega, by omega, joinM_R zJ (by first | exact Or.inl ⟨by omega, by omega⟩ | exact Or.inr ⟨by omega, Or.inl ⟨by omega, by omega⟩⟩ | exact Or.inr ⟨by omega, Or.inr ⟨by omega, by omega, by omega⟩⟩), fun q => absurd q (by omega), rfl⟩))))⟩ | exact ⟨0, _, _, Or.inr (Or.inr (Or.inr (Or.inr (Or.inr (Or.inl ⟨by omega, by omega, sumM_R zS (by first | exact Or.inl ⟨by omega, by omega⟩ | exact Or.inr ⟨by omega, Or.inl ⟨by omega, by omega⟩⟩ | exact Or.inr ⟨by omega, Or.inr ⟨by omega, by omega, by omega⟩⟩), rfl, rfl⟩)))))⟩ | exact ⟨0, 0, 0, (wf_88_0 (by omega)).elim (fun w => Or.inr (Or.inr (Or.inr (Or.inr (Or.inr (Or.inr (w))))))) (fun w => Or.inr (Or.inl w))⟩ | omega) Tok_h397t404 Mq_h397 Wrd_h397 Wd9_h397)
      ·
        refine w_aload_n gz_185_122 rfl ?_
        refine w_iload gz_185_123 rfl ?_
        have ce417 : h6 151 7 = (v3 + 1) := (my_up_self fh6)
        have ce418 : h6 151 27 = k151_27 := ((my_up_fld fh6 (by decide)).trans c151_27_88_0)
        have hi419 : 36 ≤ (36 + v10) := by omega
        have hi420 : (36 + v10) ≤ 41 := by omega
        refine w_inv (k := 2) (as := [(0, (36 + v10))]) (r := []) (x := 151) (ls0 := [(2, 151), (0, (36 + v10)), (9, 0), (9, 0)]) gz_185_125 gm_186 rfl is_151 rd_10 rfl rfl rfl rfl rfl (c_Model_readCut9_f0 (d := (d + 1)) (x1 := (36 + v10)) (wv := wv) (by omega) (by omega) (((my_up_fld fh6 (by decide)).trans ev1.symm).trans (by omega)) (by first | assumption | omega) (by first | assumption | omega) Tok_h6t8 Mq_h6 Wd9_h6 (by first | assumption | exact no_such_saying | exact Fp_told (by omega) (by omega) | omega | (subst_vars; omega) | omega) (fun h421 frh421 w422 w423 xp424 xp425 xp426 Tok_h421t427 Mq_h421t428 Wd9_h421t429 => ?_) (fun h430 frh430 w431 w432 w433 xp434 xp435 xp436 xp437 xp438 xp439 Tok_h430t440 Mq_h430t441 Wd9_h430t442 => ?_))
        ·
          have gh421 : my_fr [(10, 7), (10, 8), (10, 27), (66, -1), (67, -1), (68, -1), (69, -1), (70, -1), (71, -1), (72, -1), (73, -1), (74, -1), (75, -1), (77, -1), (78, -1), (79, -1)] h h421 := my_fr.tr gh6 (frh421.mo rfl)
          have Wrd_h421 : Wrd h421 := Wrd_ag (my_ag.fr frh421 rfl) Wrd_h6
          have Wd9_h421 : Wd9 h421 := Wd9_ag (my_ag.fr frh421 rfl) Wd9_h6
          show wp l rho (d + 4) 185 128 [(2, 151), (0, p88_0), (0, p88_1), (0, p88_2), (0, p88_3), (0, (36 + v10)), (9, 0), (9, 0)] [] h421 Q
          have ps443 : h6 151 7 = (sN (sm h) (h 151 7)) := ps7
          rw [ps443] at xp424
          have tE444 : sm h6 = sm h := sm_eq (fun j => my_fr.at gh6 is_153 rfl) (fun j => my_fr.at gh6 is_154 rfl) (fun j => my_fr.at gh6 is_155 rfl)
          rw [tE444] at xp425
          rw [ps443] at xp425
          have q27 : h6 151 27 = h 151 27 := by omega
          have q57 : h6 157 = h 157 := funext (fun j => my_fr.at gh6 is_157 rfl)
          have zC := xp425
          simp only [q27, q57] at zC
          have Ko_h421t445 : Ko h h421 := Ko_tr Ko_h6 xp426
          refine w_goto (t := 228) gz_185_128 rfl ?_
          refine w_aload_n gz_185_228 rfl ?_
          refine v_getI (j := 8) gz_185_229 rfl is_151 rd_10 rfl (fun v446 ev446 pv446 qv446 => ?_)
          have zv446 := ev446.trans (rfl : h421 151 8 = h421 151 8)
          refine w_ifne (t := 269) gz_185_232 rfl (fun u447 => ?_) (fun u447 => by exfalso; omega)
          refine w_aload_n gz_185_269 rfl ?_
          refine w_bipush gz_185_270 (by decide) ?_
          refine w_inv (k := 0) (as := [(0, 59)]) (r := []) (x := 151) (ls0 := [(2, 151), (0, 59)]) gz_185_272 gm_183 rfl is_151 rd_10 rfl rfl rfl rfl rfl (c_Model_takeSign9_f1 (d := (d + 2))  (v446) (ev446.symm) (by omega) (by omega) Tok_h421t427 (fun w448 w449 xp450 xp451 Tok_h421t452 => ?_))
          show wp l rho (d + 4) 185 275 [(2, 151), (0, p88_0), (0, p88_1), (0, p88_2), (0, p88_3), (0, (36 + v10)), (9, 0), (9, 0)] [] h421 Q
          have psR : h421 151 7 = h421 151 7 := (rfl : h421 151 7 = h421 151 7)
          have npsR : sm h421 = sm h := sm_eq (fun j => my_fr.at gh421 is_153 rfl) (fun j => my_fr.at gh421 is_154 rfl) (fun j => my_fr.at gh421 is_155 rfl)
          have ce453 : h421 151 8 = v446 := ev446.symm
          have ce454 : h421 151 27 = k151_27 := ((my_fr.at frh421 is_151 rfl).trans ((my_up_fld fh6 (by decide)).trans c151_27_88_0))
          have r167 : ∀ j : Int, h421 167 j = h88_0 167 j := fun j => ((my_fr.at frh421 is_167 rfl).trans ((my_up_role fh6 is_167 is_151 rfl).trans (rfl : h88_0 167 j = h88_0 167 j)))
          have r6 := r167 6
          have c455 := ev446.symm
          exact w_vret gz_185_275 gm_185 (k0 h421 (gh421) (by omega) (by omega) (by first | exact Ko_h421t445 | exact Or.inl ⟨by omega, fillM_R zF (by first | exact Or.inl ⟨by omega, by omega⟩ | exact Or.inr ⟨by omega, Or.inl ⟨by omega, by omega⟩⟩ | exact Or.inr ⟨by omega, Or.inr ⟨by omega, by omega, by omega⟩⟩), by omega, by omega⟩ | exact Or.inr (Or.inr (Or.inl ⟨by omega, by omega, cutM_R zC (by first | exact Or.inl ⟨by omega, by omega⟩ | exact Or.inr ⟨by omega, Or.inl ⟨by omega, by omega⟩⟩ | exact Or.inr ⟨by omega, Or.inr ⟨by omega, by omega, by omega⟩⟩), by first | omega | exact cw9, by omega⟩)) | exact Or.inr (Or.inr (Or.inr (Or.inl ⟨by omega, by omega, by first | (rw [cw9]; exact fmE_R zW (by first | exact Or.inl ⟨by omega, by omega⟩ | exact Or.inr ⟨by omega, Or.inl ⟨by omega, by omega⟩⟩ | exact Or.inr ⟨by omega, Or.inr ⟨by omega, by omega, by omega⟩⟩)) | exact fmE_R zW (by first | exact Or.inl ⟨by omega, by omega⟩ | exact Or.inr ⟨by omega, Or.inl ⟨by omega, by omega⟩⟩ | exact Or.inr ⟨by omega, Or.inr ⟨by omega, by omega, by omega⟩⟩), by omega⟩))) | exact Or.inr (Or.inr (Or.inr (Or.inr (Or.inl ⟨by omega, by omega, joinM_R zJ (by first | exact Or.inl ⟨by omega, by omega⟩ | exact Or.inr ⟨by omega, Or.inl ⟨by omega, by omega⟩⟩ | exact Or.inr ⟨by omega, Or.inr ⟨by omega, by omega, by omega⟩⟩), fun _ => by omega, by omega⟩)))) | exact Or.inr (Or.inr (Or.inr (Or.inr (Or.inr (Or.inl ⟨by omega, by omega, sumM_R zS (by first | exact Or.inl ⟨by omega, by omega⟩ | exact Or.inr ⟨by omega, Or.inl ⟨by omega, by omega⟩⟩ | exact Or.inr ⟨by omega, Or.inr ⟨by omega, by omega, by omega⟩⟩), by first | omega | exact cw9, by omega⟩))))) | exact ⟨0, _, _, Or.inl ⟨by omega, fillM_R zF (by first | exact Or.inl ⟨by omega, by omega⟩ | exact Or.inr ⟨by omega, Or.inl ⟨by omega, by omega⟩⟩ | exact Or.inr ⟨by omega, Or.inr ⟨by omega, by omega, by omega⟩⟩), rfl, rfl⟩⟩ | exact ⟨0, _, _, Or.inr (Or.inr (Or.inl ⟨by omega, by omega, cutM_R zC (by first | exact Or.inl ⟨by omega, by omega⟩ | exact Or.inr ⟨by omega, Or.inl ⟨by omega, by omega⟩⟩ | exact Or.inr ⟨by omega, Or.inr ⟨by omega, by omega, by omega⟩⟩), rfl, rfl⟩))⟩ | exact ⟨0, _, _, Or.inr (Or.inr (Or.inr (Or.inl ⟨by omega, by omega, fmE_R zW (by first | exact Or.inl ⟨by omega, by omega⟩ | exact Or.inr ⟨by omega, Or.inl ⟨by omega, by omega⟩⟩ | exact Or.inr ⟨by omega, Or.inr ⟨by omega, by omega, by omega⟩⟩), rfl⟩)))⟩ | exact ⟨0, 0, _, Or.inr (Or.inr (Or.inr (Or.inr (Or.inl ⟨by omega, by omega, joinM_R zJ (by first | exact Or.inl ⟨by omega, by omega⟩ | exact Or.inr ⟨by omega, Or.inl ⟨by omega, by omega⟩⟩ | exact Or.inr ⟨by omega, Or.inr ⟨by omega, by omega, by omega⟩⟩), fun q => absurd q (by omega), rfl⟩))))⟩ | exact ⟨0, _, _, Or.inr (Or.inr (Or.inr (Or.inr (Or.inr (Or.inl ⟨by omega, by omega, sumM_R zS (by first | exact Or.inl ⟨by omega, by omega⟩ | exact Or.inr ⟨by omega, Or.inl ⟨by omega, by omega⟩⟩ | exact Or.inr ⟨by omega, Or.inr ⟨by omega, by omega, by omega⟩⟩), rfl, rfl⟩)))))⟩ | exact ⟨0, 0, 0, (wf_88_0 (by omega)).elim (fun w => Or.inr (Or.inr (Or.inr (Or.inr (Or.inr (Or.inr (w))))))) (fun w => Or.inr (Or.inl w))⟩ | omega) (by first | exact Ko_h421t445 | exact Or.inl ⟨by omega, fillM_R zF (by first | exact Or.inl ⟨by omega, by omega⟩ | exact Or.inr ⟨by omega, Or.inl ⟨by omega, by omega⟩⟩ | exact Or.inr ⟨by omega, Or.inr ⟨by omega, by omega, by omega⟩⟩), by omega, by omega⟩ | exact Or.inr (Or.inr (Or.inl ⟨by omega, by omega, cutM_R zC (by first | exact Or.inl ⟨by omega, by omega⟩ | exact Or.inr ⟨by omega, Or.inl ⟨by omega, by omega⟩⟩ | exact Or.inr ⟨by omega, Or.inr ⟨by omega, by omega, by omega⟩⟩), by first | omega | exact cw9, by omega⟩)) | exact Or.inr (Or.inr (Or.inr (Or.inl ⟨by omega, by omega, by first | (rw [cw9]; exact fmE_R zW (by first | exact Or.inl ⟨by omega, by omega⟩ | exact Or.inr ⟨by omega, Or.inl ⟨by omega, by omega⟩⟩ | exact Or.inr ⟨by omega, Or.inr ⟨by omega, by omega, by omega⟩⟩)) | exact fmE_R zW (by first | exact Or.inl ⟨by omega, by omega⟩ | exact Or.inr ⟨by omega, Or.inl ⟨by omega, by omega⟩⟩ | exact Or.inr ⟨by omega, Or.inr ⟨by omega, by omega, by omega⟩⟩), by omega⟩))) | exact Or.inr (Or.inr (Or.inr (Or.inr (Or.inl ⟨by omega, by omega, joinM_R zJ (by first | exact Or.inl ⟨by omega, by omega⟩ | exact Or.inr ⟨by omega, Or.inl ⟨by omega, by omega⟩⟩ | exact Or.inr ⟨by omega, Or.inr ⟨by omega, by omega, by omega⟩⟩), fun _ => by omega, by omega⟩)))) | exact Or.inr (Or.inr (Or.inr (Or.inr (Or.inr (Or.inl ⟨by omega, by omega, sumM_R zS (by first | exact Or.inl ⟨by omega, by omega⟩ | exact Or.inr ⟨by omega, Or.inl ⟨by omega, by omega⟩⟩ | exact Or.inr ⟨by omega, Or.inr ⟨by omega, by omega, by omega⟩⟩), by first | omega | exact cw9, by omega⟩))))) | exact ⟨0, _, _, Or.inl ⟨by omega, fillM_R zF (by first | exact Or.inl ⟨by omega, by omega⟩ | exact Or.inr ⟨by omega, Or.inl ⟨by omega, by omega⟩⟩ | exact Or.inr ⟨by omega, Or.inr ⟨by omega, by omega, by omega⟩⟩), rfl, rfl⟩⟩ | exact ⟨0, _, _, Or.inr (Or.inr (Or.inl ⟨by omega, by omega, cutM_R zC (by first | exact Or.inl ⟨by omega, by omega⟩ | exact Or.inr ⟨by omega, Or.inl ⟨by omega, by omega⟩⟩ | exact Or.inr ⟨by omega, Or.inr ⟨by omega, by omega, by omega⟩⟩), rfl, rfl⟩))⟩ | exact ⟨0, _, _, Or.inr (Or.inr (Or.inr (Or.inl ⟨by omega, by omega, fmE_R zW (by first | exact Or.inl ⟨by omega, by omega⟩ | exact Or.inr ⟨by omega, Or.inl ⟨by omega, by omega⟩⟩ | exact Or.inr ⟨by omega, Or.inr ⟨by omega, by omega, by omega⟩⟩), rfl⟩)))⟩ | exact ⟨0, 0, _, Or.inr (Or.inr (Or.inr (Or.inr (Or.inl ⟨by omega, by omega, joinM_R zJ (by first | exact Or.inl ⟨by omega, by omega⟩ | exact Or.inr ⟨by omega, Or.inl ⟨by omega, by omega⟩⟩ | exact Or.inr ⟨by omega, Or.inr ⟨by omega, by omega, by omega⟩⟩), fun q => absurd q (by omega), rfl⟩))))⟩ | exact ⟨0, _, _, Or.inr (Or.inr (Or.inr (Or.inr (Or.inr (Or.inl ⟨by omega, by omega, sumM_R zS (by first | exact Or.inl ⟨by omega, by omega⟩ | exact Or.inr ⟨by omega, Or.inl ⟨by omega, by omega⟩⟩ | exact Or.inr ⟨by omega, Or.inr ⟨by omega, by omega, by omega⟩⟩), rfl, rfl⟩)))))⟩ | exact ⟨0, 0, 0, (wf_88_0 (by omega)).elim (fun w => Or.inr (Or.inr (Or.inr (Or.inr (Or.inr (Or.inr (w))))))) (fun w => Or.inr (Or.inl w))⟩ | omega) (by first | exact Ko_h421t445 | exact Or.inl ⟨by omega, fillM_R zF (by first | exact Or.inl ⟨by omega, by omega⟩ | exact Or.inr ⟨by omega, Or.inl ⟨by omega, by omega⟩⟩ | exact Or.inr ⟨by omega, Or.inr ⟨by omega, by omega, by omega⟩⟩), by omega, by omega⟩ | exact Or.inr (Or.inr (Or.inl ⟨by omega, by omega, cutM_R zC (by first | exact Or.inl ⟨by omega, by omega⟩ | exact Or.inr ⟨by omega, Or.inl ⟨by omega, by omega⟩⟩ | exact Or.inr ⟨by omega, Or.inr ⟨by omega, by omega, by omega⟩⟩), by first | omega | exact cw9, by omega⟩)) | exact Or.inr (Or.inr (Or.inr (Or.inl ⟨by omega, by omega, by first | (rw [cw9]; exact fmE_R zW (by first | exact Or.inl ⟨by omega, by omega⟩ | exact Or.inr ⟨by omega, Or.inl ⟨by omega, by omega⟩⟩ | exact Or.inr ⟨by omega, Or.inr ⟨by omega, by omega, by omega⟩⟩)) | exact fmE_R zW (by first | exact Or.inl ⟨by omega, by omega⟩ | exact Or.inr ⟨by omega, Or.inl ⟨by omega, by omega⟩⟩ | exact Or.inr ⟨by omega, Or.inr ⟨by omega, by omega, by omega⟩⟩), by omega⟩))) | exact Or.inr (Or.inr (Or.inr (Or.inr (Or.inl ⟨by omega, by omega, joinM_R zJ (by first | exact Or.inl ⟨by omega, by omega⟩ | exact Or.inr ⟨by omega, Or.inl ⟨by omega, by omega⟩⟩ | exact Or.inr ⟨by omega, Or.inr ⟨by omega, by omega, by omega⟩⟩), fun _ => by omega, by omega⟩)))) | exact Or.inr (Or.inr (Or.inr (Or.inr (Or.inr (Or.inl ⟨by omega, by omega, sumM_R zS (by first | exact Or.inl ⟨by omega, by omega⟩ | exact Or.inr ⟨by omega, Or.inl ⟨by omega, by omega⟩⟩ | exact Or.inr ⟨by omega, Or.inr ⟨by omega, by omega, by omega⟩⟩), by first | omega | exact cw9, by omega⟩))))) | exact ⟨0, _, _, Or.inl ⟨by omega, fillM_R zF (by first | exact Or.inl ⟨by omega, by omega⟩ | exact Or.inr ⟨by omega, Or.inl ⟨by omega, by omega⟩⟩ | exact Or.inr ⟨by omega, Or.inr ⟨by omega, by omega, by omega⟩⟩), rfl, rfl⟩⟩ | exact ⟨0, _, _, Or.inr (Or.inr (Or.inl ⟨by omega, by omega, cutM_R zC (by first | exact Or.inl ⟨by omega, by omega⟩ | exact Or.inr ⟨by omega, Or.inl ⟨by omega, by omega⟩⟩ | exact Or.inr ⟨by omega, Or.inr ⟨by omega, by omega, by omega⟩⟩), rfl, rfl⟩))⟩ | exact ⟨0, _, _, Or.inr (Or.inr (Or.inr (Or.inl ⟨by omega, by omega, fmE_R zW (by first | exact Or.inl ⟨by omega, by omega⟩ | exact Or.inr ⟨by omega, Or.inl ⟨by omega, by omega⟩⟩ | exact Or.inr ⟨by omega, Or.inr ⟨by omega, by omega, by omega⟩⟩), rfl⟩)))⟩ | exact ⟨0, 0, _, Or.inr (Or.inr (Or.inr (Or.inr (Or.inl ⟨by omega, by omega, joinM_R zJ (by first | exact Or.inl ⟨by omega, by omega⟩ | exact Or.inr ⟨by omega, Or.inl ⟨by omega, by omega⟩⟩ | exact Or.inr ⟨by omega, Or.inr ⟨by omega, by omega, by omega⟩⟩), fun q => absurd q (by omega), rfl⟩))))⟩ | exact ⟨0, _, _, Or.inr (Or.inr (Or.inr (Or.inr (Or.inr (Or.inl ⟨by omega, by omega, sumM_R zS (by first | exact Or.inl ⟨by omega, by omega⟩ | exact Or.inr ⟨by omega, Or.inl ⟨by omega, by omega⟩⟩ | exact Or.inr ⟨by omega, Or.inr ⟨by omega, by omega, by omega⟩⟩), rfl, rfl⟩)))))⟩ | exact ⟨0, 0, 0, (wf_88_0 (by omega)).elim (fun w => Or.inr (Or.inr (Or.inr (Or.inr (Or.inr (Or.inr (w))))))) (fun w => Or.inr (Or.inl w))⟩ | omega) Tok_h421t452 Mq_h421t428 Wrd_h421 Wd9_h421t429)
        ·
          have gh430 : my_fr [(10, 7), (10, 8), (10, 27), (66, -1), (67, -1), (68, -1), (69, -1), (70, -1), (71, -1), (72, -1), (73, -1), (74, -1), (75, -1), (77, -1), (78, -1), (79, -1)] h h430 := my_fr.tr gh6 (frh430.mo rfl)
          have Wrd_h430 : Wrd h430 := Wrd_ag (my_ag.fr frh430 rfl) Wrd_h6
          have Wd9_h430 : Wd9 h430 := Wd9_ag (my_ag.fr frh430 rfl) Wd9_h6
          show wp l rho (d + 4) 185 128 [(2, 151), (0, p88_0), (0, p88_1), (0, p88_2), (0, p88_3), (0, (36 + v10)), (9, 0), (9, 0)] [] h430 Q
          have ps456 : h6 151 7 = (sN (sm h) (h 151 7)) := ps7
          rw [ps456] at xp436
          have tE457 : sm h6 = sm h := sm_eq (fun j => my_fr.at gh6 is_153 rfl) (fun j => my_fr.at gh6 is_154 rfl) (fun j => my_fr.at gh6 is_155 rfl)
          rw [tE457] at xp437
          rw [ps456] at xp437
          have q27 : h6 151 27 = h 151 27 := by omega
          have q57 : h6 157 = h 157 := funext (fun j => my_fr.at gh6 is_157 rfl)
          have zC := xp437
          simp only [q27, q57] at zC
          have pk := xp434
          have pk3 := xp435
          have kd := xp438
          have Ko_h430t458 : Ko h h430 := Ko_tr Ko_h6 xp439
          refine w_goto (t := 228) gz_185_128 rfl ?_
          refine w_aload_n gz_185_228 rfl ?_
          refine v_getI (j := 8) gz_185_229 rfl is_151 rd_10 rfl (fun v459 ev459 pv459 qv459 => ?_)
          have zv459 := ev459.trans w433
          refine w_ifne (t := 269) gz_185_232 rfl (fun u460 => by exfalso; omega) (fun u460 => ?_)
          refine w_iload_n gz_185_235 rfl ?_
          refine w_ifne (t := 252) gz_185_236 rfl (fun u461 => ?_) (fun u461 => by exfalso; omega)
          refine w_aload_n gz_185_252 rfl ?_
          refine w_iload gz_185_253 rfl ?_
          have d167 : ∀ j : Int, h430 167 j = h88_0 167 j := fun j => ((my_fr.at frh430 is_167 rfl).trans ((my_up_role fh6 is_167 is_151 rfl).trans (rfl : h88_0 167 j = h88_0 167 j)))
          have d6 := d167 6
          have mr0 := Mq_h430t441
          have ce462 : h430 151 27 = k151_27 := ((my_fr.at frh430 is_151 rfl).trans ((my_up_fld fh6 (by decide)).trans c151_27_88_0))
          refine w_inv (k := 1) (as := [(0, (36 + v10))]) (r := []) (x := 151) (ls0 := [(2, 151), (0, (36 + v10)), (9, 0)]) gz_185_255 gm_182 rfl is_151 rd_10 rfl rfl rfl rfl rfl (c_Model_pane2_f0 (d := (d + 3)) (x1 := (36 + v10)) (by omega) (by omega) (ev459.symm.trans (by omega)) (pk.1) (fun h463 frh463 w464 xp465 xp466 => ?_))
          have gh463 : my_fr [(10, 7), (10, 8), (10, 27), (66, -1), (67, -1), (68, -1), (69, -1), (70, -1), (71, -1), (72, -1), (73, -1), (74, -1), (75, -1), (77, -1), (78, -1), (79, -1)] h h463 := my_fr.tr gh430 (frh463.mo rfl)
          have Wrd_h463 : Wrd h463 := Wrd_ag (my_ag.fr frh463 rfl) Wrd_h430
          have Wd9_h463 : Wd9 h463 := Wd9_ag (my_ag.fr frh463 rfl) Wd9_h430t442
          have Tok_h463 : Tok h463 := Tok_ag (my_ag.fr frh463 rfl) Tok_h430t440
          have Ko_h463 : Ko h h463 := Ko_ag (my_ag.fr frh463 rfl) Ko_h430t458
          show wp l rho (d + 4) 185 258 [(2, 151), (0, p88_0), (0, p88_1), (0, p88_2), (0, p88_3), (0, (36 + v10)), (9, 0), (9, 0)] [] h463 Q
          have ag0 : my_ag M3F h430 h463 := my_ag.fr frh463 rfl
          have e27 := xp465
          have e67 : h463 167 6 = h430 167 6 := ag0.at mis_167 rfl
          have mc := ms_c e27
          try (have m3 := mc.2.2.1 kd; rw [← m3] at zW)
          try (have q58 : h430 157 = h 157 := funext (fun j => my_fr.at gh430 is_157 rfl); have j4 := mc.2.1 kd.1; rw [kd.2, q58] at j4)
          refine w_aload_n gz_185_258 rfl ?_
          refine w_getX (v := 167) gz_185_259 is_151 rd_10 rfl (by decide) rfl ?_
          refine w_bipush gz_185_262 (by decide) ?_
          refine w_dup2 gz_185_264 rfl rfl ?_
          refine w_iald gz_185_265 is_167 rd_66 (by omega) (by omega) (fun v468 ev468 pv468 qv468 => ?_)
          have zv468 := ev468.trans ((my_fr.at frh463 is_167 rfl).trans ((my_fr.at frh430 is_167 rfl).trans ev10.symm))
          refine w_iconst gz_185_266 (by decide) ?_
          refine w_iadd gz_185_267 ⟨by omega, by omega⟩ ?_
          have hi469 : 0 ≤ (v468 + 1) := by omega
          have hi470 : (v468 + 1) ≤ 6 := by omega
          refine w_iast gz_185_268 is_167 rd_66 (by omega) (by omega) (by omega) (by omega) (fun h471 fh471 => ?_)
          have gh471 : my_fr [(10, 7), (10, 8), (10, 27), (66, -1), (67, -1), (68, -1), (69, -1), (70, -1), (71, -1), (72, -1), (73, -1), (74, -1), (75, -1), (77, -1), (78, -1), (79, -1)] h h471 := my_fr.up gh463 is_167 fh471 rfl
          have Wrd_h471 : Wrd h471 := Wrd_ag (my_ag.up fh471 is_167 rfl) Wrd_h463
          have Wd9_h471 : Wd9 h471 := Wd9_ag (my_ag.up fh471 is_167 rfl) Wd9_h463
          have Tok_h471 : Tok h471 := Tok_ag (my_ag.up fh471 is_167 rfl) Tok_h463
          have Ko_h471 : Ko h h471 := Ko_7 (a := 167) hwv (by decide) (by omega) fh471 Ko_h463
          have Mq_h471t472 : Mq h471 wv := Mq_add mr0 (by omega) pk pk3 ag0 e27 fh471 (by omega) (by omega)
          have k6 := my_up_self fh471
          refine w_aload_n gz_185_269 rfl ?_
          refine w_bipush gz_185_270 (by decide) ?_
          have ce473 : h471 151 7 = (h430 151 7) := ((my_up_role fh471 is_151 is_167 rfl).trans ((my_fr.at frh463 is_151 rfl).trans (rfl : h430 151 7 = h430 151 7)))
          refine w_inv (k := 0) (as := [(0, 59)]) (r := []) (x := 151) (ls0 := [(2, 151), (0, 59)]) gz_185_272 gm_183 rfl is_151 rd_10 rfl rfl rfl rfl rfl (c_Model_takeSign9_f0 (d := (d + 2))  (((my_up_role fh471 is_151 is_167 rfl).trans ((my_fr.at frh463 is_151 rfl).trans ev459.symm)).trans (by omega)) Tok_h471 (fun h474 frh474 w475 w476 xp477 xp478 xp479 Tok_h474t480 => ?_) (fun h481 frh481 w482 w483 w484 xp485 xp486 xp487 Tok_h481t488 => ?_))
          ·
            have gh474 : my_fr [(10, 7), (10, 8), (10, 27), (66, -1), (67, -1), (68, -1), (69, -1), (70, -1), (71, -1), (72, -1), (73, -1), (74, -1), (75, -1), (77, -1), (78, -1), (79, -1)] h h474 := my_fr.tr gh471 (frh474.mo rfl)
            have Wrd_h474 : Wrd h474 := Wrd_ag (my_ag.fr frh474 rfl) Wrd_h471
            have Wd9_h474 : Wd9 h474 := Wd9_ag (my_ag.fr frh474 rfl) Wd9_h471
            have Ko_h474 : Ko h h474 := Ko_ag (my_ag.fr frh474 rfl) Ko_h471
            have Mq_h474 : Mq h474 wv := Mq_ag (my_ag.fr frh474 rfl) Mq_h471t472
            show wp l rho (d + 4) 185 275 [(2, 151), (0, p88_0), (0, p88_1), (0, p88_2), (0, p88_3), (0, (36 + v10)), (9, 0), (9, 0)] [] h474 Q
            have ps489 : h471 151 7 = h430 151 7 := ((my_up_role fh471 is_151 is_167 rfl).trans ((my_fr.at frh463 is_151 rfl).trans (rfl : h430 151 7 = h430 151 7)))
            rw [ps489] at xp477
            have tE490 : sm h471 = sm h := sm_eq (fun j => my_fr.at gh471 is_153 rfl) (fun j => my_fr.at gh471 is_154 rfl) (fun j => my_fr.at gh471 is_155 rfl)
            rw [tE490] at xp478
            rw [ps489] at xp478
            rw [tE490] at xp479
            rw [ps489] at xp479
            have psR : h474 151 7 = h474 151 7 := (rfl : h474 151 7 = h474 151 7)
            have npsR : sm h474 = sm h := sm_eq (fun j => my_fr.at gh474 is_153 rfl) (fun j => my_fr.at gh474 is_154 rfl) (fun j => my_fr.at gh474 is_155 rfl)
            have ce491 : h474 151 8 = (h474 151 8) := (rfl : h474 151 8 = h474 151 8)
            have ce492 : h474 151 27 = h463 151 27 := ((my_fr.at frh474 is_151 rfl).trans ((my_up_role fh471 is_151 is_167 rfl).trans (rfl : h463 151 27 = h463 151 27)))
            have r167 : ∀ j : Int, h474 167 j = h471 167 j := fun j => ((my_fr.at frh474 is_167 rfl).trans (rfl : h471 167 j = h471 167 j))
            have r6 := r167 6
            have cw9 : h474 151 27 = h463 151 27 := by omega
            have c493 := (rfl : h474 151 8 = h474 151 8)
            exact w_vret gz_185_275 gm_185 (k0 h474 (gh474) (by omega) (by omega) (by first | exact Ko_h474 | exact Or.inl ⟨by omega, fillM_R zF (by first | exact Or.inl ⟨by omega, by omega⟩ | exact Or.inr ⟨by omega, Or.inl ⟨by omega, by omega⟩⟩ | exact Or.inr ⟨by omega, Or.inr ⟨by omega, by omega, by omega⟩⟩), by omega, by omega⟩ | exact Or.inr (Or.inr (Or.inl ⟨by omega, by omega, cutM_R zC (by first | exact Or.inl ⟨by omega, by omega⟩ | exact Or.inr ⟨by omega, Or.inl ⟨by omega, by omega⟩⟩ | exact Or.inr ⟨by omega, Or.inr ⟨by omega, by omega, by omega⟩⟩), by first | omega | exact cw9, by omega⟩)) | exact Or.inr (Or.inr (Or.inr (Or.inl ⟨by omega, by omega, by first | (rw [cw9]; exact fmE_R zW (by first | exact Or.inl ⟨by omega, by omega⟩ | exact Or.inr ⟨by omega, Or.inl ⟨by omega, by omega⟩⟩ | exact Or.inr ⟨by omega, Or.inr ⟨by omega, by omega, by omega⟩⟩)) | exact fmE_R zW (by first | exact Or.inl ⟨by omega, by omega⟩ | exact Or.inr ⟨by omega, Or.inl ⟨by omega, by omega⟩⟩ | exact Or.inr ⟨by omega, Or.inr ⟨by omega, by omega, by omega⟩⟩), by omega⟩))) | exact Or.inr (Or.inr (Or.inr (Or.inr (Or.inl ⟨by omega, by omega, joinM_R zJ (by first | exact Or.inl ⟨by omega, by omega⟩ | exact Or.inr ⟨by omega, Or.inl ⟨by omega, by omega⟩⟩ | exact Or.inr ⟨by omega, Or.inr ⟨by omega, by omega, by omega⟩⟩), fun _ => by omega, by omega⟩)))) | exact Or.inr (Or.inr (Or.inr (Or.inr (Or.inr (Or.inl ⟨by omega, by omega, sumM_R zS (by first | exact Or.inl ⟨by omega, by omega⟩ | exact Or.inr ⟨by omega, Or.inl ⟨by omega, by omega⟩⟩ | exact Or.inr ⟨by omega, Or.inr ⟨by omega, by omega, by omega⟩⟩), by first | omega | exact cw9, by omega⟩))))) | exact ⟨0, _, _, Or.inl ⟨by omega, fillM_R zF (by first | exact Or.inl ⟨by omega, by omega⟩ | exact Or.inr ⟨by omega, Or.inl ⟨by omega, by omega⟩⟩ | exact Or.inr ⟨by omega, Or.inr ⟨by omega, by omega, by omega⟩⟩), rfl, rfl⟩⟩ | exact ⟨0, _, _, Or.inr (Or.inr (Or.inl ⟨by omega, by omega, cutM_R zC (by first | exact Or.inl ⟨by omega, by omega⟩ | exact Or.inr ⟨by omega, Or.inl ⟨by omega, by omega⟩⟩ | exact Or.inr ⟨by omega, Or.inr ⟨by omega, by omega, by omega⟩⟩), rfl, rfl⟩))⟩ | exact ⟨0, _, _, Or.inr (Or.inr (Or.inr (Or.inl ⟨by omega, by omega, fmE_R zW (by first | exact Or.inl ⟨by omega, by omega⟩ | exact Or.inr ⟨by omega, Or.inl ⟨by omega, by omega⟩⟩ | exact Or.inr ⟨by omega, Or.inr ⟨by omega, by omega, by omega⟩⟩), rfl⟩)))⟩ | exact ⟨0, 0, _, Or.inr (Or.inr (Or.inr (Or.inr (Or.inl ⟨by omega, by omega, joinM_R zJ (by first | exact Or.inl ⟨by omega, by omega⟩ | exact Or.inr ⟨by omega, Or.inl ⟨by omega, by omega⟩⟩ | exact Or.inr ⟨by omega, Or.inr ⟨by omega, by omega, by omega⟩⟩), fun q => absurd q (by omega), rfl⟩))))⟩ | exact ⟨0, _, _, Or.inr (Or.inr (Or.inr (Or.inr (Or.inr (Or.inl ⟨by omega, by omega, sumM_R zS (by first | exact Or.inl ⟨by omega, by omega⟩ | exact Or.inr ⟨by omega, Or.inl ⟨by omega, by omega⟩⟩ | exact Or.inr ⟨by omega, Or.inr ⟨by omega, by omega, by omega⟩⟩), rfl, rfl⟩)))))⟩ | exact ⟨0, 0, 0, (wf_88_0 (by omega)).elim (fun w => Or.inr (Or.inr (Or.inr (Or.inr (Or.inr (Or.inr (w))))))) (fun w => Or.inr (Or.inl w))⟩ | omega) (by first | exact Ko_h474 | exact Or.inl ⟨by omega, fillM_R zF (by first | exact Or.inl ⟨by omega, by omega⟩ | exact Or.inr ⟨by omega, Or.inl ⟨by omega, by omega⟩⟩ | exact Or.inr ⟨by omega, Or.inr ⟨by omega, by omega, by omega⟩⟩), by omega, by omega⟩ | exact Or.inr (Or.inr (Or.inl ⟨by omega, by omega, cutM_R zC (by first | exact Or.inl ⟨by omega, by omega⟩ | exact Or.inr ⟨by omega, Or.inl ⟨by omega, by omega⟩⟩ | exact Or.inr ⟨by omega, Or.inr ⟨by omega, by omega, by omega⟩⟩), by first | omega | exact cw9, by omega⟩)) | exact Or.inr (Or.inr (Or.inr (Or.inl ⟨by omega, by omega, by first | (rw [cw9]; exact fmE_R zW (by first | exact Or.inl ⟨by omega, by omega⟩ | exact Or.inr ⟨by omega, Or.inl ⟨by omega, by omega⟩⟩ | exact Or.inr ⟨by omega, Or.inr ⟨by omega, by omega, by omega⟩⟩)) | exact fmE_R zW (by first | exact Or.inl ⟨by omega, by omega⟩ | exact Or.inr ⟨by omega, Or.inl ⟨by omega, by omega⟩⟩ | exact Or.inr ⟨by omega, Or.inr ⟨by omega, by omega, by omega⟩⟩), by omega⟩))) | exact Or.inr (Or.inr (Or.inr (Or.inr (Or.inl ⟨by omega, by omega, joinM_R zJ (by first | exact Or.inl ⟨by omega, by omega⟩ | exact Or.inr ⟨by omega, Or.inl ⟨by omega, by omega⟩⟩ | exact Or.inr ⟨by omega, Or.inr ⟨by omega, by omega, by omega⟩⟩), fun _ => by omega, by omega⟩)))) | exact Or.inr (Or.inr (Or.inr (Or.inr (Or.inr (Or.inl ⟨by omega, by omega, sumM_R zS (by first | exact Or.inl ⟨by omega, by omega⟩ | exact Or.inr ⟨by omega, Or.inl ⟨by omega, by omega⟩⟩ | exact Or.inr ⟨by omega, Or.inr ⟨by omega, by omega, by omega⟩⟩), by first | omega | exact cw9, by omega⟩))))) | exact ⟨0, _, _, Or.inl ⟨by omega, fillM_R zF (by first | exact Or.inl ⟨by omega, by omega⟩ | exact Or.inr ⟨by omega, Or.inl ⟨by omega, by omega⟩⟩ | exact Or.inr ⟨by omega, Or.inr ⟨by omega, by omega, by omega⟩⟩), rfl, rfl⟩⟩ | exact ⟨0, _, _, Or.inr (Or.inr (Or.inl ⟨by omega, by omega, cutM_R zC (by first | exact Or.inl ⟨by omega, by omega⟩ | exact Or.inr ⟨by omega, Or.inl ⟨by omega, by omega⟩⟩ | exact Or.inr ⟨by omega, Or.inr ⟨by omega, by omega, by omega⟩⟩), rfl, rfl⟩))⟩ | exact ⟨0, _, _, Or.inr (Or.inr (Or.inr (Or.inl ⟨by omega, by omega, fmE_R zW (by first | exact Or.inl ⟨by omega, by omega⟩ | exact Or.inr ⟨by omega, Or.inl ⟨by omega, by omega⟩⟩ | exact Or.inr ⟨by omega, Or.inr ⟨by omega, by omega, by omega⟩⟩), rfl⟩)))⟩ | exact ⟨0, 0, _, Or.inr (Or.inr (Or.inr (Or.inr (Or.inl ⟨by omega, by omega, joinM_R zJ (by first | exact Or.inl ⟨by omega, by omega⟩ | exact Or.inr ⟨by omega, Or.inl ⟨by omega, by omega⟩⟩ | exact Or.inr ⟨by omega, Or.inr ⟨by omega, by omega, by omega⟩⟩), fun q => absurd q (by omega), rfl⟩))))⟩ | exact ⟨0, _, _, Or.inr (Or.inr (Or.inr (Or.inr (Or.inr (Or.inl ⟨by omega, by omega, sumM_R zS (by first | exact Or.inl ⟨by omega, by omega⟩ | exact Or.inr ⟨by omega, Or.inl ⟨by omega, by omega⟩⟩ | exact Or.inr ⟨by omega, Or.inr ⟨by omega, by omega, by omega⟩⟩), rfl, rfl⟩)))))⟩ | exact ⟨0, 0, 0, (wf_88_0 (by omega)).elim (fun w => Or.inr (Or.inr (Or.inr (Or.inr (Or.inr (Or.inr (w))))))) (fun w => Or.inr (Or.inl w))⟩ | omega) (by first | exact Ko_h474 | exact Or.inl ⟨by omega, fillM_R zF (by first | exact Or.inl ⟨by omega, by omega⟩ | exact Or.inr ⟨by omega, Or.inl ⟨by omega, by omega⟩⟩ | exact Or.inr ⟨by omega, Or.inr ⟨by omega, by omega, by omega⟩⟩), by omega, by omega⟩ | exact Or.inr (Or.inr (Or.inl ⟨by omega, by omega, cutM_R zC (by first | exact Or.inl ⟨by omega, by omega⟩ | exact Or.inr ⟨by omega, Or.inl ⟨by omega, by omega⟩⟩ | exact Or.inr ⟨by omega, Or.inr ⟨by omega, by omega, by omega⟩⟩), by first | omega | exact cw9, by omega⟩)) | exact Or.inr (Or.inr (Or.inr (Or.inl ⟨by omega, by omega, by first | (rw [cw9]; exact fmE_R zW (by first | exact Or.inl ⟨by omega, by omega⟩ | exact Or.inr ⟨by omega, Or.inl ⟨by omega, by omega⟩⟩ | exact Or.inr ⟨by omega, Or.inr ⟨by omega, by omega, by omega⟩⟩)) | exact fmE_R zW (by first | exact Or.inl ⟨by omega, by omega⟩ | exact Or.inr ⟨by omega, Or.inl ⟨by omega, by omega⟩⟩ | exact Or.inr ⟨by omega, Or.inr ⟨by omega, by omega, by omega⟩⟩), by omega⟩))) | exact Or.inr (Or.inr (Or.inr (Or.inr (Or.inl ⟨by omega, by omega, joinM_R zJ (by first | exact Or.inl ⟨by omega, by omega⟩ | exact Or.inr ⟨by omega, Or.inl ⟨by omega, by omega⟩⟩ | exact Or.inr ⟨by omega, Or.inr ⟨by omega, by omega, by omega⟩⟩), fun _ => by omega, by omega⟩)))) | exact Or.inr (Or.inr (Or.inr (Or.inr (Or.inr (Or.inl ⟨by omega, by omega, sumM_R zS (by first | exact Or.inl ⟨by omega, by omega⟩ | exact Or.inr ⟨by omega, Or.inl ⟨by omega, by omega⟩⟩ | exact Or.inr ⟨by omega, Or.inr ⟨by omega, by omega, by omega⟩⟩), by first | omega | exact cw9, by omega⟩))))) | exact ⟨0, _, _, Or.inl ⟨by omega, fillM_R zF (by first | exact Or.inl ⟨by omega, by omega⟩ | exact Or.inr ⟨by omega, Or.inl ⟨by omega, by omega⟩⟩ | exact Or.inr ⟨by omega, Or.inr ⟨by omega, by omega, by omega⟩⟩), rfl, rfl⟩⟩ | exact ⟨0, _, _, Or.inr (Or.inr (Or.inl ⟨by omega, by omega, cutM_R zC (by first | exact Or.inl ⟨by omega, by omega⟩ | exact Or.inr ⟨by omega, Or.inl ⟨by omega, by omega⟩⟩ | exact Or.inr ⟨by omega, Or.inr ⟨by omega, by omega, by omega⟩⟩), rfl, rfl⟩))⟩ | exact ⟨0, _, _, Or.inr (Or.inr (Or.inr (Or.inl ⟨by omega, by omega, fmE_R zW (by first | exact Or.inl ⟨by omega, by omega⟩ | exact Or.inr ⟨by omega, Or.inl ⟨by omega, by omega⟩⟩ | exact Or.inr ⟨by omega, Or.inr ⟨by omega, by omega, by omega⟩⟩), rfl⟩)))⟩ | exact ⟨0, 0, _, Or.inr (Or.inr (Or.inr (Or.inr (Or.inl ⟨by omega, by omega, joinM_R zJ (by first | exact Or.inl ⟨by omega, by omega⟩ | exact Or.inr ⟨by omega, Or.inl ⟨by omega, by omega⟩⟩ | exact Or.inr ⟨by omega, Or.inr ⟨by omega, by omega, by omega⟩⟩), fun q => absurd q (by omega), rfl⟩))))⟩ | exact ⟨0, _, _, Or.inr (Or.inr (Or.inr (Or.inr (Or.inr (Or.inl ⟨by omega, by omega, sumM_R zS (by first | exact Or.inl ⟨by omega, by omega⟩ | exact Or.inr ⟨by omega, Or.inl ⟨by omega, by omega⟩⟩ | exact Or.inr ⟨by omega, Or.inr ⟨by omega, by omega, by omega⟩⟩), rfl, rfl⟩)))))⟩ | exact ⟨0, 0, 0, (wf_88_0 (by omega)).elim (fun w => Or.inr (Or.inr (Or.inr (Or.inr (Or.inr (Or.inr (w))))))) (fun w => Or.inr (Or.inl w))⟩ | omega) Tok_h474t480 Mq_h474 Wrd_h474 Wd9_h474)
          ·
            have gh481 : my_fr [(10, 7), (10, 8), (10, 27), (66, -1), (67, -1), (68, -1), (69, -1), (70, -1), (71, -1), (72, -1), (73, -1), (74, -1), (75, -1), (77, -1), (78, -1), (79, -1)] h h481 := my_fr.tr gh471 (frh481.mo rfl)
            have Wrd_h481 : Wrd h481 := Wrd_ag (my_ag.fr frh481 rfl) Wrd_h471
            have Wd9_h481 : Wd9 h481 := Wd9_ag (my_ag.fr frh481 rfl) Wd9_h471
            have Ko_h481 : Ko h h481 := Ko_ag (my_ag.fr frh481 rfl) Ko_h471
            have Mq_h481 : Mq h481 wv := Mq_ag (my_ag.fr frh481 rfl) Mq_h471t472
            show wp l rho (d + 4) 185 275 [(2, 151), (0, p88_0), (0, p88_1), (0, p88_2), (0, p88_3), (0, (36 + v10)), (9, 0), (9, 0)] [] h481 Q
            have ps494 : h471 151 7 = h430 151 7 := ((my_up_role fh471 is_151 is_167 rfl).trans ((my_fr.at frh463 is_151 rfl).trans (rfl : h430 151 7 = h430 151 7)))
            rw [ps494] at xp485
            have tE495 : sm h471 = sm h := sm_eq (fun j => my_fr.at gh471 is_153 rfl) (fun j => my_fr.at gh471 is_154 rfl) (fun j => my_fr.at gh471 is_155 rfl)
            rw [tE495] at xp486
            rw [ps494] at xp486
            rw [tE495] at xp487
            rw [ps494] at xp487
            have psR : h481 151 7 = (sN (sm h) ((h430 151 7))) := xp486
            have npsR : sm h481 = sm h := sm_eq (fun j => my_fr.at gh481 is_153 rfl) (fun j => my_fr.at gh481 is_154 rfl) (fun j => my_fr.at gh481 is_155 rfl)
            have ce496 : h481 151 7 = (h481 151 7) := (rfl : h481 151 7 = h481 151 7)
            have ce497 : h481 151 8 = 0 := w484
            have ce498 : h481 151 27 = h463 151 27 := ((my_fr.at frh481 is_151 rfl).trans ((my_up_role fh471 is_151 is_167 rfl).trans (rfl : h463 151 27 = h463 151 27)))
            have r167 : ∀ j : Int, h481 167 j = h471 167 j := fun j => ((my_fr.at frh481 is_167 rfl).trans (rfl : h471 167 j = h471 167 j))
            have r6 := r167 6
            have cw9 : h481 151 27 = h463 151 27 := by omega
            have c499 := (rfl : h481 151 7 = h481 151 7)
            have c500 := w484
            exact w_vret gz_185_275 gm_185 (k1 h481 (gh481) (by omega) (by omega) (by omega) (by first | exact Ko_h481 | exact Or.inl ⟨by omega, fillM_R zF (by first | exact Or.inl ⟨by omega, by omega⟩ | exact Or.inr ⟨by omega, Or.inl ⟨by omega, by omega⟩⟩ | exact Or.inr ⟨by omega, Or.inr ⟨by omega, by omega, by omega⟩⟩), by omega, by omega⟩ | exact Or.inr (Or.inr (Or.inl ⟨by omega, by omega, cutM_R zC (by first | exact Or.inl ⟨by omega, by omega⟩ | exact Or.inr ⟨by omega, Or.inl ⟨by omega, by omega⟩⟩ | exact Or.inr ⟨by omega, Or.inr ⟨by omega, by omega, by omega⟩⟩), by first | omega | exact cw9, by omega⟩)) | exact Or.inr (Or.inr (Or.inr (Or.inl ⟨by omega, by omega, by first | (rw [cw9]; exact fmE_R zW (by first | exact Or.inl ⟨by omega, by omega⟩ | exact Or.inr ⟨by omega, Or.inl ⟨by omega, by omega⟩⟩ | exact Or.inr ⟨by omega, Or.inr ⟨by omega, by omega, by omega⟩⟩)) | exact fmE_R zW (by first | exact Or.inl ⟨by omega, by omega⟩ | exact Or.inr ⟨by omega, Or.inl ⟨by omega, by omega⟩⟩ | exact Or.inr ⟨by omega, Or.inr ⟨by omega, by omega, by omega⟩⟩), by omega⟩))) | exact Or.inr (Or.inr (Or.inr (Or.inr (Or.inl ⟨by omega, by omega, joinM_R zJ (by first | exact Or.inl ⟨by omega, by omega⟩ | exact Or.inr ⟨by omega, Or.inl ⟨by omega, by omega⟩⟩ | exact Or.inr ⟨by omega, Or.inr ⟨by omega, by omega, by omega⟩⟩), fun _ => by omega, by omega⟩)))) | exact Or.inr (Or.inr (Or.inr (Or.inr (Or.inr (Or.inl ⟨by omega, by omega, sumM_R zS (by first | exact Or.inl ⟨by omega, by omega⟩ | exact Or.inr ⟨by omega, Or.inl ⟨by omega, by omega⟩⟩ | exact Or.inr ⟨by omega, Or.inr ⟨by omega, by omega, by omega⟩⟩), by first | omega | exact cw9, by omega⟩))))) | exact ⟨0, _, _, Or.inl ⟨by omega, fillM_R zF (by first | exact Or.inl ⟨by omega, by omega⟩ | exact Or.inr ⟨by omega, Or.inl ⟨by omega, by omega⟩⟩ | exact Or.inr ⟨by omega, Or.inr ⟨by omega, by omega, by omega⟩⟩), rfl, rfl⟩⟩ | exact ⟨0, _, _, Or.inr (Or.inr (Or.inl ⟨by omega, by omega, cutM_R zC (by first | exact Or.inl ⟨by omega, by omega⟩ | exact Or.inr ⟨by omega, Or.inl ⟨by omega, by omega⟩⟩ | exact Or.inr ⟨by omega, Or.inr ⟨by omega, by omega, by omega⟩⟩), rfl, rfl⟩))⟩ | exact ⟨0, _, _, Or.inr (Or.inr (Or.inr (Or.inl ⟨by omega, by omega, fmE_R zW (by first | exact Or.inl ⟨by omega, by omega⟩ | exact Or.inr ⟨by omega, Or.inl ⟨by omega, by omega⟩⟩ | exact Or.inr ⟨by omega, Or.inr ⟨by omega, by omega, by omega⟩⟩), rfl⟩)))⟩ | exact ⟨0, 0, _, Or.inr (Or.inr (Or.inr (Or.inr (Or.inl ⟨by omega, by omega, joinM_R zJ (by first | exact Or.inl ⟨by omega, by omega⟩ | exact Or.inr ⟨by omega, Or.inl ⟨by omega, by omega⟩⟩ | exact Or.inr ⟨by omega, Or.inr ⟨by omega, by omega, by omega⟩⟩), fun q => absurd q (by omega), rfl⟩))))⟩ | exact ⟨0, _, _, Or.inr (Or.inr (Or.inr (Or.inr (Or.inr (Or.inl ⟨by omega, by omega, sumM_R zS (by first | exact Or.inl ⟨by omega, by omega⟩ | exact Or.inr ⟨by omega, Or.inl ⟨by omega, by omega⟩⟩ | exact Or.inr ⟨by omega, Or.inr ⟨by omega, by omega, by omega⟩⟩), rfl, rfl⟩)))))⟩ | exact ⟨0, 0, 0, (wf_88_0 (by omega)).elim (fun w => Or.inr (Or.inr (Or.inr (Or.inr (Or.inr (Or.inr (w))))))) (fun w => Or.inr (Or.inl w))⟩ | omega) (by first | exact Ko_h481 | exact Or.inl ⟨by omega, fillM_R zF (by first | exact Or.inl ⟨by omega, by omega⟩ | exact Or.inr ⟨by omega, Or.inl ⟨by omega, by omega⟩⟩ | exact Or.inr ⟨by omega, Or.inr ⟨by omega, by omega, by omega⟩⟩), by omega, by omega⟩ | exact Or.inr (Or.inr (Or.inl ⟨by omega, by omega, cutM_R zC (by first | exact Or.inl ⟨by omega, by omega⟩ | exact Or.inr ⟨by omega, Or.inl ⟨by omega, by omega⟩⟩ | exact Or.inr ⟨by omega, Or.inr ⟨by omega, by omega, by omega⟩⟩), by first | omega | exact cw9, by omega⟩)) | exact Or.inr (Or.inr (Or.inr (Or.inl ⟨by omega, by omega, by first | (rw [cw9]; exact fmE_R zW (by first | exact Or.inl ⟨by omega, by omega⟩ | exact Or.inr ⟨by omega, Or.inl ⟨by omega, by omega⟩⟩ | exact Or.inr ⟨by omega, Or.inr ⟨by omega, by omega, by omega⟩⟩)) | exact fmE_R zW (by first | exact Or.inl ⟨by omega, by omega⟩ | exact Or.inr ⟨by omega, Or.inl ⟨by omega, by omega⟩⟩ | exact Or.inr ⟨by omega, Or.inr ⟨by omega, by omega, by omega⟩⟩), by omega⟩))) | exact Or.inr (Or.inr (Or.inr (Or.inr (Or.inl ⟨by omega, by omega, joinM_R zJ (by first | exact Or.inl ⟨by omega, by omega⟩ | exact Or.inr ⟨by omega, Or.inl ⟨by omega, by omega⟩⟩ | exact Or.inr ⟨by omega, Or.inr ⟨by omega, by omega, by omega⟩⟩), fun _ => by omega, by omega⟩)))) | exact Or.inr (Or.inr (Or.inr (Or.inr (Or.inr (Or.inl ⟨by omega, by omega, sumM_R zS (by first | exact Or.inl ⟨by omega, by omega⟩ | exact Or.inr ⟨by omega, Or.inl ⟨by omega, by omega⟩⟩ | exact Or.inr ⟨by omega, Or.inr ⟨by omega, by omega, by omega⟩⟩), by first | omega | exact cw9, by omega⟩))))) | exact ⟨0, _, _, Or.inl ⟨by omega, fillM_R zF (by first | exact Or.inl ⟨by omega, by omega⟩ | exact Or.inr ⟨by omega, Or.inl ⟨by omega, by omega⟩⟩ | exact Or.inr ⟨by omega, Or.inr ⟨by omega, by omega, by omega⟩⟩), rfl, rfl⟩⟩ | exact ⟨0, _, _, Or.inr (Or.inr (Or.inl ⟨by omega, by omega, cutM_R zC (by first | exact Or.inl ⟨by omega, by omega⟩ | exact Or.inr ⟨by omega, Or.inl ⟨by omega, by omega⟩⟩ | exact Or.inr ⟨by omega, Or.inr ⟨by omega, by omega, by omega⟩⟩), rfl, rfl⟩))⟩ | exact ⟨0, _, _, Or.inr (Or.inr (Or.inr (Or.inl ⟨by omega, by omega, fmE_R zW (by first | exact Or.inl ⟨by omega, by omega⟩ | exact Or.inr ⟨by omega, Or.inl ⟨by omega, by omega⟩⟩ | exact Or.inr ⟨by omega, Or.inr ⟨by omega, by omega, by omega⟩⟩), rfl⟩)))⟩ | exact ⟨0, 0, _, Or.inr (Or.inr (Or.inr (Or.inr (Or.inl ⟨by omega, by omega, joinM_R zJ (by first | exact Or.inl ⟨by omega, by omega⟩ | exact Or.inr ⟨by omega, Or.inl ⟨by omega, by omega⟩⟩ | exact Or.inr ⟨by omega, Or.inr ⟨by omega, by omega, by omega⟩⟩), fun q => absurd q (by omega), rfl⟩))))⟩ | exact ⟨0, _, _, Or.inr (Or.inr (Or.inr (Or.inr (Or.inr (Or.inl ⟨by omega, by omega, sumM_R zS (by first | exact Or.inl ⟨by omega, by omega⟩ | exact Or.inr ⟨by omega, Or.inl ⟨by omega, by omega⟩⟩ | exact Or.inr ⟨by omega, Or.inr ⟨by omega, by omega, by omega⟩⟩), rfl, rfl⟩)))))⟩ | exact ⟨0, 0, 0, (wf_88_0 (by omega)).elim (fun w => Or.inr (Or.inr (Or.inr (Or.inr (Or.inr (Or.inr (w))))))) (fun w => Or.inr (Or.inl w))⟩ | omega) (by first | exact Ko_h481 | exact Or.inl ⟨by omega, fillM_R zF (by first | exact Or.inl ⟨by omega, by omega⟩ | exact Or.inr ⟨by omega, Or.inl ⟨by omega, by omega⟩⟩ | exact Or.inr ⟨by omega, Or.inr ⟨by omega, by omega, by omega⟩⟩), by omega, by omega⟩ | exact Or.inr (Or.inr (Or.inl ⟨by omega, by omega, cutM_R zC (by first | exact Or.inl ⟨by omega, by omega⟩ | exact Or.inr ⟨by omega, Or.inl ⟨by omega, by omega⟩⟩ | exact Or.inr ⟨by omega, Or.inr ⟨by omega, by omega, by omega⟩⟩), by first | omega | exact cw9, by omega⟩)) | exact Or.inr (Or.inr (Or.inr (Or.inl ⟨by omega, by omega, by first | (rw [cw9]; exact fmE_R zW (by first | exact Or.inl ⟨by omega, by omega⟩ | exact Or.inr ⟨by omega, Or.inl ⟨by omega, by omega⟩⟩ | exact Or.inr ⟨by omega, Or.inr ⟨by omega, by omega, by omega⟩⟩)) | exact fmE_R zW (by first | exact Or.inl ⟨by omega, by omega⟩ | exact Or.inr ⟨by omega, Or.inl ⟨by omega, by omega⟩⟩ | exact Or.inr ⟨by omega, Or.inr ⟨by omega, by omega, by omega⟩⟩), by omega⟩))) | exact Or.inr (Or.inr (Or.inr (Or.inr (Or.inl ⟨by omega, by omega, joinM_R zJ (by first | exact Or.inl ⟨by omega, by omega⟩ | exact Or.inr ⟨by omega, Or.inl ⟨by omega, by omega⟩⟩ | exact Or.inr ⟨by omega, Or.inr ⟨by omega, by omega, by omega⟩⟩), fun _ => by omega, by omega⟩)))) | exact Or.inr (Or.inr (Or.inr (Or.inr (Or.inr (Or.inl ⟨by omega, by omega, sumM_R zS (by first | exact Or.inl ⟨by omega, by omega⟩ | exact Or.inr ⟨by omega, Or.inl ⟨by omega, by omega⟩⟩ | exact Or.inr ⟨by omega, Or.inr ⟨by omega, by omega, by omega⟩⟩), by first | omega | exact cw9, by omega⟩))))) | exact ⟨0, _, _, Or.inl ⟨by omega, fillM_R zF (by first | exact Or.inl ⟨by omega, by omega⟩ | exact Or.inr ⟨by omega, Or.inl ⟨by omega, by omega⟩⟩ | exact Or.inr ⟨by omega, Or.inr ⟨by omega, by omega, by omega⟩⟩), rfl, rfl⟩⟩ | exact ⟨0, _, _, Or.inr (Or.inr (Or.inl ⟨by omega, by omega, cutM_R zC (by first | exact Or.inl ⟨by omega, by omega⟩ | exact Or.inr ⟨by omega, Or.inl ⟨by omega, by omega⟩⟩ | exact Or.inr ⟨by omega, Or.inr ⟨by omega, by omega, by omega⟩⟩), rfl, rfl⟩))⟩ | exact ⟨0, _, _, Or.inr (Or.inr (Or.inr (Or.inl ⟨by omega, by omega, fmE_R zW (by first | exact Or.inl ⟨by omega, by omega⟩ | exact Or.inr ⟨by omega, Or.inl ⟨by omega, by omega⟩⟩ | exact Or.inr ⟨by omega, Or.inr ⟨by omega, by omega, by omega⟩⟩), rfl⟩)))⟩ | exact ⟨0, 0, _, Or.inr (Or.inr (Or.inr (Or.inr (Or.inl ⟨by omega, by omega, joinM_R zJ (by first | exact Or.inl ⟨by omega, by omega⟩ | exact Or.inr ⟨by omega, Or.inl ⟨by omega, by omega⟩⟩ | exact Or.inr ⟨by omega, Or.inr ⟨by omega, by omega, by omega⟩⟩), fun q => absurd q (by omega), rfl⟩))))⟩ | exact ⟨0, _, _, Or.inr (Or.inr (Or.inr (Or.inr (Or.inr (Or.inl ⟨by omega, by omega, sumM_R zS (by first | exact Or.inl ⟨by omega, by omega⟩ | exact Or.inr ⟨by omega, Or.inl ⟨by omega, by omega⟩⟩ | exact Or.inr ⟨by omega, Or.inr ⟨by omega, by omega, by omega⟩⟩), rfl, rfl⟩)))))⟩ | exact ⟨0, 0, 0, (wf_88_0 (by omega)).elim (fun w => Or.inr (Or.inr (Or.inr (Or.inr (Or.inr (Or.inr (w))))))) (fun w => Or.inr (Or.inl w))⟩ | omega) Tok_h481t488 Mq_h481 Wrd_h481 Wd9_h481)
    ·
      have psR : h88_0 151 7 = h 151 7 := am_88_0
      have npsR : sm h88_0 = sm h := sm_eq (fun j => my_fr.at gh_88_0 is_153 rfl) (fun j => my_fr.at gh_88_0 is_154 rfl) (fun j => my_fr.at gh_88_0 is_155 rfl)
      have ce501 : h88_0 151 7 = k151_7 := c151_7_88_0
      have ce502 : h88_0 151 8 = v1 := ev1.symm
      have ce503 : h88_0 151 27 = k151_27 := c151_27_88_0
      have r167 : ∀ j : Int, h88_0 167 j = h88_0 167 j := fun _ => rfl
      have r6 := r167 6
      have c504 := ev1.symm
      exact w_vret gz_185_95 gm_185 (k0 h88_0 (gh_88_0) (by omega) (by omega) (by first | exact n_Ko_88_0 | exact Or.inl ⟨by omega, fillM_R zF (by first | exact Or.inl ⟨by omega, by omega⟩ | exact Or.inr ⟨by omega, Or.inl ⟨by omega, by omega⟩⟩ | exact Or.inr ⟨by omega, Or.inr ⟨by omega, by omega, by omega⟩⟩), by omega, by omega⟩ | exact Or.inr (Or.inr (Or.inl ⟨by omega, by omega, cutM_R zC (by first | exact Or.inl ⟨by omega, by omega⟩ | exact Or.inr ⟨by omega, Or.inl ⟨by omega, by omega⟩⟩ | exact Or.inr ⟨by omega, Or.inr ⟨by omega, by omega, by omega⟩⟩), by first | omega | exact cw9, by omega⟩)) | exact Or.inr (Or.inr (Or.inr (Or.inl ⟨by omega, by omega, by first | (rw [cw9]; exact fmE_R zW (by first | exact Or.inl ⟨by omega, by omega⟩ | exact Or.inr ⟨by omega, Or.inl ⟨by omega, by omega⟩⟩ | exact Or.inr ⟨by omega, Or.inr ⟨by omega, by omega, by omega⟩⟩)) | exact fmE_R zW (by first | exact Or.inl ⟨by omega, by omega⟩ | exact Or.inr ⟨by omega, Or.inl ⟨by omega, by omega⟩⟩ | exact Or.inr ⟨by omega, Or.inr ⟨by omega, by omega, by omega⟩⟩), by omega⟩))) | exact Or.inr (Or.inr (Or.inr (Or.inr (Or.inl ⟨by omega, by omega, joinM_R zJ (by first | exact Or.inl ⟨by omega, by omega⟩ | exact Or.inr ⟨by omega, Or.inl ⟨by omega, by omega⟩⟩ | exact Or.inr ⟨by omega, Or.inr ⟨by omega, by omega, by omega⟩⟩), fun _ => by omega, by omega⟩)))) | exact Or.inr (Or.inr (Or.inr (Or.inr (Or.inr (Or.inl ⟨by omega, by omega, sumM_R zS (by first | exact Or.inl ⟨by omega, by omega⟩ | exact Or.inr ⟨by omega, Or.inl ⟨by omega, by omega⟩⟩ | exact Or.inr ⟨by omega, Or.inr ⟨by omega, by omega, by omega⟩⟩), by first | omega | exact cw9, by omega⟩))))) | exact ⟨0, _, _, Or.inl ⟨by omega, fillM_R zF (by first | exact Or.inl ⟨by omega, by omega⟩ | exact Or.inr ⟨by omega, Or.inl ⟨by omega, by omega⟩⟩ | exact Or.inr ⟨by omega, Or.inr ⟨by omega, by omega, by omega⟩⟩), rfl, rfl⟩⟩ | exact ⟨0, _, _, Or.inr (Or.inr (Or.inl ⟨by omega, by omega, cutM_R zC (by first | exact Or.inl ⟨by omega, by omega⟩ | exact Or.inr ⟨by omega, Or.inl ⟨by omega, by omega⟩⟩ | exact Or.inr ⟨by omega, Or.inr ⟨by omega, by omega, by omega⟩⟩), rfl, rfl⟩))⟩ | exact ⟨0, _, _, Or.inr (Or.inr (Or.inr (Or.inl ⟨by omega, by omega, fmE_R zW (by first | exact Or.inl ⟨by omega, by omega⟩ | exact Or.inr ⟨by omega, Or.inl ⟨by omega, by omega⟩⟩ | exact Or.inr ⟨by omega, Or.inr ⟨by omega, by omega, by omega⟩⟩), rfl⟩)))⟩ | exact ⟨0, 0, _, Or.inr (Or.inr (Or.inr (Or.inr (Or.inl ⟨by omega, by omega, joinM_R zJ (by first | exact Or.inl ⟨by omega, by omega⟩ | exact Or.inr ⟨by omega, Or.inl ⟨by omega, by omega⟩⟩ | exact Or.inr ⟨by omega, Or.inr ⟨by omega, by omega, by omega⟩⟩), fun q => absurd q (by omega), rfl⟩))))⟩ | exact ⟨0, _, _, Or.inr (Or.inr (Or.inr (Or.inr (Or.inr (Or.inl ⟨by omega, by omega, sumM_R zS (by first | exact Or.inl ⟨by omega, by omega⟩ | exact Or.inr ⟨by omega, Or.inl ⟨by omega, by omega⟩⟩ | exact Or.inr ⟨by omega, Or.inr ⟨by omega, by omega, by omega⟩⟩), rfl, rfl⟩)))))⟩ | exact ⟨0, 0, 0, (wf_88_0 (by omega)).elim (fun w => Or.inr (Or.inr (Or.inr (Or.inr (Or.inr (Or.inr (w))))))) (fun w => Or.inr (Or.inl w))⟩ | omega) (by first | exact n_Ko_88_0 | exact Or.inl ⟨by omega, fillM_R zF (by first | exact Or.inl ⟨by omega, by omega⟩ | exact Or.inr ⟨by omega, Or.inl ⟨by omega, by omega⟩⟩ | exact Or.inr ⟨by omega, Or.inr ⟨by omega, by omega, by omega⟩⟩), by omega, by omega⟩ | exact Or.inr (Or.inr (Or.inl ⟨by omega, by omega, cutM_R zC (by first | exact Or.inl ⟨by omega, by omega⟩ | exact Or.inr ⟨by omega, Or.inl ⟨by omega, by omega⟩⟩ | exact Or.inr ⟨by omega, Or.inr ⟨by omega, by omega, by omega⟩⟩), by first | omega | exact cw9, by omega⟩)) | exact Or.inr (Or.inr (Or.inr (Or.inl ⟨by omega, by omega, by first | (rw [cw9]; exact fmE_R zW (by first | exact Or.inl ⟨by omega, by omega⟩ | exact Or.inr ⟨by omega, Or.inl ⟨by omega, by omega⟩⟩ | exact Or.inr ⟨by omega, Or.inr ⟨by omega, by omega, by omega⟩⟩)) | exact fmE_R zW (by first | exact Or.inl ⟨by omega, by omega⟩ | exact Or.inr ⟨by omega, Or.inl ⟨by omega, by omega⟩⟩ | exact Or.inr ⟨by omega, Or.inr ⟨by omega, by omega, by omega⟩⟩), by omega⟩))) | exact Or.inr (Or.inr (Or.inr (Or.inr (Or.inl ⟨by omega, by omega, joinM_R zJ (by first | exact Or.inl ⟨by omega, by omega⟩ | exact Or.inr ⟨by omega, Or.inl ⟨by omega, by omega⟩⟩ | exact Or.inr ⟨by omega, Or.inr ⟨by omega, by omega, by omega⟩⟩), fun _ => by omega, by omega⟩)))) | exact Or.inr (Or.inr (Or.inr (Or.inr (Or.inr (Or.inl ⟨by omega, by omega, sumM_R zS (by first | exact Or.inl ⟨by omega, by omega⟩ | exact Or.inr ⟨by omega, Or.inl ⟨by omega, by omega⟩⟩ | exact Or.inr ⟨by omega, Or.inr ⟨by omega, by omega, by omega⟩⟩), by first | omega | exact cw9, by omega⟩))))) | exact ⟨0, _, _, Or.inl ⟨by omega, fillM_R zF (by first | exact Or.inl ⟨by omega, by omega⟩ | exact Or.inr ⟨by omega, Or.inl ⟨by omega, by omega⟩⟩ | exact Or.inr ⟨by omega, Or.inr ⟨by omega, by omega, by omega⟩⟩), rfl, rfl⟩⟩ | exact ⟨0, _, _, Or.inr (Or.inr (Or.inl ⟨by omega, by omega, cutM_R zC (by first | exact Or.inl ⟨by omega, by omega⟩ | exact Or.inr ⟨by omega, Or.inl ⟨by omega, by omega⟩⟩ | exact Or.inr ⟨by omega, Or.inr ⟨by omega, by omega, by omega⟩⟩), rfl, rfl⟩))⟩ | exact ⟨0, _, _, Or.inr (Or.inr (Or.inr (Or.inl ⟨by omega, by omega, fmE_R zW (by first | exact Or.inl ⟨by omega, by omega⟩ | exact Or.inr ⟨by omega, Or.inl ⟨by omega, by omega⟩⟩ | exact Or.inr ⟨by omega, Or.inr ⟨by omega, by omega, by omega⟩⟩), rfl⟩)))⟩ | exact ⟨0, 0, _, Or.inr (Or.inr (Or.inr (Or.inr (Or.inl ⟨by omega, by omega, joinM_R zJ (by first | exact Or.inl ⟨by omega, by omega⟩ | exact Or.inr ⟨by omega, Or.inl ⟨by omega, by omega⟩⟩ | exact Or.inr ⟨by omega, Or.inr ⟨by omega, by omega, by omega⟩⟩), fun q => absurd q (by omega), rfl⟩))))⟩ | exact ⟨0, _, _, Or.inr (Or.inr (Or.inr (Or.inr (Or.inr (Or.inl ⟨by omega, by omega, sumM_R zS (by first | exact Or.inl ⟨by omega, by omega⟩ | exact Or.inr ⟨by omega, Or.inl ⟨by omega, by omega⟩⟩ | exact Or.inr ⟨by omega, Or.inr ⟨by omega, by omega, by omega⟩⟩), rfl, rfl⟩)))))⟩ | exact ⟨0, 0, 0, (wf_88_0 (by omega)).elim (fun w => Or.inr (Or.inr (Or.inr (Or.inr (Or.inr (Or.inr (w))))))) (fun w => Or.inr (Or.inl w))⟩ | omega) (by first | exact n_Ko_88_0 | exact Or.inl ⟨by omega, fillM_R zF (by first | exact Or.inl ⟨by omega, by omega⟩ | exact Or.inr ⟨by omega, Or.inl ⟨by omega, by omega⟩⟩ | exact Or.inr ⟨by omega, Or.inr ⟨by omega, by omega, by omega⟩⟩), by omega, by omega⟩ | exact Or.inr (Or.inr (Or.inl ⟨by omega, by omega, cutM_R zC (by first | exact Or.inl ⟨by omega, by omega⟩ | exact Or.inr ⟨by omega, Or.inl ⟨by omega, by omega⟩⟩ | exact Or.inr ⟨by omega, Or.inr ⟨by omega, by omega, by omega⟩⟩), by first | omega | exact cw9, by omega⟩)) | exact Or.inr (Or.inr (Or.inr (Or.inl ⟨by omega, by omega, by first | (rw [cw9]; exact fmE_R zW (by first | exact Or.inl ⟨by omega, by omega⟩ | exact Or.inr ⟨by omega, Or.inl ⟨by omega, by omega⟩⟩ | exact Or.inr ⟨by omega, Or.inr ⟨by omega, by omega, by omega⟩⟩)) | exact fmE_R zW (by first | exact Or.inl ⟨by omega, by omega⟩ | exact Or.inr ⟨by omega, Or.inl ⟨by omega, by omega⟩⟩ | exact Or.inr ⟨by omega, Or.inr ⟨by omega, by omega, by omega⟩⟩), by omega⟩))) | exact Or.inr (Or.inr (Or.inr (Or.inr (Or.inl ⟨by omega, by omega, joinM_R zJ (by first | exact Or.inl ⟨by omega, by omega⟩ | exact Or.inr ⟨by omega, Or.inl ⟨by omega, by omega⟩⟩ | exact Or.inr ⟨by omega, Or.inr ⟨by omega, by omega, by omega⟩⟩), fun _ => by omega, by omega⟩)))) | exact Or.inr (Or.inr (Or.inr (Or.inr (Or.inr (Or.inl ⟨by omega, by omega, sumM_R zS (by first | exact Or.inl ⟨by omega, by omega⟩ | exact Or.inr ⟨by omega, Or.inl ⟨by omega, by omega⟩⟩ | exact Or.inr ⟨by omega, Or.inr ⟨by omega, by omega, by omega⟩⟩), by first | omega | exact cw9, by omega⟩))))) | exact ⟨0, _, _, Or.inl ⟨by omega, fillM_R zF (by first | exact Or.inl ⟨by omega, by omega⟩ | exact Or.inr ⟨by omega, Or.inl ⟨by omega, by omega⟩⟩ | exact Or.inr ⟨by omega, Or.inr ⟨by omega, by omega, by omega⟩⟩), rfl, rfl⟩⟩ | exact ⟨0, _, _, Or.inr (Or.inr (Or.inl ⟨by omega, by omega, cutM_R zC (by first | exact Or.inl ⟨by omega, by omega⟩ | exact Or.inr ⟨by omega, Or.inl ⟨by omega, by omega⟩⟩ | exact Or.inr ⟨by omega, Or.inr ⟨by omega, by omega, by omega⟩⟩), rfl, rfl⟩))⟩ | exact ⟨0, _, _, Or.inr (Or.inr (Or.inr (Or.inl ⟨by omega, by omega, fmE_R zW (by first | exact Or.inl ⟨by omega, by omega⟩ | exact Or.inr ⟨by omega, Or.inl ⟨by omega, by omega⟩⟩ | exact Or.inr ⟨by omega, Or.inr ⟨by omega, by omega, by omega⟩⟩), rfl⟩)))⟩ | exact ⟨0, 0, _, Or.inr (Or.inr (Or.inr (Or.inr (Or.inl ⟨by omega, by omega, joinM_R zJ (by first | exact Or.inl ⟨by omega, by omega⟩ | exact Or.inr ⟨by omega, Or.inl ⟨by omega, by omega⟩⟩ | exact Or.inr ⟨by omega, Or.inr ⟨by omega, by omega, by omega⟩⟩), fun q => absurd q (by omega), rfl⟩))))⟩ | exact ⟨0, _, _, Or.inr (Or.inr (Or.inr (Or.inr (Or.inr (Or.inl ⟨by omega, by omega, sumM_R zS (by first | exact Or.inl ⟨by omega, by omega⟩ | exact Or.inr ⟨by omega, Or.inl ⟨by omega, by omega⟩⟩ | exact Or.inr ⟨by omega, Or.inr ⟨by omega, by omega, by omega⟩⟩), rfl, rfl⟩)))))⟩ | exact ⟨0, 0, 0, (wf_88_0 (by omega)).elim (fun w => Or.inr (Or.inr (Or.inr (Or.inr (Or.inr (Or.inr (w))))))) (fun w => Or.inr (Or.inl w))⟩ | omega) n_Tok_88_0 n_Mq_88_0 n_Wrd_88_0 n_Wd9_88_0)
  refine w_aload_n gz_185_0 rfl ?_
  refine w_iconst gz_185_1 (by decide) ?_
  refine w_inv (k := 0) (as := [(0, 3)]) (r := []) (x := 151) (ls0 := [(2, 151), (0, 3)]) gz_185_2 gm_177 rfl is_151 rd_10 rfl rfl rfl rfl rfl (c_Model_isWord9_f0 (d := (d + 3)) (x1 := 3) (by omega) (by omega) (cf.trans (by omega)) n_Wd9 (fun w505 xp506 => ?_) (fun w507 xp508 xp509 xp510 xp511 => ?_))
  ·
    show wp l rho (d + 4) 185 5 [(2, 151), (9, 0), (9, 0), (9, 0), (9, 0), (9, 0), (9, 0), (9, 0)] [(0, 0)] h Q
    rw [show wm 3 = 4904 from by decide] at xp506
    refine w_istore_n (ls' := [(2, 151), (0, 0), (9, 0), (9, 0), (9, 0), (9, 0), (9, 0), (9, 0)]) gz_185_5 gm_185 rfl rfl rfl ?_
    refine w_aload_n gz_185_6 rfl ?_
    refine w_bipush gz_185_7 (by decide) ?_
    refine w_inv (k := 0) (as := [(0, 7)]) (r := []) (x := 151) (ls0 := [(2, 151), (0, 7)]) gz_185_9 gm_177 rfl is_151 rd_10 rfl rfl rfl rfl rfl (c_Model_isWord9_f0 (d := (d + 3)) (x1 := 7) (by omega) (by omega) (cf.trans (by omega)) n_Wd9 (fun w512 xp513 => ?_) (fun w514 xp515 xp516 xp517 xp518 => ?_))
    ·
      show wp l rho (d + 4) 185 12 [(2, 151), (0, 0), (9, 0), (9, 0), (9, 0), (9, 0), (9, 0), (9, 0)] [(0, 0)] h Q
      rw [show wm 7 = 8422 from by decide] at xp513
      refine w_istore_n (ls' := [(2, 151), (0, 0), (0, 0), (9, 0), (9, 0), (9, 0), (9, 0), (9, 0)]) gz_185_12 gm_185 rfl rfl rfl ?_
      refine w_aload_n gz_185_13 rfl ?_
      refine w_bipush gz_185_14 (by decide) ?_
      refine w_inv (k := 0) (as := [(0, 8)]) (r := []) (x := 151) (ls0 := [(2, 151), (0, 8)]) gz_185_16 gm_177 rfl is_151 rd_10 rfl rfl rfl rfl rfl (c_Model_isWord9_f0 (d := (d + 3)) (x1 := 8) (by omega) (by omega) (cf.trans (by omega)) n_Wd9 (fun w519 xp520 => ?_) (fun w521 xp522 xp523 xp524 xp525 => ?_))
      ·
        show wp l rho (d + 4) 185 19 [(2, 151), (0, 0), (0, 0), (9, 0), (9, 0), (9, 0), (9, 0), (9, 0)] [(0, 0)] h Q
        rw [show wm 8 = 527412 from by decide] at xp520
        refine w_istore_n (ls' := [(2, 151), (0, 0), (0, 0), (0, 0), (9, 0), (9, 0), (9, 0), (9, 0)]) gz_185_19 gm_185 rfl rfl rfl ?_
        refine w_aload_n gz_185_20 rfl ?_
        refine w_bipush gz_185_21 (by decide) ?_
        refine w_inv (k := 0) (as := [(0, 11)]) (r := []) (x := 151) (ls0 := [(2, 151), (0, 11)]) gz_185_23 gm_177 rfl is_151 rd_10 rfl rfl rfl rfl rfl (c_Model_isWord9_f0 (d := (d + 3)) (x1 := 11) (by omega) (by omega) (cf.trans (by omega)) n_Wd9 (fun w526 xp527 => ?_) (fun w528 xp529 xp530 xp531 xp532 => ?_))
        ·
          show wp l rho (d + 4) 185 26 [(2, 151), (0, 0), (0, 0), (0, 0), (9, 0), (9, 0), (9, 0), (9, 0)] [(0, 0)] h Q
          rw [show wm 11 = 26801 from by decide] at xp527
          refine w_istore (ls' := [(2, 151), (0, 0), (0, 0), (0, 0), (0, 0), (9, 0), (9, 0), (9, 0)]) gz_185_26 gm_185 rfl rfl rfl ?_
          refine w_iload_n gz_185_28 rfl ?_
          refine w_ifne (t := 62) gz_185_29 rfl (fun u533 => by exfalso; omega) (fun u533 => ?_)
          refine w_iload_n gz_185_32 rfl ?_
          refine w_ifne (t := 62) gz_185_33 rfl (fun u534 => by exfalso; omega) (fun u534 => ?_)
          refine w_iload_n gz_185_36 rfl ?_
          refine w_ifne (t := 62) gz_185_37 rfl (fun u535 => by exfalso; omega) (fun u535 => ?_)
          refine w_iload gz_185_40 rfl ?_
          refine w_ifne (t := 62) gz_185_42 rfl (fun u536 => by exfalso; omega) (fun u536 => ?_)
          refine w_aload_n gz_185_45 rfl ?_
          refine w_bipush gz_185_46 (by decide) ?_
          refine w_inv (k := 0) (as := [(0, 10)]) (r := []) (x := 151) (ls0 := [(2, 151), (0, 10)]) gz_185_48 gm_177 rfl is_151 rd_10 rfl rfl rfl rfl rfl (c_Model_isWord9_f0 (d := (d + 3)) (x1 := 10) (by omega) (by omega) (cf.trans (by omega)) n_Wd9 (fun w537 xp538 => ?_) (fun w539 xp540 xp541 xp542 xp543 => ?_))
          ·
            show wp l rho (d + 4) 185 51 [(2, 151), (0, 0), (0, 0), (0, 0), (0, 0), (9, 0), (9, 0), (9, 0)] [(0, 0)] h Q
            rw [show wm 10 = 316695 from by decide] at xp538
            refine w_ifne (t := 62) gz_185_51 rfl (fun u544 => by exfalso; omega) (fun u544 => ?_)
            refine w_aload_n gz_185_54 rfl ?_
            refine w_iconst gz_185_55 (by decide) ?_
            refine w_inv (k := 0) (as := [(0, 1)]) (r := []) (x := 151) (ls0 := [(2, 151), (0, 1)]) gz_185_56 gm_178 rfl is_151 rd_10 rfl rfl rfl rfl rfl ?_
            refine w_aload_n gz_178_0 rfl ?_
            refine v_getI (j := 8) gz_178_1 rfl is_151 rd_10 rfl (fun v545 ev545 pv545 qv545 => ?_)
            have zv545 := ev545.trans cf
            refine w_ifne (t := 25) gz_178_4 rfl (fun u546 => by exfalso; omega) (fun u546 => ?_)
            refine w_aload_n gz_178_7 rfl ?_
            refine w_iload_n gz_178_8 rfl ?_
            refine w_bipush gz_178_9 (by decide) ?_
            refine w_aload_n gz_178_11 rfl ?_
            refine w_getX (v := 154) gz_178_12 is_151 rd_10 rfl (by decide) rfl ?_
            refine w_aload_n gz_178_15 rfl ?_
            refine v_getI (j := 7) gz_178_16 rfl is_151 rd_10 rfl (fun v548 ev548 pv548 qv548 => ?_)
            have zv548 := ev548.trans ek151_7.symm
            refine w_iald gz_178_19 is_154 rd_53 (by omega) (by omega) (fun v549 ev549 pv549 qv549 => ?_)
            have nz550 : v549 = sP (sm h) (h 151 7) := by
              have q := ev549
              rw [show (v548 : Int) = h 151 7 from by omega] at q
              exact q
            refine w_imul gz_178_20 ⟨by omega, by omega⟩ ?_
            refine w_iadd gz_178_21 ⟨by omega, by omega⟩ ?_
            refine v_putI (j := 8) gz_178_22 rfl is_151 rd_10 rfl (by omega) (by omega) rfl (fun h551 fh551 => ?_)
            have gh551 : my_fr [(10, 7), (10, 8), (10, 27), (66, -1), (67, -1), (68, -1), (69, -1), (70, -1), (71, -1), (72, -1), (73, -1), (74, -1), (75, -1), (77, -1), (78, -1), (79, -1)] h h551 := my_fr.up my_fr.rf is_151 fh551 rfl
            have Tok_h551 : Tok h551 := Tok_ag (my_ag.up fh551 is_151 rfl) n_Tok
            have Mq_h551 : Mq h551 wv := Mq_ag (my_ag.up fh551 is_151 rfl) n_Mq
            have Wrd_h551 : Wrd h551 := Wrd_ag (my_ag.up fh551 is_151 rfl) n_Wrd
            have Wd9_h551 : Wd9 h551 := Wd9_ag (my_ag.up fh551 is_151 rfl) n_Wd9
            have Ko_h551 : Ko h h551 := Ko_ag (my_ag.up fh551 is_151 rfl) (Ko_rf)
            refine w_vret gz_178_25 gm_178 ?_
            show wp l rho (d + 4) 185 59 [(2, 151), (0, 0), (0, 0), (0, 0), (0, 0), (9, 0), (9, 0), (9, 0)] [] h551 Q
            refine w_goto (t := 88) gz_185_59 rfl ?_
            have psJ : h551 151 7 = h 151 7 := ((my_up_fld fh551 (by decide)).trans (rfl : h 151 7 = h 151 7))
            have npsJ : sm h551 = sm h := sm_eq (fun j => my_fr.at gh551 is_153 rfl) (fun j => my_fr.at gh551 is_154 rfl) (fun j => my_fr.at gh551 is_155 rfl)
            have ce552 : h551 151 7 = v548 := ((my_up_fld fh551 (by decide)).trans ev548.symm)
            have ce553 : h551 151 8 = (1 + (16 * v549)) := (my_up_self fh551)
            have ce554 : h551 151 27 = k151_27 := ((my_up_fld fh551 (by decide)).trans ek151_27.symm)
            have j167 : ∀ j : Int, h551 167 j = h 167 j := fun j => ((my_up_role fh551 is_167 is_151 rfl).trans (rfl : h 167 j = h 167 j))
            have j6 := j167 6
            exact J88_0 (0) (0) (0) (0) ((1 + (16 * v549))) h551 (gh551) (by omega) (by omega) (by omega) (by omega) (by omega) (by omega) (by omega) (by omega) (by omega) (by omega) (((my_up_fld fh551 (by decide)).trans ek151_27.symm).trans (by omega)) (((my_up_fld fh551 (by decide)).trans ek151_33.symm).trans (by omega)) (((my_up_fld fh551 (by decide)).trans ev548.symm).trans (by omega)) ((my_up_self fh551).trans (by omega)) Tok_h551 Mq_h551 Wrd_h551 Wd9_h551 Ko_h551 (by first | (intro q; exfalso; omega) | (intro _; assumption) | omega) (by first | (intro q; exfalso; omega) | (intro _ q; omega) | (intro _ q; exfalso; have w := Wrd_h551; unfold Wrd at w; omega) | omega) (by omega) (by omega) (by omega) (by first | (intro q; exfalso; omega) | (intro q; omega) | omega) (by first | (intro q; exfalso; omega) | (intro q; omega) | omega)
          ·
            show wp l rho (d + 4) 185 51 [(2, 151), (0, 0), (0, 0), (0, 0), (0, 0), (9, 0), (9, 0), (9, 0)] [(0, 1)] h Q
            rw [show wm 10 = 316695 from by decide] at xp543
            refine w_ifne (t := 62) gz_185_51 rfl (fun u555 => ?_) (fun u555 => by exfalso; omega)
            refine w_aload_n gz_185_62 rfl ?_
            refine w_bipush gz_185_63 (by decide) ?_
            refine w_inv (k := 0) (as := [(0, 10)]) (r := []) (x := 151) (ls0 := [(2, 151), (0, 10)]) gz_185_65 gm_177 rfl is_151 rd_10 rfl rfl rfl rfl rfl (c_Model_isWord9_f0 (d := (d + 3)) (x1 := 10) (by omega) (by omega) (cf.trans (by omega)) n_Wd9 (fun w556 xp557 => ?_) (fun w558 xp559 xp560 xp561 xp562 => ?_))
            ·
              show wp l rho (d + 4) 185 68 [(2, 151), (0, 0), (0, 0), (0, 0), (0, 0), (9, 0), (9, 0), (9, 0)] [(0, 0)] h Q
              rw [show wm 10 = 316695 from by decide] at xp557
              refine w_ifne (t := 88) gz_185_68 rfl (fun u563 => by exfalso; omega) (fun u563 => ?_)
              refine w_aload_n gz_185_71 rfl ?_
              refine w_getX (v := 167) gz_185_72 is_151 rd_10 rfl (by decide) rfl ?_
              refine w_bipush gz_185_75 (by decide) ?_
              refine w_iald gz_185_77 is_167 rd_66 (by omega) (by omega) (fun v565 ev565 pv565 qv565 => ?_)
              refine w_bipush gz_185_78 (by decide) ?_
              refine w_icne (t := 88) gz_185_80 rfl (fun u566 => ?_) (fun u566 => ?_)
              ·
                have psJ : h 151 7 = h 151 7 := (rfl : h 151 7 = h 151 7)
                have npsJ : sm h = sm h := rfl
                have ce567 : h 151 7 = k151_7 := ek151_7.symm
                have ce568 : h 151 8 = 0 := cf
                have ce569 : h 151 27 = k151_27 := ek151_27.symm
                have j167 : ∀ j : Int, h 167 j = h 167 j := fun _ => rfl
                have j6 := j167 6
                exact J88_0 (0) (0) (0) (0) (0) h (my_fr.rf) (by omega) (by omega) (by omega) (by omega) (by omega) (by omega) (by omega) (by omega) (by omega) (by omega) (ek151_27.symm.trans (by omega)) (ek151_33.symm.trans (by omega)) (ek151_7.symm.trans (by omega)) (cf.trans (by omega)) n_Tok n_Mq n_Wrd n_Wd9 (Ko_rf) (by first | (intro q; exfalso; omega) | (intro _; assumption) | omega) (by first | (intro q; exfalso; omega) | (intro _ q; omega) | (intro _ q; exfalso; have w := n_Wrd; unfold Wrd at w; omega) | omega) (by omega) (by omega) (by omega) (by first | (intro q; exfalso; omega) | (intro q; omega) | omega) (by first | (intro q; exfalso; omega) | (intro q; omega) | omega)
              ·
                refine w_aload_n gz_185_83 rfl ?_
                refine w_iconst gz_185_84 (by decide) ?_
                refine w_inv (k := 0) (as := [(0, 5)]) (r := []) (x := 151) (ls0 := [(2, 151), (0, 5)]) gz_185_85 gm_178 rfl is_151 rd_10 rfl rfl rfl rfl rfl ?_
                refine w_aload_n gz_178_0 rfl ?_
                refine v_getI (j := 8) gz_178_1 rfl is_151 rd_10 rfl (fun v570 ev570 pv570 qv570 => ?_)
                have zv570 := ev570.trans cf
                refine w_ifne (t := 25) gz_178_4 rfl (fun u571 => by exfalso; omega) (fun u571 => ?_)
                refine w_aload_n gz_178_7 rfl ?_
                refine w_iload_n gz_178_8 rfl ?_
                refine w_bipush gz_178_9 (by decide) ?_
                refine w_aload_n gz_178_11 rfl ?_
                refine w_getX (v := 154) gz_178_12 is_151 rd_10 rfl (by decide) rfl ?_
                refine w_aload_n gz_178_15 rfl ?_
                refine v_getI (j := 7) gz_178_16 rfl is_151 rd_10 rfl (fun v573 ev573 pv573 qv573 => ?_)
                have zv573 := ev573.trans ek151_7.symm
                refine w_iald gz_178_19 is_154 rd_53 (by omega) (by omega) (fun v574 ev574 pv574 qv574 => ?_)
                have nz575 : v574 = sP (sm h) (h 151 7) := by
                  have q := ev574
                  rw [show (v573 : Int) = h 151 7 from by omega] at q
                  exact q
                refine w_imul gz_178_20 ⟨by omega, by omega⟩ ?_
                refine w_iadd gz_178_21 ⟨by omega, by omega⟩ ?_
                refine v_putI (j := 8) gz_178_22 rfl is_151 rd_10 rfl (by omega) (by omega) rfl (fun h576 fh576 => ?_)
                have gh576 : my_fr [(10, 7), (10, 8), (10, 27), (66, -1), (67, -1), (68, -1), (69, -1), (70, -1), (71, -1), (72, -1), (73, -1), (74, -1), (75, -1), (77, -1), (78, -1), (79, -1)] h h576 := my_fr.up my_fr.rf is_151 fh576 rfl
                have Tok_h576 : Tok h576 := Tok_ag (my_ag.up fh576 is_151 rfl) n_Tok
                have Mq_h576 : Mq h576 wv := Mq_ag (my_ag.up fh576 is_151 rfl) n_Mq
                have Wrd_h576 : Wrd h576 := Wrd_ag (my_ag.up fh576 is_151 rfl) n_Wrd
                have Wd9_h576 : Wd9 h576 := Wd9_ag (my_ag.up fh576 is_151 rfl) n_Wd9
                have Ko_h576 : Ko h h576 := Ko_ag (my_ag.up fh576 is_151 rfl) (Ko_rf)
                refine w_vret gz_178_25 gm_178 ?_
                show wp l rho (d + 4) 185 88 [(2, 151), (0, 0), (0, 0), (0, 0), (0, 0), (9, 0), (9, 0), (9, 0)] [] h576 Q
                have psJ : h576 151 7 = h 151 7 := ((my_up_fld fh576 (by decide)).trans (rfl : h 151 7 = h 151 7))
                have npsJ : sm h576 = sm h := sm_eq (fun j => my_fr.at gh576 is_153 rfl) (fun j => my_fr.at gh576 is_154 rfl) (fun j => my_fr.at gh576 is_155 rfl)
                have ce577 : h576 151 7 = v573 := ((my_up_fld fh576 (by decide)).trans ev573.symm)
                have ce578 : h576 151 8 = (5 + (16 * v574)) := (my_up_self fh576)
                have ce579 : h576 151 27 = k151_27 := ((my_up_fld fh576 (by decide)).trans ek151_27.symm)
                have j167 : ∀ j : Int, h576 167 j = h 167 j := fun j => ((my_up_role fh576 is_167 is_151 rfl).trans (rfl : h 167 j = h 167 j))
                have j6 := j167 6
                exact J88_0 (0) (0) (0) (0) ((5 + (16 * v574))) h576 (gh576) (by omega) (by omega) (by omega) (by omega) (by omega) (by omega) (by omega) (by omega) (by omega) (by omega) (((my_up_fld fh576 (by decide)).trans ek151_27.symm).trans (by omega)) (((my_up_fld fh576 (by decide)).trans ek151_33.symm).trans (by omega)) (((my_up_fld fh576 (by decide)).trans ev573.symm).trans (by omega)) ((my_up_self fh576).trans (by omega)) Tok_h576 Mq_h576 Wrd_h576 Wd9_h576 Ko_h576 (by first | (intro q; exfalso; omega) | (intro _; assumption) | omega) (by first | (intro q; exfalso; omega) | (intro _ q; omega) | (intro _ q; exfalso; have w := Wrd_h576; unfold Wrd at w; omega) | omega) (by omega) (by omega) (by omega) (by first | (intro q; exfalso; omega) | (intro q; omega) | omega) (by first | (intro q; exfalso; omega) | (intro q; omega) | omega)
            ·
              show wp l rho (d + 4) 185 68 [(2, 151), (0, 0), (0, 0), (0, 0), (0, 0), (9, 0), (9, 0), (9, 0)] [(0, 1)] h Q
              rw [show wm 10 = 316695 from by decide] at xp562
              refine w_ifne (t := 88) gz_185_68 rfl (fun u580 => ?_) (fun u580 => by exfalso; omega)
              have psJ : h 151 7 = h 151 7 := (rfl : h 151 7 = h 151 7)
              have npsJ : sm h = sm h := rfl
              have ce581 : h 151 7 = k151_7 := ek151_7.symm
              have ce582 : h 151 8 = 0 := cf
              have ce583 : h 151 27 = k151_27 := ek151_27.symm
              have j167 : ∀ j : Int, h 167 j = h 167 j := fun _ => rfl
              have j6 := j167 6
              exact J88_0 (0) (0) (0) (0) (0) h (my_fr.rf) (by omega) (by omega) (by omega) (by omega) (by omega) (by omega) (by omega) (by omega) (by omega) (by omega) (ek151_27.symm.trans (by omega)) (ek151_33.symm.trans (by omega)) (ek151_7.symm.trans (by omega)) (cf.trans (by omega)) n_Tok n_Mq n_Wrd n_Wd9 (Ko_rf) (by first | (intro q; exfalso; omega) | (intro _; assumption) | omega) (by first | (intro q; exfalso; omega) | (intro _ q; omega) | (intro _ q; exfalso; have w := n_Wrd; unfold Wrd at w; omega) | omega) (by omega) (by omega) (by omega) (by first | (intro q; exfalso; omega) | (intro q; omega) | omega) (by first | (intro q; exfalso; omega) | (intro q; omega) | omega)
        ·
          show wp l rho (d + 4) 185 26 [(2, 151), (0, 0), (0, 0), (0, 0), (9, 0), (9, 0), (9, 0), (9, 0)] [(0, 1)] h Q
          rw [show wm 11 = 26801 from by decide] at xp532
          refine w_istore (ls' := [(2, 151), (0, 0), (0, 0), (0, 0), (0, 1), (9, 0), (9, 0), (9, 0)]) gz_185_26 gm_185 rfl rfl rfl ?_
          refine w_iload_n gz_185_28 rfl ?_
          refine w_ifne (t := 62) gz_185_29 rfl (fun u584 => by exfalso; omega) (fun u584 => ?_)
          refine w_iload_n gz_185_32 rfl ?_
          refine w_ifne (t := 62) gz_185_33 rfl (fun u585 => by exfalso; omega) (fun u585 => ?_)
          refine w_iload_n gz_185_36 rfl ?_
          refine w_ifne (t := 62) gz_185_37 rfl (fun u586 => by exfalso; omega) (fun u586 => ?_)
          refine w_iload gz_185_40 rfl ?_
          refine w_ifne (t := 62) gz_185_42 rfl (fun u587 => ?_) (fun u587 => by exfalso; omega)
          refine w_aload_n gz_185_62 rfl ?_
          refine w_bipush gz_185_63 (by decide) ?_
          refine w_inv (k := 0) (as := [(0, 10)]) (r := []) (x := 151) (ls0 := [(2, 151), (0, 10)]) gz_185_65 gm_177 rfl is_151 rd_10 rfl rfl rfl rfl rfl (c_Model_isWord9_f0 (d := (d + 3)) (x1 := 10) (by omega) (by omega) (cf.trans (by omega)) n_Wd9 (fun w588 xp589 => ?_) (fun w590 xp591 xp592 xp593 xp594 => ?_))
          ·
            show wp l rho (d + 4) 185 68 [(2, 151), (0, 0), (0, 0), (0, 0), (0, 1), (9, 0), (9, 0), (9, 0)] [(0, 0)] h Q
            rw [show wm 10 = 316695 from by decide] at xp589
            refine w_ifne (t := 88) gz_185_68 rfl (fun u595 => by exfalso; omega) (fun u595 => ?_)
            refine w_aload_n gz_185_71 rfl ?_
            refine w_getX (v := 167) gz_185_72 is_151 rd_10 rfl (by decide) rfl ?_
            refine w_bipush gz_185_75 (by decide) ?_
            refine w_iald gz_185_77 is_167 rd_66 (by omega) (by omega) (fun v597 ev597 pv597 qv597 => ?_)
            refine w_bipush gz_185_78 (by decide) ?_
            refine w_icne (t := 88) gz_185_80 rfl (fun u598 => ?_) (fun u598 => ?_)
            ·
              have psJ : h 151 7 = h 151 7 := (rfl : h 151 7 = h 151 7)
              have npsJ : sm h = sm h := rfl
              have ce599 : h 151 7 = k151_7 := ek151_7.symm
              have ce600 : h 151 8 = 0 := cf
              have ce601 : h 151 27 = k151_27 := ek151_27.symm
              have j167 : ∀ j : Int, h 167 j = h 167 j := fun _ => rfl
              have j6 := j167 6
              exact J88_0 (0) (0) (0) (1) (0) h (my_fr.rf) (by omega) (by omega) (by omega) (by omega) (by omega) (by omega) (by omega) (by omega) (by omega) (by omega) (ek151_27.symm.trans (by omega)) (ek151_33.symm.trans (by omega)) (ek151_7.symm.trans (by omega)) (cf.trans (by omega)) n_Tok n_Mq n_Wrd n_Wd9 (Ko_rf) (by first | (intro q; exfalso; omega) | (intro _; assumption) | omega) (by first | (intro q; exfalso; omega) | (intro _ q; omega) | (intro _ q; exfalso; have w := n_Wrd; unfold Wrd at w; omega) | omega) (by omega) (by omega) (by omega) (by first | (intro q; exfalso; omega) | (intro q; omega) | omega) (by first | (intro q; exfalso; omega) | (intro q; omega) | omega)
            ·
              refine w_aload_n gz_185_83 rfl ?_
              refine w_iconst gz_185_84 (by decide) ?_
              refine w_inv (k := 0) (as := [(0, 5)]) (r := []) (x := 151) (ls0 := [(2, 151), (0, 5)]) gz_185_85 gm_178 rfl is_151 rd_10 rfl rfl rfl rfl rfl ?_
              refine w_aload_n gz_178_0 rfl ?_
              refine v_getI (j := 8) gz_178_1 rfl is_151 rd_10 rfl (fun v602 ev602 pv602 qv602 => ?_)
              have zv602 := ev602.trans cf
              refine w_ifne (t := 25) gz_178_4 rfl (fun u603 => by exfalso; omega) (fun u603 => ?_)
              refine w_aload_n gz_178_7 rfl ?_
              refine w_iload_n gz_178_8 rfl ?_
              refine w_bipush gz_178_9 (by decide) ?_
              refine w_aload_n gz_178_11 rfl ?_
              refine w_getX (v := 154) gz_178_12 is_151 rd_10 rfl (by decide) rfl ?_
              refine w_aload_n gz_178_15 rfl ?_
              refine v_getI (j := 7) gz_178_16 rfl is_151 rd_10 rfl (fun v605 ev605 pv605 qv605 => ?_)
              have zv605 := ev605.trans ek151_7.symm
              refine w_iald gz_178_19 is_154 rd_53 (by omega) (by omega) (fun v606 ev606 pv606 qv606 => ?_)
              have nz607 : v606 = sP (sm h) (h 151 7) := by
                have q := ev606
                rw [show (v605 : Int) = h 151 7 from by omega] at q
                exact q
              refine w_imul gz_178_20 ⟨by omega, by omega⟩ ?_
              refine w_iadd gz_178_21 ⟨by omega, by omega⟩ ?_
              refine v_putI (j := 8) gz_178_22 rfl is_151 rd_10 rfl (by omega) (by omega) rfl (fun h608 fh608 => ?_)
              have gh608 : my_fr [(10, 7), (10, 8), (10, 27), (66, -1), (67, -1), (68, -1), (69, -1), (70, -1), (71, -1), (72, -1), (73, -1), (74, -1), (75, -1), (77, -1), (78, -1), (79, -1)] h h608 := my_fr.up my_fr.rf is_151 fh608 rfl
              have Tok_h608 : Tok h608 := Tok_ag (my_ag.up fh608 is_151 rfl) n_Tok
              have Mq_h608 : Mq h608 wv := Mq_ag (my_ag.up fh608 is_151 rfl) n_Mq
              have Wrd_h608 : Wrd h608 := Wrd_ag (my_ag.up fh608 is_151 rfl) n_Wrd
              have Wd9_h608 : Wd9 h608 := Wd9_ag (my_ag.up fh608 is_151 rfl) n_Wd9
              have Ko_h608 : Ko h h608 := Ko_ag (my_ag.up fh608 is_151 rfl) (Ko_rf)
              refine w_vret gz_178_25 gm_178 ?_
              show wp l rho (d + 4) 185 88 [(2, 151), (0, 0), (0, 0), (0, 0), (0, 1), (9, 0), (9, 0), (9, 0)] [] h608 Q
              have psJ : h608 151 7 = h 151 7 := ((my_up_fld fh608 (by decide)).trans (rfl : h 151 7 = h 151 7))
              have npsJ : sm h608 = sm h := sm_eq (fun j => my_fr.at gh608 is_153 rfl) (fun j => my_fr.at gh608 is_154 rfl) (fun j => my_fr.at gh608 is_155 rfl)
              have ce609 : h608 151 7 = v605 := ((my_up_fld fh608 (by decide)).trans ev605.symm)
              have ce610 : h608 151 8 = (5 + (16 * v606)) := (my_up_self fh608)
              have ce611 : h608 151 27 = k151_27 := ((my_up_fld fh608 (by decide)).trans ek151_27.symm)
              have j167 : ∀ j : Int, h608 167 j = h 167 j := fun j => ((my_up_role fh608 is_167 is_151 rfl).trans (rfl : h 167 j = h 167 j))
              have j6 := j167 6
              exact J88_0 (0) (0) (0) (1) ((5 + (16 * v606))) h608 (gh608) (by omega) (by omega) (by omega) (by omega) (by omega) (by omega) (by omega) (by omega) (by omega) (by omega) (((my_up_fld fh608 (by decide)).trans ek151_27.symm).trans (by omega)) (((my_up_fld fh608 (by decide)).trans ek151_33.symm).trans (by omega)) (((my_up_fld fh608 (by decide)).trans ev605.symm).trans (by omega)) ((my_up_self fh608).trans (by omega)) Tok_h608 Mq_h608 Wrd_h608 Wd9_h608 Ko_h608 (by first | (intro q; exfalso; omega) | (intro _; assumption) | omega) (by first | (intro q; exfalso; omega) | (intro _ q; omega) | (intro _ q; exfalso; have w := Wrd_h608; unfold Wrd at w; omega) | omega) (by omega) (by omega) (by omega) (by first | (intro q; exfalso; omega) | (intro q; omega) | omega) (by first | (intro q; exfalso; omega) | (intro q; omega) | omega)
          ·
            show wp l rho (d + 4) 185 68 [(2, 151), (0, 0), (0, 0), (0, 0), (0, 1), (9, 0), (9, 0), (9, 0)] [(0, 1)] h Q
            rw [show wm 10 = 316695 from by decide] at xp594
            exfalso; omega
      ·
        show wp l rho (d + 4) 185 19 [(2, 151), (0, 0), (0, 0), (9, 0), (9, 0), (9, 0), (9, 0), (9, 0)] [(0, 1)] h Q
        rw [show wm 8 = 527412 from by decide] at xp525
        refine w_istore_n (ls' := [(2, 151), (0, 0), (0, 0), (0, 1), (9, 0), (9, 0), (9, 0), (9, 0)]) gz_185_19 gm_185 rfl rfl rfl ?_
        refine w_aload_n gz_185_20 rfl ?_
        refine w_bipush gz_185_21 (by decide) ?_
        refine w_inv (k := 0) (as := [(0, 11)]) (r := []) (x := 151) (ls0 := [(2, 151), (0, 11)]) gz_185_23 gm_177 rfl is_151 rd_10 rfl rfl rfl rfl rfl (c_Model_isWord9_f0 (d := (d + 3)) (x1 := 11) (by omega) (by omega) (cf.trans (by omega)) n_Wd9 (fun w612 xp613 => ?_) (fun w614 xp615 xp616 xp617 xp618 => ?_))
        ·
          show wp l rho (d + 4) 185 26 [(2, 151), (0, 0), (0, 0), (0, 1), (9, 0), (9, 0), (9, 0), (9, 0)] [(0, 0)] h Q
          rw [show wm 11 = 26801 from by decide] at xp613
          refine w_istore (ls' := [(2, 151), (0, 0), (0, 0), (0, 1), (0, 0), (9, 0), (9, 0), (9, 0)]) gz_185_26 gm_185 rfl rfl rfl ?_
          refine w_iload_n gz_185_28 rfl ?_
          refine w_ifne (t := 62) gz_185_29 rfl (fun u619 => by exfalso; omega) (fun u619 => ?_)
          refine w_iload_n gz_185_32 rfl ?_
          refine w_ifne (t := 62) gz_185_33 rfl (fun u620 => by exfalso; omega) (fun u620 => ?_)
          refine w_iload_n gz_185_36 rfl ?_
          refine w_ifne (t := 62) gz_185_37 rfl (fun u621 => ?_) (fun u621 => by exfalso; omega)
          refine w_aload_n gz_185_62 rfl ?_
          refine w_bipush gz_185_63 (by decide) ?_
          refine w_inv (k := 0) (as := [(0, 10)]) (r := []) (x := 151) (ls0 := [(2, 151), (0, 10)]) gz_185_65 gm_177 rfl is_151 rd_10 rfl rfl rfl rfl rfl (c_Model_isWord9_f0 (d := (d + 3)) (x1 := 10) (by omega) (by omega) (cf.trans (by omega)) n_Wd9 (fun w622 xp623 => ?_) (fun w624 xp625 xp626 xp627 xp628 => ?_))
          ·
            show wp l rho (d + 4) 185 68 [(2, 151), (0, 0), (0, 0), (0, 1), (0, 0), (9, 0), (9, 0), (9, 0)] [(0, 0)] h Q
            rw [show wm 10 = 316695 from by decide] at xp623
            refine w_ifne (t := 88) gz_185_68 rfl (fun u629 => by exfalso; omega) (fun u629 => ?_)
            refine w_aload_n gz_185_71 rfl ?_
            refine w_getX (v := 167) gz_185_72 is_151 rd_10 rfl (by decide) rfl ?_
            refine w_bipush gz_185_75 (by decide) ?_
            refine w_iald gz_185_77 is_167 rd_66 (by omega) (by omega) (fun v631 ev631 pv631 qv631 => ?_)
            refine w_bipush gz_185_78 (by decide) ?_
            refine w_icne (t := 88) gz_185_80 rfl (fun u632 => ?_) (fun u632 => ?_)
            ·
              have psJ : h 151 7 = h 151 7 := (rfl : h 151 7 = h 151 7)
              have npsJ : sm h = sm h := rfl
              have ce633 : h 151 7 = k151_7 := ek151_7.symm
              have ce634 : h 151 8 = 0 := cf
              have ce635 : h 151 27 = k151_27 := ek151_27.symm
              have j167 : ∀ j : Int, h 167 j = h 167 j := fun _ => rfl
              have j6 := j167 6
              exact J88_0 (0) (0) (1) (0) (0) h (my_fr.rf) (by omega) (by omega) (by omega) (by omega) (by omega) (by omega) (by omega) (by omega) (by omega) (by omega) (ek151_27.symm.trans (by omega)) (ek151_33.symm.trans (by omega)) (ek151_7.symm.trans (by omega)) (cf.trans (by omega)) n_Tok n_Mq n_Wrd n_Wd9 (Ko_rf) (by first | (intro q; exfalso; omega) | (intro _; assumption) | omega) (by first | (intro q; exfalso; omega) | (intro _ q; omega) | (intro _ q; exfalso; have w := n_Wrd; unfold Wrd at w; omega) | omega) (by omega) (by omega) (by omega) (by first | (intro q; exfalso; omega) | (intro q; omega) | omega) (by first | (intro q; exfalso; omega) | (intro q; omega) | omega)
            ·
              refine w_aload_n gz_185_83 rfl ?_
              refine w_iconst gz_185_84 (by decide) ?_
              refine w_inv (k := 0) (as := [(0, 5)]) (r := []) (x := 151) (ls0 := [(2, 151), (0, 5)]) gz_185_85 gm_178 rfl is_151 rd_10 rfl rfl rfl rfl rfl ?_
              refine w_aload_n gz_178_0 rfl ?_
              refine v_getI (j := 8) gz_178_1 rfl is_151 rd_10 rfl (fun v636 ev636 pv636 qv636 => ?_)
              have zv636 := ev636.trans cf
              refine w_ifne (t := 25) gz_178_4 rfl (fun u637 => by exfalso; omega) (fun u637 => ?_)
              refine w_aload_n gz_178_7 rfl ?_
              refine w_iload_n gz_178_8 rfl ?_
              refine w_bipush gz_178_9 (by decide) ?_
              refine w_aload_n gz_178_11 rfl ?_
              refine w_getX (v := 154) gz_178_12 is_151 rd_10 rfl (by decide) rfl ?_
              refine w_aload_n gz_178_15 rfl ?_
              refine v_getI (j := 7) gz_178_16 rfl is_151 rd_10 rfl (fun v639 ev639 pv639 qv639 => ?_)
              have zv639 := ev639.trans ek151_7.symm
              refine w_iald gz_178_19 is_154 rd_53 (by omega) (by omega) (fun v640 ev640 pv640 qv640 => ?_)
              have nz641 : v640 = sP (sm h) (h 151 7) := by
                have q := ev640
                rw [show (v639 : Int) = h 151 7 from by omega] at q
                exact q
              refine w_imul gz_178_20 ⟨by omega, by omega⟩ ?_
              refine w_iadd gz_178_21 ⟨by omega, by omega⟩ ?_
              refine v_putI (j := 8) gz_178_22 rfl is_151 rd_10 rfl (by omega) (by omega) rfl (fun h642 fh642 => ?_)
              have gh642 : my_fr [(10, 7), (10, 8), (10, 27), (66, -1), (67, -1), (68, -1), (69, -1), (70, -1), (71, -1), (72, -1), (73, -1), (74, -1), (75, -1), (77, -1), (78, -1), (79, -1)] h h642 := my_fr.up my_fr.rf is_151 fh642 rfl
              have Tok_h642 : Tok h642 := Tok_ag (my_ag.up fh642 is_151 rfl) n_Tok
              have Mq_h642 : Mq h642 wv := Mq_ag (my_ag.up fh642 is_151 rfl) n_Mq
              have Wrd_h642 : Wrd h642 := Wrd_ag (my_ag.up fh642 is_151 rfl) n_Wrd
              have Wd9_h642 : Wd9 h642 := Wd9_ag (my_ag.up fh642 is_151 rfl) n_Wd9
              have Ko_h642 : Ko h h642 := Ko_ag (my_ag.up fh642 is_151 rfl) (Ko_rf)
              refine w_vret gz_178_25 gm_178 ?_
              show wp l rho (d + 4) 185 88 [(2, 151), (0, 0), (0, 0), (0, 1), (0, 0), (9, 0), (9, 0), (9, 0)] [] h642 Q
              have psJ : h642 151 7 = h 151 7 := ((my_up_fld fh642 (by decide)).trans (rfl : h 151 7 = h 151 7))
              have npsJ : sm h642 = sm h := sm_eq (fun j => my_fr.at gh642 is_153 rfl) (fun j => my_fr.at gh642 is_154 rfl) (fun j => my_fr.at gh642 is_155 rfl)
              have ce643 : h642 151 7 = v639 := ((my_up_fld fh642 (by decide)).trans ev639.symm)
              have ce644 : h642 151 8 = (5 + (16 * v640)) := (my_up_self fh642)
              have ce645 : h642 151 27 = k151_27 := ((my_up_fld fh642 (by decide)).trans ek151_27.symm)
              have j167 : ∀ j : Int, h642 167 j = h 167 j := fun j => ((my_up_role fh642 is_167 is_151 rfl).trans (rfl : h 167 j = h 167 j))
              have j6 := j167 6
              exact J88_0 (0) (0) (1) (0) ((5 + (16 * v640))) h642 (gh642) (by omega) (by omega) (by omega) (by omega) (by omega) (by omega) (by omega) (by omega) (by omega) (by omega) (((my_up_fld fh642 (by decide)).trans ek151_27.symm).trans (by omega)) (((my_up_fld fh642 (by decide)).trans ek151_33.symm).trans (by omega)) (((my_up_fld fh642 (by decide)).trans ev639.symm).trans (by omega)) ((my_up_self fh642).trans (by omega)) Tok_h642 Mq_h642 Wrd_h642 Wd9_h642 Ko_h642 (by first | (intro q; exfalso; omega) | (intro _; assumption) | omega) (by first | (intro q; exfalso; omega) | (intro _ q; omega) | (intro _ q; exfalso; have w := Wrd_h642; unfold Wrd at w; omega) | omega) (by omega) (by omega) (by omega) (by first | (intro q; exfalso; omega) | (intro q; omega) | omega) (by first | (intro q; exfalso; omega) | (intro q; omega) | omega)
          ·
            show wp l rho (d + 4) 185 68 [(2, 151), (0, 0), (0, 0), (0, 1), (0, 0), (9, 0), (9, 0), (9, 0)] [(0, 1)] h Q
            rw [show wm 10 = 316695 from by decide] at xp628
            exfalso; omega
        ·
          show wp l rho (d + 4) 185 26 [(2, 151), (0, 0), (0, 0), (0, 1), (9, 0), (9, 0), (9, 0), (9, 0)] [(0, 1)] h Q
          rw [show wm 11 = 26801 from by decide] at xp618
          exfalso; omega
    ·
      show wp l rho (d + 4) 185 12 [(2, 151), (0, 0), (9, 0), (9, 0), (9, 0), (9, 0), (9, 0), (9, 0)] [(0, 1)] h Q
      rw [show wm 7 = 8422 from by decide] at xp518
      refine w_istore_n (ls' := [(2, 151), (0, 0), (0, 1), (9, 0), (9, 0), (9, 0), (9, 0), (9, 0)]) gz_185_12 gm_185 rfl rfl rfl ?_
      refine w_aload_n gz_185_13 rfl ?_
      refine w_bipush gz_185_14 (by decide) ?_
      refine w_inv (k := 0) (as := [(0, 8)]) (r := []) (x := 151) (ls0 := [(2, 151), (0, 8)]) gz_185_16 gm_177 rfl is_151 rd_10 rfl rfl rfl rfl rfl (c_Model_isWord9_f0 (d := (d + 3)) (x1 := 8) (by omega) (by omega) (cf.trans (by omega)) n_Wd9 (fun w646 xp647 => ?_) (fun w648 xp649 xp650 xp651 xp652 => ?_))
      ·
        show wp l rho (d + 4) 185 19 [(2, 151), (0, 0), (0, 1), (9, 0), (9, 0), (9, 0), (9, 0), (9, 0)] [(0, 0)] h Q
        rw [show wm 8 = 527412 from by decide] at xp647
        refine w_istore_n (ls' := [(2, 151), (0, 0), (0, 1), (0, 0), (9, 0), (9, 0), (9, 0), (9, 0)]) gz_185_19 gm_185 rfl rfl rfl ?_
        refine w_aload_n gz_185_20 rfl ?_
        refine w_bipush gz_185_21 (by decide) ?_
        refine w_inv (k := 0) (as := [(0, 11)]) (r := []) (x := 151) (ls0 := [(2, 151), (0, 11)]) gz_185_23 gm_177 rfl is_151 rd_10 rfl rfl rfl rfl rfl (c_Model_isWord9_f0 (d := (d + 3)) (x1 := 11) (by omega) (by omega) (cf.trans (by omega)) n_Wd9 (fun w653 xp654 => ?_) (fun w655 xp656 xp657 xp658 xp659 => ?_))
        ·
          show wp l rho (d + 4) 185 26 [(2, 151), (0, 0), (0, 1), (0, 0), (9, 0), (9, 0), (9, 0), (9, 0)] [(0, 0)] h Q
          rw [show wm 11 = 26801 from by decide] at xp654
          refine w_istore (ls' := [(2, 151), (0, 0), (0, 1), (0, 0), (0, 0), (9, 0), (9, 0), (9, 0)]) gz_185_26 gm_185 rfl rfl rfl ?_
          refine w_iload_n gz_185_28 rfl ?_
          refine w_ifne (t := 62) gz_185_29 rfl (fun u660 => by exfalso; omega) (fun u660 => ?_)
          refine w_iload_n gz_185_32 rfl ?_
          refine w_ifne (t := 62) gz_185_33 rfl (fun u661 => ?_) (fun u661 => by exfalso; omega)
          refine w_aload_n gz_185_62 rfl ?_
          refine w_bipush gz_185_63 (by decide) ?_
          refine w_inv (k := 0) (as := [(0, 10)]) (r := []) (x := 151) (ls0 := [(2, 151), (0, 10)]) gz_185_65 gm_177 rfl is_151 rd_10 rfl rfl rfl rfl rfl (c_Model_isWord9_f0 (d := (d + 3)) (x1 := 10) (by omega) (by omega) (cf.trans (by omega)) n_Wd9 (fun w662 xp663 => ?_) (fun w664 xp665 xp666 xp667 xp668 => ?_))
          ·
            show wp l rho (d + 4) 185 68 [(2, 151), (0, 0), (0, 1), (0, 0), (0, 0), (9, 0), (9, 0), (9, 0)] [(0, 0)] h Q
            rw [show wm 10 = 316695 from by decide] at xp663
            refine w_ifne (t := 88) gz_185_68 rfl (fun u669 => by exfalso; omega) (fun u669 => ?_)
            refine w_aload_n gz_185_71 rfl ?_
            refine w_getX (v := 167) gz_185_72 is_151 rd_10 rfl (by decide) rfl ?_
            refine w_bipush gz_185_75 (by decide) ?_
            refine w_iald gz_185_77 is_167 rd_66 (by omega) (by omega) (fun v671 ev671 pv671 qv671 => ?_)
            refine w_bipush gz_185_78 (by decide) ?_
            refine w_icne (t := 88) gz_185_80 rfl (fun u672 => ?_) (fun u672 => ?_)
            ·
              have psJ : h 151 7 = h 151 7 := (rfl : h 151 7 = h 151 7)
              have npsJ : sm h = sm h := rfl
              have ce673 : h 151 7 = k151_7 := ek151_7.symm
              have ce674 : h 151 8 = 0 := cf
              have ce675 : h 151 27 = k151_27 := ek151_27.symm
              have j167 : ∀ j : Int, h 167 j = h 167 j := fun _ => rfl
              have j6 := j167 6
              exact J88_0 (0) (1) (0) (0) (0) h (my_fr.rf) (by omega) (by omega) (by omega) (by omega) (by omega) (by omega) (by omega) (by omega) (by omega) (by omega) (ek151_27.symm.trans (by omega)) (ek151_33.symm.trans (by omega)) (ek151_7.symm.trans (by omega)) (cf.trans (by omega)) n_Tok n_Mq n_Wrd n_Wd9 (Ko_rf) (by first | (intro q; exfalso; omega) | (intro _; assumption) | omega) (by first | (intro q; exfalso; omega) | (intro _ q; omega) | (intro _ q; exfalso; have w := n_Wrd; unfold Wrd at w; omega) | omega) (by omega) (by omega) (by omega) (by first | (intro q; exfalso; omega) | (intro q; omega) | omega) (by first | (intro q; exfalso; omega) | (intro q; omega) | omega)
            ·
              refine w_aload_n gz_185_83 rfl ?_
              refine w_iconst gz_185_84 (by decide) ?_
              refine w_inv (k := 0) (as := [(0, 5)]) (r := []) (x := 151) (ls0 := [(2, 151), (0, 5)]) gz_185_85 gm_178 rfl is_151 rd_10 rfl rfl rfl rfl rfl ?_
              refine w_aload_n gz_178_0 rfl ?_
              refine v_getI (j := 8) gz_178_1 rfl is_151 rd_10 rfl (fun v676 ev676 pv676 qv676 => ?_)
              have zv676 := ev676.trans cf
              refine w_ifne (t := 25) gz_178_4 rfl (fun u677 => by exfalso; omega) (fun u677 => ?_)
              refine w_aload_n gz_178_7 rfl ?_
              refine w_iload_n gz_178_8 rfl ?_
              refine w_bipush gz_178_9 (by decide) ?_
              refine w_aload_n gz_178_11 rfl ?_
              refine w_getX (v := 154) gz_178_12 is_151 rd_10 rfl (by decide) rfl ?_
              refine w_aload_n gz_178_15 rfl ?_
              refine v_getI (j := 7) gz_178_16 rfl is_151 rd_10 rfl (fun v679 ev679 pv679 qv679 => ?_)
              have zv679 := ev679.trans ek151_7.symm
              refine w_iald gz_178_19 is_154 rd_53 (by omega) (by omega) (fun v680 ev680 pv680 qv680 => ?_)
              have nz681 : v680 = sP (sm h) (h 151 7) := by
                have q := ev680
                rw [show (v679 : Int) = h 151 7 from by omega] at q
                exact q
              refine w_imul gz_178_20 ⟨by omega, by omega⟩ ?_
              refine w_iadd gz_178_21 ⟨by omega, by omega⟩ ?_
              refine v_putI (j := 8) gz_178_22 rfl is_151 rd_10 rfl (by omega) (by omega) rfl (fun h682 fh682 => ?_)
              have gh682 : my_fr [(10, 7), (10, 8), (10, 27), (66, -1), (67, -1), (68, -1), (69, -1), (70, -1), (71, -1), (72, -1), (73, -1), (74, -1), (75, -1), (77, -1), (78, -1), (79, -1)] h h682 := my_fr.up my_fr.rf is_151 fh682 rfl
              have Tok_h682 : Tok h682 := Tok_ag (my_ag.up fh682 is_151 rfl) n_Tok
              have Mq_h682 : Mq h682 wv := Mq_ag (my_ag.up fh682 is_151 rfl) n_Mq
              have Wrd_h682 : Wrd h682 := Wrd_ag (my_ag.up fh682 is_151 rfl) n_Wrd
              have Wd9_h682 : Wd9 h682 := Wd9_ag (my_ag.up fh682 is_151 rfl) n_Wd9
              have Ko_h682 : Ko h h682 := Ko_ag (my_ag.up fh682 is_151 rfl) (Ko_rf)
              refine w_vret gz_178_25 gm_178 ?_
              show wp l rho (d + 4) 185 88 [(2, 151), (0, 0), (0, 1), (0, 0), (0, 0), (9, 0), (9, 0), (9, 0)] [] h682 Q
              have psJ : h682 151 7 = h 151 7 := ((my_up_fld fh682 (by decide)).trans (rfl : h 151 7 = h 151 7))
              have npsJ : sm h682 = sm h := sm_eq (fun j => my_fr.at gh682 is_153 rfl) (fun j => my_fr.at gh682 is_154 rfl) (fun j => my_fr.at gh682 is_155 rfl)
              have ce683 : h682 151 7 = v679 := ((my_up_fld fh682 (by decide)).trans ev679.symm)
              have ce684 : h682 151 8 = (5 + (16 * v680)) := (my_up_self fh682)
              have ce685 : h682 151 27 = k151_27 := ((my_up_fld fh682 (by decide)).trans ek151_27.symm)
              have j167 : ∀ j : Int, h682 167 j = h 167 j := fun j => ((my_up_role fh682 is_167 is_151 rfl).trans (rfl : h 167 j = h 167 j))
              have j6 := j167 6
              exact J88_0 (0) (1) (0) (0) ((5 + (16 * v680))) h682 (gh682) (by omega) (by omega) (by omega) (by omega) (by omega) (by omega) (by omega) (by omega) (by omega) (by omega) (((my_up_fld fh682 (by decide)).trans ek151_27.symm).trans (by omega)) (((my_up_fld fh682 (by decide)).trans ek151_33.symm).trans (by omega)) (((my_up_fld fh682 (by decide)).trans ev679.symm).trans (by omega)) ((my_up_self fh682).trans (by omega)) Tok_h682 Mq_h682 Wrd_h682 Wd9_h682 Ko_h682 (by first | (intro q; exfalso; omega) | (intro _; assumption) | omega) (by first | (intro q; exfalso; omega) | (intro _ q; omega) | (intro _ q; exfalso; have w := Wrd_h682; unfold Wrd at w; omega) | omega) (by omega) (by omega) (by omega) (by first | (intro q; exfalso; omega) | (intro q; omega) | omega) (by first | (intro q; exfalso; omega) | (intro q; omega) | omega)
          ·
            show wp l rho (d + 4) 185 68 [(2, 151), (0, 0), (0, 1), (0, 0), (0, 0), (9, 0), (9, 0), (9, 0)] [(0, 1)] h Q
            rw [show wm 10 = 316695 from by decide] at xp668
            exfalso; omega
        ·
          show wp l rho (d + 4) 185 26 [(2, 151), (0, 0), (0, 1), (0, 0), (9, 0), (9, 0), (9, 0), (9, 0)] [(0, 1)] h Q
          rw [show wm 11 = 26801 from by decide] at xp659
          exfalso; omega
      ·
        show wp l rho (d + 4) 185 19 [(2, 151), (0, 0), (0, 1), (9, 0), (9, 0), (9, 0), (9, 0), (9, 0)] [(0, 1)] h Q
        rw [show wm 8 = 527412 from by decide] at xp652
        exfalso; omega
  ·
    show wp l rho (d + 4) 185 5 [(2, 151), (9, 0), (9, 0), (9, 0), (9, 0), (9, 0), (9, 0), (9, 0)] [(0, 1)] h Q
    rw [show wm 3 = 4904 from by decide] at xp511
    refine w_istore_n (ls' := [(2, 151), (0, 1), (9, 0), (9, 0), (9, 0), (9, 0), (9, 0), (9, 0)]) gz_185_5 gm_185 rfl rfl rfl ?_
    refine w_aload_n gz_185_6 rfl ?_
    refine w_bipush gz_185_7 (by decide) ?_
    refine w_inv (k := 0) (as := [(0, 7)]) (r := []) (x := 151) (ls0 := [(2, 151), (0, 7)]) gz_185_9 gm_177 rfl is_151 rd_10 rfl rfl rfl rfl rfl (c_Model_isWord9_f0 (d := (d + 3)) (x1 := 7) (by omega) (by omega) (cf.trans (by omega)) n_Wd9 (fun w686 xp687 => ?_) (fun w688 xp689 xp690 xp691 xp692 => ?_))
    ·
      show wp l rho (d + 4) 185 12 [(2, 151), (0, 1), (9, 0), (9, 0), (9, 0), (9, 0), (9, 0), (9, 0)] [(0, 0)] h Q
      rw [show wm 7 = 8422 from by decide] at xp687
      refine w_istore_n (ls' := [(2, 151), (0, 1), (0, 0), (9, 0), (9, 0), (9, 0), (9, 0), (9, 0)]) gz_185_12 gm_185 rfl rfl rfl ?_
      refine w_aload_n gz_185_13 rfl ?_
      refine w_bipush gz_185_14 (by decide) ?_
      refine w_inv (k := 0) (as := [(0, 8)]) (r := []) (x := 151) (ls0 := [(2, 151), (0, 8)]) gz_185_16 gm_177 rfl is_151 rd_10 rfl rfl rfl rfl rfl (c_Model_isWord9_f0 (d := (d + 3)) (x1 := 8) (by omega) (by omega) (cf.trans (by omega)) n_Wd9 (fun w693 xp694 => ?_) (fun w695 xp696 xp697 xp698 xp699 => ?_))
      ·
        show wp l rho (d + 4) 185 19 [(2, 151), (0, 1), (0, 0), (9, 0), (9, 0), (9, 0), (9, 0), (9, 0)] [(0, 0)] h Q
        rw [show wm 8 = 527412 from by decide] at xp694
        refine w_istore_n (ls' := [(2, 151), (0, 1), (0, 0), (0, 0), (9, 0), (9, 0), (9, 0), (9, 0)]) gz_185_19 gm_185 rfl rfl rfl ?_
        refine w_aload_n gz_185_20 rfl ?_
        refine w_bipush gz_185_21 (by decide) ?_
        refine w_inv (k := 0) (as := [(0, 11)]) (r := []) (x := 151) (ls0 := [(2, 151), (0, 11)]) gz_185_23 gm_177 rfl is_151 rd_10 rfl rfl rfl rfl rfl (c_Model_isWord9_f0 (d := (d + 3)) (x1 := 11) (by omega) (by omega) (cf.trans (by omega)) n_Wd9 (fun w700 xp701 => ?_) (fun w702 xp703 xp704 xp705 xp706 => ?_))
        ·
          show wp l rho (d + 4) 185 26 [(2, 151), (0, 1), (0, 0), (0, 0), (9, 0), (9, 0), (9, 0), (9, 0)] [(0, 0)] h Q
          rw [show wm 11 = 26801 from by decide] at xp701
          refine w_istore (ls' := [(2, 151), (0, 1), (0, 0), (0, 0), (0, 0), (9, 0), (9, 0), (9, 0)]) gz_185_26 gm_185 rfl rfl rfl ?_
          refine w_iload_n gz_185_28 rfl ?_
          refine w_ifne (t := 62) gz_185_29 rfl (fun u707 => ?_) (fun u707 => by exfalso; omega)
          refine w_aload_n gz_185_62 rfl ?_
          refine w_bipush gz_185_63 (by decide) ?_
          refine w_inv (k := 0) (as := [(0, 10)]) (r := []) (x := 151) (ls0 := [(2, 151), (0, 10)]) gz_185_65 gm_177 rfl is_151 rd_10 rfl rfl rfl rfl rfl (c_Model_isWord9_f0 (d := (d + 3)) (x1 := 10) (by omega) (by omega) (cf.trans (by omega)) n_Wd9 (fun w708 xp709 => ?_) (fun w710 xp711 xp712 xp713 xp714 => ?_))
          ·
            show wp l rho (d + 4) 185 68 [(2, 151), (0, 1), (0, 0), (0, 0), (0, 0), (9, 0), (9, 0), (9, 0)] [(0, 0)] h Q
            rw [show wm 10 = 316695 from by decide] at xp709
            refine w_ifne (t := 88) gz_185_68 rfl (fun u715 => by exfalso; omega) (fun u715 => ?_)
            refine w_aload_n gz_185_71 rfl ?_
            refine w_getX (v := 167) gz_185_72 is_151 rd_10 rfl (by decide) rfl ?_
            refine w_bipush gz_185_75 (by decide) ?_
            refine w_iald gz_185_77 is_167 rd_66 (by omega) (by omega) (fun v717 ev717 pv717 qv717 => ?_)
            refine w_bipush gz_185_78 (by decide) ?_
            refine w_icne (t := 88) gz_185_80 rfl (fun u718 => ?_) (fun u718 => ?_)
            ·
              have psJ : h 151 7 = h 151 7 := (rfl : h 151 7 = h 151 7)
              have npsJ : sm h = sm h := rfl
              have ce719 : h 151 7 = k151_7 := ek151_7.symm
              have ce720 : h 151 8 = 0 := cf
              have ce721 : h 151 27 = k151_27 := ek151_27.symm
              have j167 : ∀ j : Int, h 167 j = h 167 j := fun _ => rfl
              have j6 := j167 6
              exact J88_0 (1) (0) (0) (0) (0) h (my_fr.rf) (by omega) (by omega) (by omega) (by omega) (by omega) (by omega) (by omega) (by omega) (by omega) (by omega) (ek151_27.symm.trans (by omega)) (ek151_33.symm.trans (by omega)) (ek151_7.symm.trans (by omega)) (cf.trans (by omega)) n_Tok n_Mq n_Wrd n_Wd9 (Ko_rf) (by first | (intro q; exfalso; omega) | (intro _; assumption) | omega) (by first | (intro q; exfalso; omega) | (intro _ q; omega) | (intro _ q; exfalso; have w := n_Wrd; unfold Wrd at w; omega) | omega) (by omega) (by omega) (by omega) (by first | (intro q; exfalso; omega) | (intro q; omega) | omega) (by first | (intro q; exfalso; omega) | (intro q; omega) | omega)
            ·
              refine w_aload_n gz_185_83 rfl ?_
              refine w_iconst gz_185_84 (by decide) ?_
              refine w_inv (k := 0) (as := [(0, 5)]) (r := []) (x := 151) (ls0 := [(2, 151), (0, 5)]) gz_185_85 gm_178 rfl is_151 rd_10 rfl rfl rfl rfl rfl ?_
              refine w_aload_n gz_178_0 rfl ?_
              refine v_getI (j := 8) gz_178_1 rfl is_151 rd_10 rfl (fun v722 ev722 pv722 qv722 => ?_)
              have zv722 := ev722.trans cf
              refine w_ifne (t := 25) gz_178_4 rfl (fun u723 => by exfalso; omega) (fun u723 => ?_)
              refine w_aload_n gz_178_7 rfl ?_
              refine w_iload_n gz_178_8 rfl ?_
              refine w_bipush gz_178_9 (by decide) ?_
              refine w_aload_n gz_178_11 rfl ?_
              refine w_getX (v := 154) gz_178_12 is_151 rd_10 rfl (by decide) rfl ?_
              refine w_aload_n gz_178_15 rfl ?_
              refine v_getI (j := 7) gz_178_16 rfl is_151 rd_10 rfl (fun v725 ev725 pv725 qv725 => ?_)
              have zv725 := ev725.trans ek151_7.symm
              refine w_iald gz_178_19 is_154 rd_53 (by omega) (by omega) (fun v726 ev726 pv726 qv726 => ?_)
              have nz727 : v726 = sP (sm h) (h 151 7) := by
                have q := ev726
                rw [show (v725 : Int) = h 151 7 from by omega] at q
                exact q
              refine w_imul gz_178_20 ⟨by omega, by omega⟩ ?_
              refine w_iadd gz_178_21 ⟨by omega, by omega⟩ ?_
              refine v_putI (j := 8) gz_178_22 rfl is_151 rd_10 rfl (by omega) (by omega) rfl (fun h728 fh728 => ?_)
              have gh728 : my_fr [(10, 7), (10, 8), (10, 27), (66, -1), (67, -1), (68, -1), (69, -1), (70, -1), (71, -1), (72, -1), (73, -1), (74, -1), (75, -1), (77, -1), (78, -1), (79, -1)] h h728 := my_fr.up my_fr.rf is_151 fh728 rfl
              have Tok_h728 : Tok h728 := Tok_ag (my_ag.up fh728 is_151 rfl) n_Tok
              have Mq_h728 : Mq h728 wv := Mq_ag (my_ag.up fh728 is_151 rfl) n_Mq
              have Wrd_h728 : Wrd h728 := Wrd_ag (my_ag.up fh728 is_151 rfl) n_Wrd
              have Wd9_h728 : Wd9 h728 := Wd9_ag (my_ag.up fh728 is_151 rfl) n_Wd9
              have Ko_h728 : Ko h h728 := Ko_ag (my_ag.up fh728 is_151 rfl) (Ko_rf)
              refine w_vret gz_178_25 gm_178 ?_
              show wp l rho (d + 4) 185 88 [(2, 151), (0, 1), (0, 0), (0, 0), (0, 0), (9, 0), (9, 0), (9, 0)] [] h728 Q
              have psJ : h728 151 7 = h 151 7 := ((my_up_fld fh728 (by decide)).trans (rfl : h 151 7 = h 151 7))
              have npsJ : sm h728 = sm h := sm_eq (fun j => my_fr.at gh728 is_153 rfl) (fun j => my_fr.at gh728 is_154 rfl) (fun j => my_fr.at gh728 is_155 rfl)
              have ce729 : h728 151 7 = v725 := ((my_up_fld fh728 (by decide)).trans ev725.symm)
              have ce730 : h728 151 8 = (5 + (16 * v726)) := (my_up_self fh728)
              have ce731 : h728 151 27 = k151_27 := ((my_up_fld fh728 (by decide)).trans ek151_27.symm)
              have j167 : ∀ j : Int, h728 167 j = h 167 j := fun j => ((my_up_role fh728 is_167 is_151 rfl).trans (rfl : h 167 j = h 167 j))
              have j6 := j167 6
              exact J88_0 (1) (0) (0) (0) ((5 + (16 * v726))) h728 (gh728) (by omega) (by omega) (by omega) (by omega) (by omega) (by omega) (by omega) (by omega) (by omega) (by omega) (((my_up_fld fh728 (by decide)).trans ek151_27.symm).trans (by omega)) (((my_up_fld fh728 (by decide)).trans ek151_33.symm).trans (by omega)) (((my_up_fld fh728 (by decide)).trans ev725.symm).trans (by omega)) ((my_up_self fh728).trans (by omega)) Tok_h728 Mq_h728 Wrd_h728 Wd9_h728 Ko_h728 (by first | (intro q; exfalso; omega) | (intro _; assumption) | omega) (by first | (intro q; exfalso; omega) | (intro _ q; omega) | (intro _ q; exfalso; have w := Wrd_h728; unfold Wrd at w; omega) | omega) (by omega) (by omega) (by omega) (by first | (intro q; exfalso; omega) | (intro q; omega) | omega) (by first | (intro q; exfalso; omega) | (intro q; omega) | omega)
          ·
            show wp l rho (d + 4) 185 68 [(2, 151), (0, 1), (0, 0), (0, 0), (0, 0), (9, 0), (9, 0), (9, 0)] [(0, 1)] h Q
            rw [show wm 10 = 316695 from by decide] at xp714
            exfalso; omega
        ·
          show wp l rho (d + 4) 185 26 [(2, 151), (0, 1), (0, 0), (0, 0), (9, 0), (9, 0), (9, 0), (9, 0)] [(0, 1)] h Q
          rw [show wm 11 = 26801 from by decide] at xp706
          exfalso; omega
      ·
        show wp l rho (d + 4) 185 19 [(2, 151), (0, 1), (0, 0), (9, 0), (9, 0), (9, 0), (9, 0), (9, 0)] [(0, 1)] h Q
        rw [show wm 8 = 527412 from by decide] at xp699
        exfalso; omega
    ·
      show wp l rho (d + 4) 185 12 [(2, 151), (0, 1), (9, 0), (9, 0), (9, 0), (9, 0), (9, 0), (9, 0)] [(0, 1)] h Q
      rw [show wm 7 = 8422 from by decide] at xp692
      exfalso; omega
end MYNModel_readPane9_f0
