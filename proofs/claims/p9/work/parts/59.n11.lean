/-! contracts, printed by wip/gen/gy.py -/
section MYNModel_readPane9_f0
theorem c_Model_readPane9_f0 {l : Launch} {rho : Nat → Int32} {d : Nat} {h : my_H} {Q : my_H → my_V → Prop} {wv : Int} (cf : h 151 8 = 0) (hwv : wv ≤ 5) (hwv0 : 0 ≤ wv) (n_Tok : Tok h) (n_Mq : Mq h wv) (n_Wrd : Wrd h) (n_Wd9 : Wd9 h) (k0 : ∀ (h' : my_H), my_fr [(10, 7), (10, 8), (10, 27), (66, -1), (67, -1), (68, -1), (69, -1), (70, -1), (71, -1), (72, -1), (73, -1), (74, -1), (75, -1), (77, -1), (78, -1), (79, -1)] h h' → 1 ≤ h' 151 8 → h' 151 8 ≤ 16005 → h 151 7 ≤ h' 151 7 → (∃ y c s : Int, paneR (sm h) (h 157) (h 157 (h 151 33)) (h 151 7) (h 151 27) (h 167 6) (h' 151 8) y c s) → Ko h h' → Tok h' → Mq h' wv → Wrd h' → Wd9 h' → Q h' (9, 0)) (k1 : ∀ (h' : my_H), my_fr [(10, 7), (10, 8), (10, 27), (66, -1), (67, -1), (68, -1), (69, -1), (70, -1), (71, -1), (72, -1), (73, -1), (74, -1), (75, -1), (77, -1), (78, -1), (79, -1)] h h' → 1 ≤ h' 151 7 → h' 151 7 ≤ 1001 → h' 151 8 = 0 → h 151 7 < h' 151 7 → paneR (sm h) (h 157) (h 157 (h 151 33)) (h 151 7) (h 151 27) (h 167 6) (h' 151 8) (h' 151 7) (h' 151 27) (h' 167 6) → Ko h h' → Tok h' → Mq h' wv → Wrd h' → Wd9 h' → Q h' (9, 0)) : wp l rho (d + 4) 185 0 [(2, 151), (9, 0), (9, 0), (9, 0), (9, 0), (9, 0), (9, 0), (9, 0)] [] h Q := by
  refine v_know (x := 151) (j := 7) (b := 7) rfl is_151 rd_10 rfl (fun k151_7 ek151_7 pk151_7 qk151_7 => ?_)
  refine v_know (x := 151) (j := 27) (b := 27) rfl is_151 rd_10 rfl (fun k151_27 ek151_27 pk151_27 qk151_27 => ?_)
  refine v_know (x := 151) (j := 33) (b := 33) rfl is_151 rd_10 rfl (fun k151_33 ek151_33 pk151_33 qk151_33 => ?_)
  have J88_0 : ∀ (p88_0 p88_1 p88_2 p88_3 p88_4 : Int) (h88_0 : my_H), my_fr [(10, 7), (10, 8), (10, 27), (66, -1), (67, -1), (68, -1), (69, -1), (70, -1), (71, -1), (72, -1), (73, -1), (74, -1), (75, -1), (77, -1), (78, -1), (79, -1)] h h88_0 → 0 ≤ p88_0 → p88_0 ≤ 1 → 0 ≤ p88_1 → p88_1 ≤ 1 → 0 ≤ p88_2 → p88_2 ≤ 1 → 0 ≤ p88_3 → p88_3 ≤ 1 → 0 ≤ p88_4 → p88_4 ≤ 16005 → h88_0 151 27 = k151_27 → h88_0 151 33 = k151_33 → h88_0 151 7 = k151_7 → h88_0 151 8 = p88_4 → Tok h88_0 → Mq h88_0 wv → Wrd h88_0 → Wd9 h88_0 → Ko h h88_0 → (h88_0 151 8 = 0 → h88_0 153 (h88_0 151 7) = 1) → (h88_0 151 8 = 0 → (p88_0 = 1 ∨ p88_1 = 1 ∨ p88_2 = 1 ∨ p88_3 = 1) → h88_0 167 6 ≤ 5) → h88_0 151 7 = h 151 7 → h88_0 151 27 = h 151 27 → h88_0 167 6 = h 167 6 → (h88_0 151 8 = 0 → (p88_0 = 1 → sW (sm h) (h 151 7) = 4904) ∧ (p88_0 = 0 → sW (sm h) (h 151 7) ≠ 4904) ∧ (p88_1 = 1 → sW (sm h) (h 151 7) = 8422) ∧ (p88_1 = 0 → sW (sm h) (h 151 7) ≠ 8422) ∧ (p88_2 = 1 → sW (sm h) (h 151 7) = 527412) ∧ (p88_2 = 0 → sW (sm h) (h 151 7) ≠ 527412) ∧ (p88_3 = 1 → sW (sm h) (h 151 7) = 26801) ∧ (p88_3 = 0 → sW (sm h) (h 151 7) ≠ 26801) ∧ (p88_0 = 0 → p88_1 = 0 → p88_2 = 0 → p88_3 = 0 → sW (sm h) (h 151 7) = 316695)) → (h88_0 151 8 ≠ 0 → (sW (sm h) (h 151 7) ≠ 316695 ∧ sW (sm h) (h 151 7) ≠ 4904 ∧ sW (sm h) (h 151 7) ≠ 8422 ∧ sW (sm h) (h 151 7) ≠ 527412 ∧ sW (sm h) (h 151 7) ≠ 26801 ∧ h88_0 151 8 = 1 + 16 * sP (sm h) (h 151 7)) ∨ ((sW (sm h) (h 151 7) = 4904 ∨ sW (sm h) (h 151 7) = 8422 ∨ sW (sm h) (h 151 7) = 527412 ∨ sW (sm h) (h 151 7) = 26801) ∧ 6 ≤ h 167 6 ∧ h88_0 151 8 = 5 + 16 * sP (sm h) (h 151 7))) → wp l rho (d + 4) 185 88 [(2, 151), (0, p88_0), (0, p88_1), (0, p88_2), (0, p88_3), (9, 0), (9, 0), (9, 0)] [] h88_0 Q := by
    intro p88_0 p88_1 p88_2 p88_3 p88_4 h88_0 gh_88_0 q0_88_0 q1_88_0 q2_88_0 q3_88_0 q4_88_0 q5_88_0 q6_88_0 q7_88_0 q8_88_0 q9_88_0 c151_27_88_0 c151_33_88_0 c151_7_88_0 c151_8_88_0 n_Tok_88_0 n_Mq_88_0 n_Wrd_88_0 n_Wd9_88_0 n_Ko_88_0 wd_88_0 pn_88_0 am_88_0 cw_88_0 c6_88_0 w1_88_0 wf_88_0
    have w1z := w1_88_0
    have wfz := wf_88_0
    refine w_aload_n gz_185_88 rfl ?_
    refine v_getI (j := 8) gz_185_89 rfl is_151 rd_10 rfl (fun v1 ev1 pv1 qv1 => ?_)
    have zv1 := ev1.trans c151_8_88_0
    refine w_ifle (t := 96) gz_185_92 rfl (fun u2 => ?_) (fun u2 => ?_)
    ·
      refine w_aload_n gz_185_96 rfl ?_
      refine w_dup gz_185_97 rfl ?_
      refine v_getI (j := 7) gz_185_98 rfl is_151 rd_10 rfl (fun v3 ev3 pv3 qv3 => ?_)
      have zv3 := ev3.trans c151_7_88_0
      refine w_iconst gz_185_101 (by decide) ?_
      refine w_iadd gz_185_102 ⟨by omega, by omega⟩ ?_
      have w1 := wd_88_0 (by omega)
      have hi4 : 0 ≤ (v3 + 1) := by have q := Tok_at n_Tok_88_0; omega
      have hi5 : (v3 + 1) ≤ 1001 := by have q := Tok_at n_Tok_88_0; omega
      refine v_putI (j := 7) gz_185_103 rfl is_151 rd_10 rfl (by omega) (by omega) rfl (fun h6 fh6 => ?_)
      have gh6 : my_fr [(10, 7), (10, 8), (10, 27), (66, -1), (67, -1), (68, -1), (69, -1), (70, -1), (71, -1), (72, -1), (73, -1), (74, -1), (75, -1), (77, -1), (78, -1), (79, -1)] h h6 := my_fr.up gh_88_0 is_151 fh6 rfl
      have ps7a : h88_0 151 7 = h 151 7 := am_88_0
      have ps7 : h6 151 7 = (sN (sm h) (h 151 7)) := by
        rw [my_up_self fh6]
        show (v3 + 1) = h 151 7 + 1
        omega
      have Mq_h6 : Mq h6 wv := Mq_ag (my_ag.up fh6 is_151 rfl) n_Mq_88_0
      have Wrd_h6 : Wrd h6 := Wrd_ag (my_ag.up fh6 is_151 rfl) n_Wrd_88_0
      have Wd9_h6 : Wd9 h6 := Wd9_ag (my_ag.up fh6 is_151 rfl) n_Wd9_88_0
      have Ko_h6 : Ko h h6 := Ko_ag (my_ag.up fh6 is_151 rfl) n_Ko_88_0
      have Tok_h6t8 : Tok h6 := Tok_inc n_Tok_88_0 (by omega) (by omega) fh6
      have k7 := my_up_self fh6
      refine w_bipush gz_185_106 (by decide) ?_
      refine w_aload_n gz_185_108 rfl ?_
      refine w_getX (v := 167) gz_185_109 is_151 rd_10 rfl (by decide) rfl ?_
      refine w_bipush gz_185_112 (by decide) ?_
      refine w_iald gz_185_114 is_167 rd_66 (by omega) (by omega) (fun v10 ev10 pv10 qv10 => ?_)
      have b167 : ∀ j : Int, h6 167 j = h88_0 167 j := fun j => ((my_up_role fh6 is_167 is_151 rfl).trans (rfl : h88_0 167 j = h88_0 167 j))
      have p5 := pn_88_0 (by omega)
      have q6 := b167 6
      refine w_iadd gz_185_115 ⟨by omega, by omega⟩ ?_
      refine w_istore (ls' := [(2, 151), (0, p88_0), (0, p88_1), (0, p88_2), (0, p88_3), (0, (36 + v10)), (9, 0), (9, 0)]) gz_185_116 gm_185 rfl rfl rfl ?_
      refine w_iload_n gz_185_118 rfl ?_
      refine w_ifeq (t := 131) gz_185_119 rfl (fun u11 => ?_) (fun u11 => ?_)
      ·
        refine w_iload_n gz_185_131 rfl ?_
        refine w_ifeq (t := 144) gz_185_132 rfl (fun u12 => ?_) (fun u12 => ?_)
        ·
          refine w_iload_n gz_185_144 rfl ?_
          refine w_ifeq (t := 157) gz_185_145 rfl (fun u13 => ?_) (fun u13 => ?_)
          ·
            refine w_iload gz_185_157 rfl ?_
            refine w_ifeq (t := 171) gz_185_159 rfl (fun u14 => ?_) (fun u14 => ?_)
            ·
              refine w_aload_n gz_185_171 rfl ?_
              refine w_aload_n gz_185_172 rfl ?_
              refine w_getX (v := 157) gz_185_173 is_151 rd_10 rfl (by decide) rfl ?_
              refine w_aload_n gz_185_176 rfl ?_
              refine v_getI (j := 33) gz_185_177 rfl is_151 rd_10 rfl (fun v16 ev16 pv16 qv16 => ?_)
              have zv16 := ev16.trans ((my_up_fld fh6 (by decide)).trans c151_33_88_0)
              refine w_iald gz_185_180 is_157 rd_56 (by omega) (by omega) (fun v17 ev17 pv17 qv17 => ?_)
              refine w_iconst gz_185_181 (by decide) ?_
              refine w_isub gz_185_182 ⟨by omega, by omega⟩ ?_
              have ce18 : h6 151 7 = (v3 + 1) := (my_up_self fh6)
              have ce19 : h6 151 27 = k151_27 := ((my_up_fld fh6 (by decide)).trans c151_27_88_0)
              have b183 : (v17 - 1) = h 157 (h 151 33) - 1 := by
                have a := my_fr.at (j := 33) gh6 is_151 rfl
                have b := my_fr.at (j := v16) gh6 is_157 rfl
                rw [show h 151 33 = v16 by omega]
                omega
              refine w_inv (k := 0) (as := [(0, (v17 - 1))]) (r := []) (x := 151) (ls0 := [(2, 151), (0, (v17 - 1))]) gz_185_183 gm_187 rfl is_151 rd_10 rfl rfl rfl rfl rfl (c_Model_takeNumber9_f0 (d := (d + 2)) (x1 := (v17 - 1)) (by omega) (by omega) (((my_up_fld fh6 (by decide)).trans ev1.symm).trans (by omega)) Tok_h6t8 (fun h20 frh20 w21 w22 xp23 xp24 Tok_h20t25 => ?_) (fun h26 v27 frh26 w28 w29 w30 w31 w32 xp33 xp34 xp35 xp36 xp37 xp38 xp39 xp40 Tok_h26t41 => ?_))
              ·
                have gh20 : my_fr [(10, 7), (10, 8), (10, 27), (66, -1), (67, -1), (68, -1), (69, -1), (70, -1), (71, -1), (72, -1), (73, -1), (74, -1), (75, -1), (77, -1), (78, -1), (79, -1)] h h20 := my_fr.tr gh6 (frh20.mo rfl)
                have Mq_h20 : Mq h20 wv := Mq_ag (my_ag.fr frh20 rfl) Mq_h6
                have Wrd_h20 : Wrd h20 := Wrd_ag (my_ag.fr frh20 rfl) Wrd_h6
                have Wd9_h20 : Wd9 h20 := Wd9_ag (my_ag.fr frh20 rfl) Wd9_h6
                have Ko_h20 : Ko h h20 := Ko_ag (my_ag.fr frh20 rfl) Ko_h6
                show wp l rho (d + 4) 185 186 [(2, 151), (0, p88_0), (0, p88_1), (0, p88_2), (0, p88_3), (0, (36 + v10)), (9, 0), (9, 0)] [(0, 0)] h20 Q
                have ps42 : h6 151 7 = (sN (sm h) (h 151 7)) := ps7
                rw [ps42] at xp23
                have tE43 : sm h6 = sm h := sm_eq (fun j => my_fr.at gh6 is_153 rfl) (fun j => my_fr.at gh6 is_154 rfl) (fun j => my_fr.at gh6 is_155 rfl)
                rw [tE43] at xp24
                rw [ps42] at xp24
                refine w_istore (ls' := [(2, 151), (0, p88_0), (0, p88_1), (0, p88_2), (0, p88_3), (0, (36 + v10)), (0, 0), (9, 0)]) gz_185_186 gm_185 rfl rfl rfl ?_
                refine w_aload_n gz_185_188 rfl ?_
                refine w_bipush gz_185_189 (by decide) ?_
                have ce44 : h20 151 27 = k151_27 := ((my_fr.at frh20 is_151 rfl).trans ((my_up_fld fh6 (by decide)).trans c151_27_88_0))
                refine w_inv (k := 0) (as := [(0, 19)]) (r := []) (x := 151) (ls0 := [(2, 151), (0, 19)]) gz_185_191 gm_187 rfl is_151 rd_10 rfl rfl rfl rfl rfl (c_Model_takeNumber9_f1 (d := (d + 2)) (x1 := 19) (by omega) (by omega) ((h20 151 8)) ((rfl : h20 151 8 = h20 151 8)) (by omega) (by omega) Tok_h20t25 (fun w45 w46 xp47 Tok_h20t48 => ?_))
                show wp l rho (d + 4) 185 194 [(2, 151), (0, p88_0), (0, p88_1), (0, p88_2), (0, p88_3), (0, (36 + v10)), (0, 0), (9, 0)] [(0, 0)] h20 Q
                have ps49 : h20 151 7 = (((sN (sm h) (h 151 7)))) := xp23
                rw [ps49] at xp47
                refine w_istore (ls' := [(2, 151), (0, p88_0), (0, p88_1), (0, p88_2), (0, p88_3), (0, (36 + v10)), (0, 0), (0, 0)]) gz_185_194 gm_185 rfl rfl rfl ?_
                have ce50 : h20 151 8 = (h20 151 8) := (rfl : h20 151 8 = h20 151 8)
                have zF : fillM (sm h) (sN (sm h) (h 151 7)) (h 157 (h 151 33)) (h20 151 8) (h20 151 7) := by (unfold fillM; first | exact Or.inr (Or.inr ⟨by omega, by omega, Or.inr (Or.inr ⟨by omega, by omega, ⟨by omega, by omega⟩⟩)⟩) | exact Or.inr (Or.inr ⟨by omega, by omega, Or.inr (Or.inl ⟨by omega, by omega, by omega⟩)⟩) | exact Or.inr (Or.inr ⟨by omega, by omega, Or.inl ⟨by omega, by omega⟩⟩) | exact Or.inr (Or.inl ⟨by omega, by omega, by omega⟩) | exact Or.inl ⟨by omega, by omega⟩)
                refine w_aload_n gz_185_196 rfl ?_
                refine w_getX (v := 173) gz_185_197 is_151 rd_10 rfl (by decide) rfl ?_
                refine w_bipush gz_185_200 (by decide) ?_
                refine w_iload gz_185_202 rfl ?_
                refine w_iadd gz_185_204 ⟨by omega, by omega⟩ ?_
                refine w_aload_n gz_185_205 rfl ?_
                refine v_getI (j := 8) gz_185_206 rfl is_151 rd_10 rfl (fun v52 ev52 pv52 qv52 => ?_)
                have zv52 := ev52.trans (rfl : h20 151 8 = h20 151 8)
                refine w_ifne (t := 217) gz_185_209 rfl (fun u53 => ?_) (fun u53 => by exfalso; omega)
                refine w_aload_n gz_185_217 rfl ?_
                refine w_getX (v := 173) gz_185_218 is_151 rd_10 rfl (by decide) rfl ?_
                refine w_bipush gz_185_221 (by decide) ?_
                refine w_iload gz_185_223 rfl ?_
                refine w_iadd gz_185_225 ⟨by omega, by omega⟩ ?_
                have hi55 : 0 ≤ (24 + 0) := by omega
                have hi56 : (24 + 0) ≤ 27 := by omega
                refine w_iald gz_185_226 is_173 rd_72 (by omega) (by omega) (fun v57 ev57 pv57 qv57 => ?_)
                have hi58 : (-1) ≤ v57 := by omega
                have hi59 : v57 ≤ 19 := by omega
                have hi60 : 0 ≤ (24 + 0) := by omega
                have hi61 : (24 + 0) ≤ 27 := by omega
                refine w_iast gz_185_227 is_173 rd_72 (by omega) (by omega) (by omega) (by omega) (fun h62 fh62 => ?_)
                have gh62 : my_fr [(10, 7), (10, 8), (10, 27), (66, -1), (67, -1), (68, -1), (69, -1), (70, -1), (71, -1), (72, -1), (73, -1), (74, -1), (75, -1), (77, -1), (78, -1), (79, -1)] h h62 := my_fr.up gh20 is_173 fh62 rfl
                have Mq_h62 : Mq h62 wv := Mq_ag (my_ag.up fh62 is_173 rfl) Mq_h20
                have Wrd_h62 : Wrd h62 := Wrd_ag (my_ag.up fh62 is_173 rfl) Wrd_h20
                have Wd9_h62 : Wd9 h62 := Wd9_ag (my_ag.up fh62 is_173 rfl) Wd9_h20
                have Ko_h62 : Ko h h62 := Ko_ag (my_ag.up fh62 is_173 rfl) Ko_h20
                have Tok_h62 : Tok h62 := Tok_ag (my_ag.up fh62 is_173 rfl) Tok_h20t48
                refine w_aload_n gz_185_228 rfl ?_
                refine v_getI (j := 8) gz_185_229 rfl is_151 rd_10 rfl (fun v63 ev63 pv63 qv63 => ?_)
                have zv63 := ev63.trans ((my_up_role fh62 is_151 is_173 rfl).trans ev52.symm)
                refine w_ifne (t := 269) gz_185_232 rfl (fun u64 => ?_) (fun u64 => by exfalso; omega)
                refine w_aload_n gz_185_269 rfl ?_
                refine w_bipush gz_185_270 (by decide) ?_
                have ce65 : h62 151 7 = h20 151 7 := ((my_up_role fh62 is_151 is_173 rfl).trans (rfl : h20 151 7 = h20 151 7))
                refine w_inv (k := 0) (as := [(0, 59)]) (r := []) (x := 151) (ls0 := [(2, 151), (0, 59)]) gz_185_272 gm_183 rfl is_151 rd_10 rfl rfl rfl rfl rfl (c_Model_takeSign9_f1 (d := (d + 2))  (v63) (ev63.symm) (by omega) (by omega) Tok_h62 (fun w66 w67 xp68 xp69 Tok_h62t70 => ?_))
                show wp l rho (d + 4) 185 275 [(2, 151), (0, p88_0), (0, p88_1), (0, p88_2), (0, p88_3), (0, (36 + v10)), (0, 0), (0, 0)] [] h62 Q
                have ps71 : h62 151 7 = (((sN (sm h) (h 151 7)))) := ((my_up_role fh62 is_151 is_173 rfl).trans xp23)
                rw [ps71] at xp68
                rw [ps71] at xp69
                have psR : h62 151 7 = (((sN (sm h) (h 151 7)))) := ((my_up_role fh62 is_151 is_173 rfl).trans xp23)
                have npsR : sm h62 = sm h := sm_eq (fun j => my_fr.at gh62 is_153 rfl) (fun j => my_fr.at gh62 is_154 rfl) (fun j => my_fr.at gh62 is_155 rfl)
                have ce72 : h62 151 7 = h20 151 7 := ((my_up_role fh62 is_151 is_173 rfl).trans (rfl : h20 151 7 = h20 151 7))
                have ce73 : h62 151 8 = v63 := ev63.symm
                have ce74 : h62 151 27 = k151_27 := ((my_up_role fh62 is_151 is_173 rfl).trans ((my_fr.at frh20 is_151 rfl).trans ((my_up_fld fh6 (by decide)).trans c151_27_88_0)))
                have r167 : ∀ j : Int, h62 167 j = h88_0 167 j := fun j => ((my_up_role fh62 is_167 is_173 rfl).trans ((my_fr.at frh20 is_167 rfl).trans ((my_up_role fh6 is_167 is_151 rfl).trans (rfl : h88_0 167 j = h88_0 167 j))))
                have r6 := r167 6
                have c75 := ev63.symm
                exact w_vret gz_185_275 gm_185 (k0 h62 (gh62) (by omega) (by omega) (by first | exact Ko_h62 | omega | exact Or.inl ⟨by omega, fillM_R zF (by first | exact Or.inl ⟨by omega, by omega⟩ | exact Or.inr ⟨by omega, Or.inl ⟨by omega, by omega⟩⟩ | exact Or.inr ⟨by omega, Or.inr ⟨by omega, by omega, by omega⟩⟩), by omega, by omega⟩ | exact Or.inr (Or.inr (Or.inl ⟨by omega, by omega, cutM_R zC (by first | exact Or.inl ⟨by omega, by omega⟩ | exact Or.inr ⟨by omega, Or.inl ⟨by omega, by omega⟩⟩ | exact Or.inr ⟨by omega, Or.inr ⟨by omega, by omega, by omega⟩⟩), by first | omega | exact cw9, by omega⟩)) | exact Or.inr (Or.inr (Or.inr (Or.inl ⟨by omega, by omega, by first | (rw [cw9]; exact fmE_R zW (by first | exact Or.inl ⟨by omega, by omega⟩ | exact Or.inr ⟨by omega, Or.inl ⟨by omega, by omega⟩⟩ | exact Or.inr ⟨by omega, Or.inr ⟨by omega, by omega, by omega⟩⟩)) | exact fmE_R zW (by first | exact Or.inl ⟨by omega, by omega⟩ | exact Or.inr ⟨by omega, Or.inl ⟨by omega, by omega⟩⟩ | exact Or.inr ⟨by omega, Or.inr ⟨by omega, by omega, by omega⟩⟩), by omega⟩))) | exact Or.inr (Or.inr (Or.inr (Or.inr (Or.inl ⟨by omega, by omega, joinM_R zJ (by first | exact Or.inl ⟨by omega, by omega⟩ | exact Or.inr ⟨by omega, Or.inl ⟨by omega, by omega⟩⟩ | exact Or.inr ⟨by omega, Or.inr ⟨by omega, by omega, by omega⟩⟩), fun _ => by omega, by omega⟩)))) | exact Or.inr (Or.inr (Or.inr (Or.inr (Or.inr (Or.inl ⟨by omega, by omega, sumM_R zS (by first | exact Or.inl ⟨by omega, by omega⟩ | exact Or.inr ⟨by omega, Or.inl ⟨by omega, by omega⟩⟩ | exact Or.inr ⟨by omega, Or.inr ⟨by omega, by omega, by omega⟩⟩), by first | omega | exact cw9, by omega⟩))))) | exact ⟨_, _, _, Or.inl ⟨by omega, fillM_R zF (by first | exact Or.inl ⟨by omega, by omega⟩ | exact Or.inr ⟨by omega, Or.inl ⟨by omega, by omega⟩⟩ | exact Or.inr ⟨by omega, Or.inr ⟨by omega, by omega, by omega⟩⟩), rfl, rfl⟩⟩ | exact ⟨_, _, _, Or.inr (Or.inr (Or.inl ⟨by omega, by omega, cutM_R zC (by first | exact Or.inl ⟨by omega, by omega⟩ | exact Or.inr ⟨by omega, Or.inl ⟨by omega, by omega⟩⟩ | exact Or.inr ⟨by omega, Or.inr ⟨by omega, by omega, by omega⟩⟩), rfl, rfl⟩))⟩ | exact ⟨_, _, _, Or.inr (Or.inr (Or.inr (Or.inl ⟨by omega, by omega, fmE_R zW (by first | exact Or.inl ⟨by omega, by omega⟩ | exact Or.inr ⟨by omega, Or.inl ⟨by omega, by omega⟩⟩ | exact Or.inr ⟨by omega, Or.inr ⟨by omega, by omega, by omega⟩⟩), rfl⟩)))⟩ | exact ⟨_, _, _, Or.inr (Or.inr (Or.inr (Or.inr (Or.inl ⟨by omega, by omega, joinM_R zJ (by first | exact Or.inl ⟨by omega, by omega⟩ | exact Or.inr ⟨by omega, Or.inl ⟨by omega, by omega⟩⟩ | exact Or.inr ⟨by omega, Or.inr ⟨by omega, by omega, by omega⟩⟩), fun q => absurd q (by omega), rfl⟩))))⟩ | exact ⟨_, _, _, Or.inr (Or.inr (Or.inr (Or.inr (Or.inr (Or.inl ⟨by omega, by omega, sumM_R zS (by first | exact Or.inl ⟨by omega, by omega⟩ | exact Or.inr ⟨by omega, Or.inl ⟨by omega, by omega⟩⟩ | exact Or.inr ⟨by omega, Or.inr ⟨by omega, by omega, by omega⟩⟩), rfl, rfl⟩)))))⟩ | exact ⟨0, 0, 0, Or.inr (Or.inl ⟨by omega, by omega, by omega⟩)⟩ | exact ⟨0, 0, 0, Or.inr (Or.inr (Or.inr (Or.inr (Or.inr (Or.inr (⟨by omega, by omega, by omega, by omega, by omega, by omega⟩))))))⟩ | omega) (by first | exact Ko_h62 | omega | exact Or.inl ⟨by omega, fillM_R zF (by first | exact Or.inl ⟨by omega, by omega⟩ | exact Or.inr ⟨by omega, Or.inl ⟨by omega, by omega⟩⟩ | exact Or.inr ⟨by omega, Or.inr ⟨by omega, by omega, by omega⟩⟩), by omega, by omega⟩ | exact Or.inr (Or.inr (Or.inl ⟨by omega, by omega, cutM_R zC (by first | exact Or.inl ⟨by omega, by omega⟩ | exact Or.inr ⟨by omega, Or.inl ⟨by omega, by omega⟩⟩ | exact Or.inr ⟨by omega, Or.inr ⟨by omega, by omega, by omega⟩⟩), by first | omega | exact cw9, by omega⟩)) | exact Or.inr (Or.inr (Or.inr (Or.inl ⟨by omega, by omega, by first | (rw [cw9]; exact fmE_R zW (by first | exact Or.inl ⟨by omega, by omega⟩ | exact Or.inr ⟨by omega, Or.inl ⟨by omega, by omega⟩⟩ | exact Or.inr ⟨by omega, Or.inr ⟨by omega, by omega, by omega⟩⟩)) | exact fmE_R zW (by first | exact Or.inl ⟨by omega, by omega⟩ | exact Or.inr ⟨by omega, Or.inl ⟨by omega, by omega⟩⟩ | exact Or.inr ⟨by omega, Or.inr ⟨by omega, by omega, by omega⟩⟩), by omega⟩))) | exact Or.inr (Or.inr (Or.inr (Or.inr (Or.inl ⟨by omega, by omega, joinM_R zJ (by first | exact Or.inl ⟨by omega, by omega⟩ | exact Or.inr ⟨by omega, Or.inl ⟨by omega, by omega⟩⟩ | exact Or.inr ⟨by omega, Or.inr ⟨by omega, by omega, by omega⟩⟩), fun _ => by omega, by omega⟩)))) | exact Or.inr (Or.inr (Or.inr (Or.inr (Or.inr (Or.inl ⟨by omega, by omega, sumM_R zS (by first | exact Or.inl ⟨by omega, by omega⟩ | exact Or.inr ⟨by omega, Or.inl ⟨by omega, by omega⟩⟩ | exact Or.inr ⟨by omega, Or.inr ⟨by omega, by omega, by omega⟩⟩), by first | omega | exact cw9, by omega⟩))))) | exact ⟨_, _, _, Or.inl ⟨by omega, fillM_R zF (by first | exact Or.inl ⟨by omega, by omega⟩ | exact Or.inr ⟨by omega, Or.inl ⟨by omega, by omega⟩⟩ | exact Or.inr ⟨by omega, Or.inr ⟨by omega, by omega, by omega⟩⟩), rfl, rfl⟩⟩ | exact ⟨_, _, _, Or.inr (Or.inr (Or.inl ⟨by omega, by omega, cutM_R zC (by first | exact Or.inl ⟨by omega, by omega⟩ | exact Or.inr ⟨by omega, Or.inl ⟨by omega, by omega⟩⟩ | exact Or.inr ⟨by omega, Or.inr ⟨by omega, by omega, by omega⟩⟩), rfl, rfl⟩))⟩ | exact ⟨_, _, _, Or.inr (Or.inr (Or.inr (Or.inl ⟨by omega, by omega, fmE_R zW (by first | exact Or.inl ⟨by omega, by omega⟩ | exact Or.inr ⟨by omega, Or.inl ⟨by omega, by omega⟩⟩ | exact Or.inr ⟨by omega, Or.inr ⟨by omega, by omega, by omega⟩⟩), rfl⟩)))⟩ | exact ⟨_, _, _, Or.inr (Or.inr (Or.inr (Or.inr (Or.inl ⟨by omega, by omega, joinM_R zJ (by first | exact Or.inl ⟨by omega, by omega⟩ | exact Or.inr ⟨by omega, Or.inl ⟨by omega, by omega⟩⟩ | exact Or.inr ⟨by omega, Or.inr ⟨by omega, by omega, by omega⟩⟩), fun q => absurd q (by omega), rfl⟩))))⟩ | exact ⟨_, _, _, Or.inr (Or.inr (Or.inr (Or.inr (Or.inr (Or.inl ⟨by omega, by omega, sumM_R zS (by first | exact Or.inl ⟨by omega, by omega⟩ | exact Or.inr ⟨by omega, Or.inl ⟨by omega, by omega⟩⟩ | exact Or.inr ⟨by omega, Or.inr ⟨by omega, by omega, by omega⟩⟩), rfl, rfl⟩)))))⟩ | exact ⟨0, 0, 0, Or.inr (Or.inl ⟨by omega, by omega, by omega⟩)⟩ | exact ⟨0, 0, 0, Or.inr (Or.inr (Or.inr (Or.inr (Or.inr (Or.inr (⟨by omega, by omega, by omega, by omega, by omega, by omega⟩))))))⟩ | omega) (by first | exact Ko_h62 | omega | exact Or.inl ⟨by omega, fillM_R zF (by first | exact Or.inl ⟨by omega, by omega⟩ | exact Or.inr ⟨by omega, Or.inl ⟨by omega, by omega⟩⟩ | exact Or.inr ⟨by omega, Or.inr ⟨by omega, by omega, by omega⟩⟩), by omega, by omega⟩ | exact Or.inr (Or.inr (Or.inl ⟨by omega, by omega, cutM_R zC (by first | exact Or.inl ⟨by omega, by omega⟩ | exact Or.inr ⟨by omega, Or.inl ⟨by omega, by omega⟩⟩ | exact Or.inr ⟨by omega, Or.inr ⟨by omega, by omega, by omega⟩⟩), by first | omega | exact cw9, by omega⟩)) | exact Or.inr (Or.inr (Or.inr (Or.inl ⟨by omega, by omega, by first | (rw [cw9]; exact fmE_R zW (by first | exact Or.inl ⟨by omega, by omega⟩ | exact Or.inr ⟨by omega, Or.inl ⟨by omega, by omega⟩⟩ | exact Or.inr ⟨by omega, Or.inr ⟨by omega, by omega, by omega⟩⟩)) | exact fmE_R zW (by first | exact Or.inl ⟨by omega, by omega⟩ | exact Or.inr ⟨by omega, Or.inl ⟨by omega, by omega⟩⟩ | exact Or.inr ⟨by omega, Or.inr ⟨by omega, by omega, by omega⟩⟩), by omega⟩))) | exact Or.inr (Or.inr (Or.inr (Or.inr (Or.inl ⟨by omega, by omega, joinM_R zJ (by first | exact Or.inl ⟨by omega, by omega⟩ | exact Or.inr ⟨by omega, Or.inl ⟨by omega, by omega⟩⟩ | exact Or.inr ⟨by omega, Or.inr ⟨by omega, by omega, by omega⟩⟩), fun _ => by omega, by omega⟩)))) | exact Or.inr (Or.inr (Or.inr (Or.inr (Or.inr (Or.inl ⟨by omega, by omega, sumM_R zS (by first | exact Or.inl ⟨by omega, by omega⟩ | exact Or.inr ⟨by omega, Or.inl ⟨by omega, by omega⟩⟩ | exact Or.inr ⟨by omega, Or.inr ⟨by omega, by omega, by omega⟩⟩), by first | omega | exact cw9, by omega⟩))))) | exact ⟨_, _, _, Or.inl ⟨by omega, fillM_R zF (by first | exact Or.inl ⟨by omega, by omega⟩ | exact Or.inr ⟨by omega, Or.inl ⟨by omega, by omega⟩⟩ | exact Or.inr ⟨by omega, Or.inr ⟨by omega, by omega, by omega⟩⟩), rfl, rfl⟩⟩ | exact ⟨_, _, _, Or.inr (Or.inr (Or.inl ⟨by omega, by omega, cutM_R zC (by first | exact Or.inl ⟨by omega, by omega⟩ | exact Or.inr ⟨by omega, Or.inl ⟨by omega, by omega⟩⟩ | exact Or.inr ⟨by omega, Or.inr ⟨by omega, by omega, by omega⟩⟩), rfl, rfl⟩))⟩ | exact ⟨_, _, _, Or.inr (Or.inr (Or.inr (Or.inl ⟨by omega, by omega, fmE_R zW (by first | exact Or.inl ⟨by omega, by omega⟩ | exact Or.inr ⟨by omega, Or.inl ⟨by omega, by omega⟩⟩ | exact Or.inr ⟨by omega, Or.inr ⟨by omega, by omega, by omega⟩⟩), rfl⟩)))⟩ | exact ⟨_, _, _, Or.inr (Or.inr (Or.inr (Or.inr (Or.inl ⟨by omega, by omega, joinM_R zJ (by first | exact Or.inl ⟨by omega, by omega⟩ | exact Or.inr ⟨by omega, Or.inl ⟨by omega, by omega⟩⟩ | exact Or.inr ⟨by omega, Or.inr ⟨by omega, by omega, by omega⟩⟩), fun q => absurd q (by omega), rfl⟩))))⟩ | exact ⟨_, _, _, Or.inr (Or.inr (Or.inr (Or.inr (Or.inr (Or.inl ⟨by omega, by omega, sumM_R zS (by first | exact Or.inl ⟨by omega, by omega⟩ | exact Or.inr ⟨by omega, Or.inl ⟨by omega, by omega⟩⟩ | exact Or.inr ⟨by omega, Or.inr ⟨by omega, by omega, by omega⟩⟩), rfl, rfl⟩)))))⟩ | exact ⟨0, 0, 0, Or.inr (Or.inl ⟨by omega, by omega, by omega⟩)⟩ | exact ⟨0, 0, 0, Or.inr (Or.inr (Or.inr (Or.inr (Or.inr (Or.inr (⟨by omega, by omega, by omega, by omega, by omega, by omega⟩))))))⟩ | omega) Tok_h62t70 Mq_h62 Wrd_h62 Wd9_h62)
              ·
                have gh26 : my_fr [(10, 7), (10, 8), (10, 27), (66, -1), (67, -1), (68, -1), (69, -1), (70, -1), (71, -1), (72, -1), (73, -1), (74, -1), (75, -1), (77, -1), (78, -1), (79, -1)] h h26 := my_fr.tr gh6 (frh26.mo rfl)
                have Mq_h26 : Mq h26 wv := Mq_ag (my_ag.fr frh26 rfl) Mq_h6
                have Wrd_h26 : Wrd h26 := Wrd_ag (my_ag.fr frh26 rfl) Wrd_h6
                have Wd9_h26 : Wd9 h26 := Wd9_ag (my_ag.fr frh26 rfl) Wd9_h6
                have Ko_h26 : Ko h h26 := Ko_ag (my_ag.fr frh26 rfl) Ko_h6
                show wp l rho (d + 4) 185 186 [(2, 151), (0, p88_0), (0, p88_1), (0, p88_2), (0, p88_3), (0, (36 + v10)), (9, 0), (9, 0)] [(0, v27)] h26 Q
                have ps76 : h6 151 7 = (sN (sm h) (h 151 7)) := ps7
                rw [ps76] at xp35
                rw [ps76] at xp36
                rw [ps76] at xp37
                have tE77 : sm h6 = sm h := sm_eq (fun j => my_fr.at gh6 is_153 rfl) (fun j => my_fr.at gh6 is_154 rfl) (fun j => my_fr.at gh6 is_155 rfl)
                rw [tE77] at xp38
                rw [ps76] at xp38
                rw [tE77] at xp39
                rw [ps76] at xp39
                rw [tE77] at xp40
                rw [ps76] at xp40
                refine w_istore (ls' := [(2, 151), (0, p88_0), (0, p88_1), (0, p88_2), (0, p88_3), (0, (36 + v10)), (0, v27), (9, 0)]) gz_185_186 gm_185 rfl rfl rfl ?_
                refine w_aload_n gz_185_188 rfl ?_
                refine w_bipush gz_185_189 (by decide) ?_
                have ce78 : h26 151 7 = (h26 151 7) := (rfl : h26 151 7 = h26 151 7)
                have ce79 : h26 151 27 = k151_27 := ((my_fr.at frh26 is_151 rfl).trans ((my_up_fld fh6 (by decide)).trans c151_27_88_0))
                refine w_inv (k := 0) (as := [(0, 19)]) (r := []) (x := 151) (ls0 := [(2, 151), (0, 19)]) gz_185_191 gm_187 rfl is_151 rd_10 rfl rfl rfl rfl rfl (c_Model_takeNumber9_f0 (d := (d + 2)) (x1 := 19) (by omega) (by omega) (w32.trans (by omega)) Tok_h26t41 (fun h80 frh80 w81 w82 xp83 xp84 Tok_h80t85 => ?_) (fun h86 v87 frh86 w88 w89 w90 w91 w92 xp93 xp94 xp95 xp96 xp97 xp98 xp99 xp100 Tok_h86t101 => ?_))
                ·
                  have gh80 : my_fr [(10, 7), (10, 8), (10, 27), (66, -1), (67, -1), (68, -1), (69, -1), (70, -1), (71, -1), (72, -1), (73, -1), (74, -1), (75, -1), (77, -1), (78, -1), (79, -1)] h h80 := my_fr.tr gh26 (frh80.mo rfl)
                  have Mq_h80 : Mq h80 wv := Mq_ag (my_ag.fr frh80 rfl) Mq_h26
                  have Wrd_h80 : Wrd h80 := Wrd_ag (my_ag.fr frh80 rfl) Wrd_h26
                  have Wd9_h80 : Wd9 h80 := Wd9_ag (my_ag.fr frh80 rfl) Wd9_h26
                  have Ko_h80 : Ko h h80 := Ko_ag (my_ag.fr frh80 rfl) Ko_h26
                  show wp l rho (d + 4) 185 194 [(2, 151), (0, p88_0), (0, p88_1), (0, p88_2), (0, p88_3), (0, (36 + v10)), (0, v27), (9, 0)] [(0, 0)] h80 Q
                  have ps102 : h26 151 7 = (sN (sm h) (((sN (sm h) (h 151 7))))) := xp38
                  rw [ps102] at xp83
                  have tE103 : sm h26 = sm h := sm_eq (fun j => my_fr.at gh26 is_153 rfl) (fun j => my_fr.at gh26 is_154 rfl) (fun j => my_fr.at gh26 is_155 rfl)
                  rw [tE103] at xp84
                  rw [ps102] at xp84
                  refine w_istore (ls' := [(2, 151), (0, p88_0), (0, p88_1), (0, p88_2), (0, p88_3), (0, (36 + v10)), (0, v27), (0, 0)]) gz_185_194 gm_185 rfl rfl rfl ?_
                  have ce104 : h80 151 8 = (h80 151 8) := (rfl : h80 151 8 = h80 151 8)
                  have zF : fillM (sm h) (sN (sm h) (h 151 7)) (h 157 (h 151 33)) (h80 151 8) (h80 151 7) := by (unfold fillM; first | exact Or.inr (Or.inr ⟨by omega, by omega, Or.inr (Or.inr ⟨by omega, by omega, ⟨by omega, by omega⟩⟩)⟩) | exact Or.inr (Or.inr ⟨by omega, by omega, Or.inr (Or.inl ⟨by omega, by omega, by omega⟩)⟩) | exact Or.inr (Or.inr ⟨by omega, by omega, Or.inl ⟨by omega, by omega⟩⟩) | exact Or.inr (Or.inl ⟨by omega, by omega, by omega⟩) | exact Or.inl ⟨by omega, by omega⟩)
                  refine w_aload_n gz_185_196 rfl ?_
                  refine w_getX (v := 173) gz_185_197 is_151 rd_10 rfl (by decide) rfl ?_
                  refine w_bipush gz_185_200 (by decide) ?_
                  refine w_iload gz_185_202 rfl ?_
                  refine w_iadd gz_185_204 ⟨by omega, by omega⟩ ?_
                  refine w_aload_n gz_185_205 rfl ?_
                  refine v_getI (j := 8) gz_185_206 rfl is_151 rd_10 rfl (fun v106 ev106 pv106 qv106 => ?_)
                  have zv106 := ev106.trans (rfl : h80 151 8 = h80 151 8)
                  refine w_ifne (t := 217) gz_185_209 rfl (fun u107 => ?_) (fun u107 => by exfalso; omega)
                  refine w_aload_n gz_185_217 rfl ?_
                  refine w_getX (v := 173) gz_185_218 is_151 rd_10 rfl (by decide) rfl ?_
                  refine w_bipush gz_185_221 (by decide) ?_
                  refine w_iload gz_185_223 rfl ?_
                  refine w_iadd gz_185_225 ⟨by omega, by omega⟩ ?_
                  have hi109 : 0 ≤ (24 + v27) := by omega
                  have hi110 : (24 + v27) ≤ 27 := by omega
                  refine w_iald gz_185_226 is_173 rd_72 (by omega) (by omega) (fun v111 ev111 pv111 qv111 => ?_)
                  have hi112 : (-1) ≤ v111 := by omega
                  have hi113 : v111 ≤ 19 := by omega
                  have hi114 : 0 ≤ (24 + v27) := by omega
                  have hi115 : (24 + v27) ≤ 27 := by omega
                  refine w_iast gz_185_227 is_173 rd_72 (by omega) (by omega) (by omega) (by omega) (fun h116 fh116 => ?_)
                  have gh116 : my_fr [(10, 7), (10, 8), (10, 27), (66, -1), (67, -1), (68, -1), (69, -1), (70, -1), (71, -1), (72, -1), (73, -1), (74, -1), (75, -1), (77, -1), (78, -1), (79, -1)] h h116 := my_fr.up gh80 is_173 fh116 rfl
                  have Mq_h116 : Mq h116 wv := Mq_ag (my_ag.up fh116 is_173 rfl) Mq_h80
                  have Wrd_h116 : Wrd h116 := Wrd_ag (my_ag.up fh116 is_173 rfl) Wrd_h80
                  have Wd9_h116 : Wd9 h116 := Wd9_ag (my_ag.up fh116 is_173 rfl) Wd9_h80
                  have Ko_h116 : Ko h h116 := Ko_ag (my_ag.up fh116 is_173 rfl) Ko_h80
                  have Tok_h116 : Tok h116 := Tok_ag (my_ag.up fh116 is_173 rfl) Tok_h80t85
                  refine w_aload_n gz_185_228 rfl ?_
                  refine v_getI (j := 8) gz_185_229 rfl is_151 rd_10 rfl (fun v117 ev117 pv117 qv117 => ?_)
                  have zv117 := ev117.trans ((my_up_role fh116 is_151 is_173 rfl).trans ev106.symm)
                  refine w_ifne (t := 269) gz_185_232 rfl (fun u118 => ?_) (fun u118 => by exfalso; omega)
                  refine w_aload_n gz_185_269 rfl ?_
                  refine w_bipush gz_185_270 (by decide) ?_
                  have ce119 : h116 151 7 = h80 151 7 := ((my_up_role fh116 is_151 is_173 rfl).trans (rfl : h80 151 7 = h80 151 7))
                  refine w_inv (k := 0) (as := [(0, 59)]) (r := []) (x := 151) (ls0 := [(2, 151), (0, 59)]) gz_185_272 gm_183 rfl is_151 rd_10 rfl rfl rfl rfl rfl (c_Model_takeSign9_f1 (d := (d + 2))  (v117) (ev117.symm) (by omega) (by omega) Tok_h116 (fun w120 w121 xp122 xp123 Tok_h116t124 => ?_))
                  show wp l rho (d + 4) 185 275 [(2, 151), (0, p88_0), (0, p88_1), (0, p88_2), (0, p88_3), (0, (36 + v10)), (0, v27), (0, 0)] [] h116 Q
                  have ps125 : h116 151 7 = (((sN (sm h) (((sN (sm h) (h 151 7))))))) := ((my_up_role fh116 is_151 is_173 rfl).trans xp83)
                  rw [ps125] at xp122
                  rw [ps125] at xp123
                  have psR : h116 151 7 = (((sN (sm h) (((sN (sm h) (h 151 7))))))) := ((my_up_role fh116 is_151 is_173 rfl).trans xp83)
                  have npsR : sm h116 = sm h := sm_eq (fun j => my_fr.at gh116 is_153 rfl) (fun j => my_fr.at gh116 is_154 rfl) (fun j => my_fr.at gh116 is_155 rfl)
                  have ce126 : h116 151 7 = h80 151 7 := ((my_up_role fh116 is_151 is_173 rfl).trans (rfl : h80 151 7 = h80 151 7))
                  have ce127 : h116 151 8 = v117 := ev117.symm
                  have ce128 : h116 151 27 = k151_27 := ((my_up_role fh116 is_151 is_173 rfl).trans ((my_fr.at frh80 is_151 rfl).trans ((my_fr.at frh26 is_151 rfl).trans ((my_up_fld fh6 (by decide)).trans c151_27_88_0))))
                  have r167 : ∀ j : Int, h116 167 j = h88_0 167 j := fun j => ((my_up_role fh116 is_167 is_173 rfl).trans ((my_fr.at frh80 is_167 rfl).trans ((my_fr.at frh26 is_167 rfl).trans ((my_up_role fh6 is_167 is_151 rfl).trans (rfl : h88_0 167 j = h88_0 167 j)))))
                  have r6 := r167 6
                  have c129 := ev117.symm
                  exact w_vret gz_185_275 gm_185 (k0 h116 (gh116) (by omega) (by omega) (by first | exact Ko_h116 | omega | exact Or.inl ⟨by omega, fillM_R zF (by first | exact Or.inl ⟨by omega, by omega⟩ | exact Or.inr ⟨by omega, Or.inl ⟨by omega, by omega⟩⟩ | exact Or.inr ⟨by omega, Or.inr ⟨by omega, by omega, by omega⟩⟩), by omega, by omega⟩ | exact Or.inr (Or.inr (Or.inl ⟨by omega, by omega, cutM_R zC (by first | exact Or.inl ⟨by omega, by omega⟩ | exact Or.inr ⟨by omega, Or.inl ⟨by omega, by omega⟩⟩ | exact Or.inr ⟨by omega, Or.inr ⟨by omega, by omega, by omega⟩⟩), by first | omega | exact cw9, by omega⟩)) | exact Or.inr (Or.inr (Or.inr (Or.inl ⟨by omega, by omega, by first | (rw [cw9]; exact fmE_R zW (by first | exact Or.inl ⟨by omega, by omega⟩ | exact Or.inr ⟨by omega, Or.inl ⟨by omega, by omega⟩⟩ | exact Or.inr ⟨by omega, Or.inr ⟨by omega, by omega, by omega⟩⟩)) | exact fmE_R zW (by first | exact Or.inl ⟨by omega, by omega⟩ | exact Or.inr ⟨by omega, Or.inl ⟨by omega, by omega⟩⟩ | exact Or.inr ⟨by omega, Or.inr ⟨by omega, by omega, by omega⟩⟩), by omega⟩))) | exact Or.inr (Or.inr (Or.inr (Or.inr (Or.inl ⟨by omega, by omega, joinM_R zJ (by first | exact Or.inl ⟨by omega, by omega⟩ | exact Or.inr ⟨by omega, Or.inl ⟨by omega, by omega⟩⟩ | exact Or.inr ⟨by omega, Or.inr ⟨by omega, by omega, by omega⟩⟩), fun _ => by omega, by omega⟩)))) | exact Or.inr (Or.inr (Or.inr (Or.inr (Or.inr (Or.inl ⟨by omega, by omega, sumM_R zS (by first | exact Or.inl ⟨by omega, by omega⟩ | exact Or.inr ⟨by omega, Or.inl ⟨by omega, by omega⟩⟩ | exact Or.inr ⟨by omega, Or.inr ⟨by omega, by omega, by omega⟩⟩), by first | omega | exact cw9, by omega⟩))))) | exact ⟨_, _, _, Or.inl ⟨by omega, fillM_R zF (by first | exact Or.inl ⟨by omega, by omega⟩ | exact Or.inr ⟨by omega, Or.inl ⟨by omega, by omega⟩⟩ | exact Or.inr ⟨by omega, Or.inr ⟨by omega, by omega, by omega⟩⟩), rfl, rfl⟩⟩ | exact ⟨_, _, _, Or.inr (Or.inr (Or.inl ⟨by omega, by omega, cutM_R zC (by first | exact Or.inl ⟨by omega, by omega⟩ | exact Or.inr ⟨by omega, Or.inl ⟨by omega, by omega⟩⟩ | exact Or.inr ⟨by omega, Or.inr ⟨by omega, by omega, by omega⟩⟩), rfl, rfl⟩))⟩ | exact ⟨_, _, _, Or.inr (Or.inr (Or.inr (Or.inl ⟨by omega, by omega, fmE_R zW (by first | exact Or.inl ⟨by omega, by omega⟩ | exact Or.inr ⟨by omega, Or.inl ⟨by omega, by omega⟩⟩ | exact Or.inr ⟨by omega, Or.inr ⟨by omega, by omega, by omega⟩⟩), rfl⟩)))⟩ | exact ⟨_, _, _, Or.inr (Or.inr (Or.inr (Or.inr (Or.inl ⟨by omega, by omega, joinM_R zJ (by first | exact Or.inl ⟨by omega, by omega⟩ | exact Or.inr ⟨by omega, Or.inl ⟨by omega, by omega⟩⟩ | exact Or.inr ⟨by omega, Or.inr ⟨by omega, by omega, by omega⟩⟩), fun q => absurd q (by omega), rfl⟩))))⟩ | exact ⟨_, _, _, Or.inr (Or.inr (Or.inr (Or.inr (Or.inr (Or.inl ⟨by omega, by omega, sumM_R zS (by first | exact Or.inl ⟨by omega, by omega⟩ | exact Or.inr ⟨by omega, Or.inl ⟨by omega, by omega⟩⟩ | exact Or.inr ⟨by omega, Or.inr ⟨by omega, by omega, by omega⟩⟩), rfl, rfl⟩)))))⟩ | exact ⟨0, 0, 0, Or.inr (Or.inl ⟨by omega, by omega, by omega⟩)⟩ | exact ⟨0, 0, 0, Or.inr (Or.inr (Or.inr (Or.inr (Or.inr (Or.inr (⟨by omega, by omega, by omega, by omega, by omega, by omega⟩))))))⟩ | omega) (by first | exact Ko_h116 | omega | exact Or.inl ⟨by omega, fillM_R zF (by first | exact Or.inl ⟨by omega, by omega⟩ | exact Or.inr ⟨by omega, Or.inl ⟨by omega, by omega⟩⟩ | exact Or.inr ⟨by omega, Or.inr ⟨by omega, by omega, by omega⟩⟩), by omega, by omega⟩ | exact Or.inr (Or.inr (Or.inl ⟨by omega, by omega, cutM_R zC (by first | exact Or.inl ⟨by omega, by omega⟩ | exact Or.inr ⟨by omega, Or.inl ⟨by omega, by omega⟩⟩ | exact Or.inr ⟨by omega, Or.inr ⟨by omega, by omega, by omega⟩⟩), by first | omega | exact cw9, by omega⟩)) | exact Or.inr (Or.inr (Or.inr (Or.inl ⟨by omega, by omega, by first | (rw [cw9]; exact fmE_R zW (by first | exact Or.inl ⟨by omega, by omega⟩ | exact Or.inr ⟨by omega, Or.inl ⟨by omega, by omega⟩⟩ | exact Or.inr ⟨by omega, Or.inr ⟨by omega, by omega, by omega⟩⟩)) | exact fmE_R zW (by first | exact Or.inl ⟨by omega, by omega⟩ | exact Or.inr ⟨by omega, Or.inl ⟨by omega, by omega⟩⟩ | exact Or.inr ⟨by omega, Or.inr ⟨by omega, by omega, by omega⟩⟩), by omega⟩))) | exact Or.inr (Or.inr (Or.inr (Or.inr (Or.inl ⟨by omega, by omega, joinM_R zJ (by first | exact Or.inl ⟨by omega, by omega⟩ | exact Or.inr ⟨by omega, Or.inl ⟨by omega, by omega⟩⟩ | exact Or.inr ⟨by omega, Or.inr ⟨by omega, by omega, by omega⟩⟩), fun _ => by omega, by omega⟩)))) | exact Or.inr (Or.inr (Or.inr (Or.inr (Or.inr (Or.inl ⟨by omega, by omega, sumM_R zS (by first | exact Or.inl ⟨by omega, by omega⟩ | exact Or.inr ⟨by omega, Or.inl ⟨by omega, by omega⟩⟩ | exact Or.inr ⟨by omega, Or.inr ⟨by omega, by omega, by omega⟩⟩), by first | omega | exact cw9, by omega⟩))))) | exact ⟨_, _, _, Or.inl ⟨by omega, fillM_R zF (by first | exact Or.inl ⟨by omega, by omega⟩ | exact Or.inr ⟨by omega, Or.inl ⟨by omega, by omega⟩⟩ | exact Or.inr ⟨by omega, Or.inr ⟨by omega, by omega, by omega⟩⟩), rfl, rfl⟩⟩ | exact ⟨_, _, _, Or.inr (Or.inr (Or.inl ⟨by omega, by omega, cutM_R zC (by first | exact Or.inl ⟨by omega, by omega⟩ | exact Or.inr ⟨by omega, Or.inl ⟨by omega, by omega⟩⟩ | exact Or.inr ⟨by omega, Or.inr ⟨by omega, by omega, by omega⟩⟩), rfl, rfl⟩))⟩ | exact ⟨_, _, _, Or.inr (Or.inr (Or.inr (Or.inl ⟨by omega, by omega, fmE_R zW (by first | exact Or.inl ⟨by omega, by omega⟩ | exact Or.inr ⟨by omega, Or.inl ⟨by omega, by omega⟩⟩ | exact Or.inr ⟨by omega, Or.inr ⟨by omega, by omega, by omega⟩⟩), rfl⟩)))⟩ | exact ⟨_, _, _, Or.inr (Or.inr (Or.inr (Or.inr (Or.inl ⟨by omega, by omega, joinM_R zJ (by first | exact Or.inl ⟨by omega, by omega⟩ | exact Or.inr ⟨by omega, Or.inl ⟨by omega, by omega⟩⟩ | exact Or.inr ⟨by omega, Or.inr ⟨by omega, by omega, by omega⟩⟩), fun q => absurd q (by omega), rfl⟩))))⟩ | exact ⟨_, _, _, Or.inr (Or.inr (Or.inr (Or.inr (Or.inr (Or.inl ⟨by omega, by omega, sumM_R zS (by first | exact Or.inl ⟨by omega, by omega⟩ | exact Or.inr ⟨by omega, Or.inl ⟨by omega, by omega⟩⟩ | exact Or.inr ⟨by omega, Or.inr ⟨by omega, by omega, by omega⟩⟩), rfl, rfl⟩)))))⟩ | exact ⟨0, 0, 0, Or.inr (Or.inl ⟨by omega, by omega, by omega⟩)⟩ | exact ⟨0, 0, 0, Or.inr (Or.inr (Or.inr (Or.inr (Or.inr (Or.inr (⟨by omega, by omega, by omega, by omega, by omega, by omega⟩))))))⟩ | omega) (by first | exact Ko_h116 | omega | exact Or.inl ⟨by omega, fillM_R zF (by first | exact Or.inl ⟨by omega, by omega⟩ | exact Or.inr ⟨by omega, Or.inl ⟨by omega, by omega⟩⟩ | exact Or.inr ⟨by omega, Or.inr ⟨by omega, by omega, by omega⟩⟩), by omega, by omega⟩ | exact Or.inr (Or.inr (Or.inl ⟨by omega, by omega, cutM_R zC (by first | exact Or.inl ⟨by omega, by omega⟩ | exact Or.inr ⟨by omega, Or.inl ⟨by omega, by omega⟩⟩ | exact Or.inr ⟨by omega, Or.inr ⟨by omega, by omega, by omega⟩⟩), by first | omega | exact cw9, by omega⟩)) | exact Or.inr (Or.inr (Or.inr (Or.inl ⟨by omega, by omega, by first | (rw [cw9]; exact fmE_R zW (by first | exact Or.inl ⟨by omega, by omega⟩ | exact Or.inr ⟨by omega, Or.inl ⟨by omega, by omega⟩⟩ | exact Or.inr ⟨by omega, Or.inr ⟨by omega, by omega, by omega⟩⟩)) | exact fmE_R zW (by first | exact Or.inl ⟨by omega, by omega⟩ | exact Or.inr ⟨by omega, Or.inl ⟨by omega, by omega⟩⟩ | exact Or.inr ⟨by omega, Or.inr ⟨by omega, by omega, by omega⟩⟩), by omega⟩))) | exact Or.inr (Or.inr (Or.inr (Or.inr (Or.inl ⟨by omega, by omega, joinM_R zJ (by first | exact Or.inl ⟨by omega, by omega⟩ | exact Or.inr ⟨by omega, Or.inl ⟨by omega, by omega⟩⟩ | exact Or.inr ⟨by omega, Or.inr ⟨by omega, by omega, by omega⟩⟩), fun _ => by omega, by omega⟩)))) | exact Or.inr (Or.inr (Or.inr (Or.inr (Or.inr (Or.inl ⟨by omega, by omega, sumM_R zS (by first | exact Or.inl ⟨by omega, by omega⟩ | exact Or.inr ⟨by omega, Or.inl ⟨by omega, by omega⟩⟩ | exact Or.inr ⟨by omega, Or.inr ⟨by omega, by omega, by omega⟩⟩), by first | omega | exact cw9, by omega⟩))))) | exact ⟨_, _, _, Or.inl ⟨by omega, fillM_R zF (by first | exact Or.inl ⟨by omega, by omega⟩ | exact Or.inr ⟨by omega, Or.inl ⟨by omega, by omega⟩⟩ | exact Or.inr ⟨by omega, Or.inr ⟨by omega, by omega, by omega⟩⟩), rfl, rfl⟩⟩ | exact ⟨_, _, _, Or.inr (Or.inr (Or.inl ⟨by omega, by omega, cutM_R zC (by first | exact Or.inl ⟨by omega, by omega⟩ | exact Or.inr ⟨by omega, Or.inl ⟨by omega, by omega⟩⟩ | exact Or.inr ⟨by omega, Or.inr ⟨by omega, by omega, by omega⟩⟩), rfl, rfl⟩))⟩ | exact ⟨_, _, _, Or.inr (Or.inr (Or.inr (Or.inl ⟨by omega, by omega, fmE_R zW (by first | exact Or.inl ⟨by omega, by omega⟩ | exact Or.inr ⟨by omega, Or.inl ⟨by omega, by omega⟩⟩ | exact Or.inr ⟨by omega, Or.inr ⟨by omega, by omega, by omega⟩⟩), rfl⟩)))⟩ | exact ⟨_, _, _, Or.inr (Or.inr (Or.inr (Or.inr (Or.inl ⟨by omega, by omega, joinM_R zJ (by first | exact Or.inl ⟨by omega, by omega⟩ | exact Or.inr ⟨by omega, Or.inl ⟨by omega, by omega⟩⟩ | exact Or.inr ⟨by omega, Or.inr ⟨by omega, by omega, by omega⟩⟩), fun q => absurd q (by omega), rfl⟩))))⟩ | exact ⟨_, _, _, Or.inr (Or.inr (Or.inr (Or.inr (Or.inr (Or.inl ⟨by omega, by omega, sumM_R zS (by first | exact Or.inl ⟨by omega, by omega⟩ | exact Or.inr ⟨by omega, Or.inl ⟨by omega, by omega⟩⟩ | exact Or.inr ⟨by omega, Or.inr ⟨by omega, by omega, by omega⟩⟩), rfl, rfl⟩)))))⟩ | exact ⟨0, 0, 0, Or.inr (Or.inl ⟨by omega, by omega, by omega⟩)⟩ | exact ⟨0, 0, 0, Or.inr (Or.inr (Or.inr (Or.inr (Or.inr (Or.inr (⟨by omega, by omega, by omega, by omega, by omega, by omega⟩))))))⟩ | omega) Tok_h116t124 Mq_h116 Wrd_h116 Wd9_h116)
                ·
                  have gh86 : my_fr [(10, 7), (10, 8), (10, 27), (66, -1), (67, -1), (68, -1), (69, -1), (70, -1), (71, -1), (72, -1), (73, -1), (74, -1), (75, -1), (77, -1), (78, -1), (79, -1)] h h86 := my_fr.tr gh26 (frh86.mo rfl)
                  have Mq_h86 : Mq h86 wv := Mq_ag (my_ag.fr frh86 rfl) Mq_h26
                  have Wrd_h86 : Wrd h86 := Wrd_ag (my_ag.fr frh86 rfl) Wrd_h26
                  have Wd9_h86 : Wd9 h86 := Wd9_ag (my_ag.fr frh86 rfl) Wd9_h26
                  have Ko_h86 : Ko h h86 := Ko_ag (my_ag.fr frh86 rfl) Ko_h26
                  show wp l rho (d + 4) 185 194 [(2, 151), (0, p88_0), (0, p88_1), (0, p88_2), (0, p88_3), (0, (36 + v10)), (0, v27), (9, 0)] [(0, v87)] h86 Q
                  have ps130 : h26 151 7 = (sN (sm h) (((sN (sm h) (h 151 7))))) := xp38
                  rw [ps130] at xp95
                  rw [ps130] at xp96
                  rw [ps130] at xp97
                  have tE131 : sm h26 = sm h := sm_eq (fun j => my_fr.at gh26 is_153 rfl) (fun j => my_fr.at gh26 is_154 rfl) (fun j => my_fr.at gh26 is_155 rfl)
                  rw [tE131] at xp98
                  rw [ps130] at xp98
                  rw [tE131] at xp99
                  rw [ps130] at xp99
                  rw [tE131] at xp100
                  rw [ps130] at xp100
                  refine w_istore (ls' := [(2, 151), (0, p88_0), (0, p88_1), (0, p88_2), (0, p88_3), (0, (36 + v10)), (0, v27), (0, v87)]) gz_185_194 gm_185 rfl rfl rfl ?_
                  have ce132 : h86 151 7 = (h86 151 7) := (rfl : h86 151 7 = h86 151 7)
                  have ce133 : h86 151 8 = 0 := w92
                  have zF : fillM (sm h) (sN (sm h) (h 151 7)) (h 157 (h 151 33)) (h86 151 8) (h86 151 7) := by (unfold fillM; first | exact Or.inr (Or.inr ⟨by omega, by omega, Or.inr (Or.inr ⟨by omega, by omega, ⟨by omega, by omega⟩⟩)⟩) | exact Or.inr (Or.inr ⟨by omega, by omega, Or.inr (Or.inl ⟨by omega, by omega, by omega⟩)⟩) | exact Or.inr (Or.inr ⟨by omega, by omega, Or.inl ⟨by omega, by omega⟩⟩) | exact Or.inr (Or.inl ⟨by omega, by omega, by omega⟩) | exact Or.inl ⟨by omega, by omega⟩)
                  refine w_aload_n gz_185_196 rfl ?_
                  refine w_getX (v := 173) gz_185_197 is_151 rd_10 rfl (by decide) rfl ?_
                  refine w_bipush gz_185_200 (by decide) ?_
                  refine w_iload gz_185_202 rfl ?_
                  refine w_iadd gz_185_204 ⟨by omega, by omega⟩ ?_
                  refine w_aload_n gz_185_205 rfl ?_
                  refine v_getI (j := 8) gz_185_206 rfl is_151 rd_10 rfl (fun v135 ev135 pv135 qv135 => ?_)
                  have zv135 := ev135.trans w92
                  refine w_ifne (t := 217) gz_185_209 rfl (fun u136 => by exfalso; omega) (fun u136 => ?_)
                  refine w_iload gz_185_212 rfl ?_
                  refine w_goto (t := 227) gz_185_214 rfl ?_
                  have hi137 : (-1) ≤ v87 := by omega
                  have hi138 : v87 ≤ 19 := by omega
                  have hi139 : 0 ≤ (24 + v27) := by omega
                  have hi140 : (24 + v27) ≤ 27 := by omega
                  refine w_iast gz_185_227 is_173 rd_72 (by omega) (by omega) (by omega) (by omega) (fun h141 fh141 => ?_)
                  have gh141 : my_fr [(10, 7), (10, 8), (10, 27), (66, -1), (67, -1), (68, -1), (69, -1), (70, -1), (71, -1), (72, -1), (73, -1), (74, -1), (75, -1), (77, -1), (78, -1), (79, -1)] h h141 := my_fr.up gh86 is_173 fh141 rfl
                  have Mq_h141 : Mq h141 wv := Mq_ag (my_ag.up fh141 is_173 rfl) Mq_h86
                  have Wrd_h141 : Wrd h141 := Wrd_ag (my_ag.up fh141 is_173 rfl) Wrd_h86
                  have Wd9_h141 : Wd9 h141 := Wd9_ag (my_ag.up fh141 is_173 rfl) Wd9_h86
                  have Ko_h141 : Ko h h141 := Ko_ag (my_ag.up fh141 is_173 rfl) Ko_h86
                  have Tok_h141 : Tok h141 := Tok_ag (my_ag.up fh141 is_173 rfl) Tok_h86t101
                  refine w_aload_n gz_185_228 rfl ?_
                  refine v_getI (j := 8) gz_185_229 rfl is_151 rd_10 rfl (fun v142 ev142 pv142 qv142 => ?_)
                  have zv142 := ev142.trans ((my_up_role fh141 is_151 is_173 rfl).trans ev135.symm)
                  refine w_ifne (t := 269) gz_185_232 rfl (fun u143 => by exfalso; omega) (fun u143 => ?_)
                  refine w_iload_n gz_185_235 rfl ?_
                  refine w_ifne (t := 252) gz_185_236 rfl (fun u144 => by exfalso; omega) (fun u144 => ?_)
                  refine w_iload_n gz_185_239 rfl ?_
                  refine w_ifne (t := 252) gz_185_240 rfl (fun u145 => by exfalso; omega) (fun u145 => ?_)
                  refine w_iload_n gz_185_243 rfl ?_
                  refine w_ifne (t := 252) gz_185_244 rfl (fun u146 => by exfalso; omega) (fun u146 => ?_)
                  refine w_iload gz_185_247 rfl ?_
                  refine w_ifeq (t := 269) gz_185_249 rfl (fun u147 => ?_) (fun u147 => by exfalso; omega)
                  refine w_aload_n gz_185_269 rfl ?_
                  refine w_bipush gz_185_270 (by decide) ?_
                  have ce148 : h141 151 7 = (h86 151 7) := ((my_up_role fh141 is_151 is_173 rfl).trans (rfl : h86 151 7 = h86 151 7))
                  refine w_inv (k := 0) (as := [(0, 59)]) (r := []) (x := 151) (ls0 := [(2, 151), (0, 59)]) gz_185_272 gm_183 rfl is_151 rd_10 rfl rfl rfl rfl rfl (c_Model_takeSign9_f0 (d := (d + 2))  (ev142.symm.trans (by omega)) Tok_h141 (fun h149 frh149 w150 w151 xp152 xp153 xp154 Tok_h149t155 => ?_) (fun h156 frh156 w157 w158 w159 xp160 xp161 xp162 Tok_h156t163 => ?_))
                  ·
                    have gh149 : my_fr [(10, 7), (10, 8), (10, 27), (66, -1), (67, -1), (68, -1), (69, -1), (70, -1), (71, -1), (72, -1), (73, -1), (74, -1), (75, -1), (77, -1), (78, -1), (79, -1)] h h149 := my_fr.tr gh141 (frh149.mo rfl)
                    have Mq_h149 : Mq h149 wv := Mq_ag (my_ag.fr frh149 rfl) Mq_h141
                    have Wrd_h149 : Wrd h149 := Wrd_ag (my_ag.fr frh149 rfl) Wrd_h141
                    have Wd9_h149 : Wd9 h149 := Wd9_ag (my_ag.fr frh149 rfl) Wd9_h141
                    have Ko_h149 : Ko h h149 := Ko_ag (my_ag.fr frh149 rfl) Ko_h141
                    show wp l rho (d + 4) 185 275 [(2, 151), (0, p88_0), (0, p88_1), (0, p88_2), (0, p88_3), (0, (36 + v10)), (0, v27), (0, v87)] [] h149 Q
                    have ps164 : h141 151 7 = (sN (sm h) (((sN (sm h) (((sN (sm h) (h 151 7)))))))) := ((my_up_role fh141 is_151 is_173 rfl).trans xp98)
                    rw [ps164] at xp152
                    have tE165 : sm h141 = sm h := sm_eq (fun j => my_fr.at gh141 is_153 rfl) (fun j => my_fr.at gh141 is_154 rfl) (fun j => my_fr.at gh141 is_155 rfl)
                    rw [tE165] at xp153
                    rw [ps164] at xp153
                    rw [tE165] at xp154
                    rw [ps164] at xp154
                    have psR : h149 151 7 = h149 151 7 := (rfl : h149 151 7 = h149 151 7)
                    have npsR : sm h149 = sm h := sm_eq (fun j => my_fr.at gh149 is_153 rfl) (fun j => my_fr.at gh149 is_154 rfl) (fun j => my_fr.at gh149 is_155 rfl)
                    have ce166 : h149 151 8 = (h149 151 8) := (rfl : h149 151 8 = h149 151 8)
                    have ce167 : h149 151 27 = k151_27 := ((my_fr.at frh149 is_151 rfl).trans ((my_up_role fh141 is_151 is_173 rfl).trans ((my_fr.at frh86 is_151 rfl).trans ((my_fr.at frh26 is_151 rfl).trans ((my_up_fld fh6 (by decide)).trans c151_27_88_0)))))
                    have r167 : ∀ j : Int, h149 167 j = h88_0 167 j := fun j => ((my_fr.at frh149 is_167 rfl).trans ((my_up_role fh141 is_167 is_173 rfl).trans ((my_fr.at frh86 is_167 rfl).trans ((my_fr.at frh26 is_167 rfl).trans ((my_up_role fh6 is_167 is_151 rfl).trans (rfl : h88_0 167 j = h88_0 167 j))))))
                    have r6 := r167 6
                    have c168 := (rfl : h149 151 8 = h149 151 8)
                    exact w_vret gz_185_275 gm_185 (k0 h149 (gh149) (by omega) (by omega) (by first | exact Ko_h149 | omega | exact Or.inl ⟨by omega, fillM_R zF (by first | exact Or.inl ⟨by omega, by omega⟩ | exact Or.inr ⟨by omega, Or.inl ⟨by omega, by omega⟩⟩ | exact Or.inr ⟨by omega, Or.inr ⟨by omega, by omega, by omega⟩⟩), by omega, by omega⟩ | exact Or.inr (Or.inr (Or.inl ⟨by omega, by omega, cutM_R zC (by first | exact Or.inl ⟨by omega, by omega⟩ | exact Or.inr ⟨by omega, Or.inl ⟨by omega, by omega⟩⟩ | exact Or.inr ⟨by omega, Or.inr ⟨by omega, by omega, by omega⟩⟩), by first | omega | exact cw9, by omega⟩)) | exact Or.inr (Or.inr (Or.inr (Or.inl ⟨by omega, by omega, by first | (rw [cw9]; exact fmE_R zW (by first | exact Or.inl ⟨by omega, by omega⟩ | exact Or.inr ⟨by omega, Or.inl ⟨by omega, by omega⟩⟩ | exact Or.inr ⟨by omega, Or.inr ⟨by omega, by omega, by omega⟩⟩)) | exact fmE_R zW (by first | exact Or.inl ⟨by omega, by omega⟩ | exact Or.inr ⟨by omega, Or.inl ⟨by omega, by omega⟩⟩ | exact Or.inr ⟨by omega, Or.inr ⟨by omega, by omega, by omega⟩⟩), by omega⟩))) | exact Or.inr (Or.inr (Or.inr (Or.inr (Or.inl ⟨by omega, by omega, joinM_R zJ (by first | exact Or.inl ⟨by omega, by omega⟩ | exact Or.inr ⟨by omega, Or.inl ⟨by omega, by omega⟩⟩ | exact Or.inr ⟨by omega, Or.inr ⟨by omega, by omega, by omega⟩⟩), fun _ => by omega, by omega⟩)))) | exact Or.inr (Or.inr (Or.inr (Or.inr (Or.inr (Or.inl ⟨by omega, by omega, sumM_R zS (by first | exact Or.inl ⟨by omega, by omega⟩ | exact Or.inr ⟨by omega, Or.inl ⟨by omega, by omega⟩⟩ | exact Or.inr ⟨by omega, Or.inr ⟨by omega, by omega, by omega⟩⟩), by first | omega | exact cw9, by omega⟩))))) | exact ⟨_, _, _, Or.inl ⟨by omega, fillM_R zF (by first | exact Or.inl ⟨by omega, by omega⟩ | exact Or.inr ⟨by omega, Or.inl ⟨by omega, by omega⟩⟩ | exact Or.inr ⟨by omega, Or.inr ⟨by omega, by omega, by omega⟩⟩), rfl, rfl⟩⟩ | exact ⟨_, _, _, Or.inr (Or.inr (Or.inl ⟨by omega, by omega, cutM_R zC (by first | exact Or.inl ⟨by omega, by omega⟩ | exact Or.inr ⟨by omega, Or.inl ⟨by omega, by omega⟩⟩ | exact Or.inr ⟨by omega, Or.inr ⟨by omega, by omega, by omega⟩⟩), rfl, rfl⟩))⟩ | exact ⟨_, _, _, Or.inr (Or.inr (Or.inr (Or.inl ⟨by omega, by omega, fmE_R zW (by first | exact Or.inl ⟨by omega, by omega⟩ | exact Or.inr ⟨by omega, Or.inl ⟨by omega, by omega⟩⟩ | exact Or.inr ⟨by omega, Or.inr ⟨by omega, by omega, by omega⟩⟩), rfl⟩)))⟩ | exact ⟨_, _, _, Or.inr (Or.inr (Or.inr (Or.inr (Or.inl ⟨by omega, by omega, joinM_R zJ (by first | exact Or.inl ⟨by omega, by omega⟩ | exact Or.inr ⟨by omega, Or.inl ⟨by omega, by omega⟩⟩ | exact Or.inr ⟨by omega, Or.inr ⟨by omega, by omega, by omega⟩⟩), fun q => absurd q (by omega), rfl⟩))))⟩ | exact ⟨_, _, _, Or.inr (Or.inr (Or.inr (Or.inr (Or.inr (Or.inl ⟨by omega, by omega, sumM_R zS (by first | exact Or.inl ⟨by omega, by omega⟩ | exact Or.inr ⟨by omega, Or.inl ⟨by omega, by omega⟩⟩ | exact Or.inr ⟨by omega, Or.inr ⟨by omega, by omega, by omega⟩⟩), rfl, rfl⟩)))))⟩ | exact ⟨0, 0, 0, Or.inr (Or.inl ⟨by omega, by omega, by omega⟩)⟩ | exact ⟨0, 0, 0, Or.inr (Or.inr (Or.inr (Or.inr (Or.inr (Or.inr (⟨by omega, by omega, by omega, by omega, by omega, by omega⟩))))))⟩ | omega) (by first | exact Ko_h149 | omega | exact Or.inl ⟨by omega, fillM_R zF (by first | exact Or.inl ⟨by omega, by omega⟩ | exact Or.inr ⟨by omega, Or.inl ⟨by omega, by omega⟩⟩ | exact Or.inr ⟨by omega, Or.inr ⟨by omega, by omega, by omega⟩⟩), by omega, by omega⟩ | exact Or.inr (Or.inr (Or.inl ⟨by omega, by omega, cutM_R zC (by first | exact Or.inl ⟨by omega, by omega⟩ | exact Or.inr ⟨by omega, Or.inl ⟨by omega, by omega⟩⟩ | exact Or.inr ⟨by omega, Or.inr ⟨by omega, by omega, by omega⟩⟩), by first | omega | exact cw9, by omega⟩)) | exact Or.inr (Or.inr (Or.inr (Or.inl ⟨by omega, by omega, by first | (rw [cw9]; exact fmE_R zW (by first | exact Or.inl ⟨by omega, by omega⟩ | exact Or.inr ⟨by omega, Or.inl ⟨by omega, by omega⟩⟩ | exact Or.inr ⟨by omega, Or.inr ⟨by omega, by omega, by omega⟩⟩)) | exact fmE_R zW (by first | exact Or.inl ⟨by omega, by omega⟩ | exact Or.inr ⟨by omega, Or.inl ⟨by omega, by omega⟩⟩ | exact Or.inr ⟨by omega, Or.inr ⟨by omega, by omega, by omega⟩⟩), by omega⟩))) | exact Or.inr (Or.inr (Or.inr (Or.inr (Or.inl ⟨by omega, by omega, joinM_R zJ (by first | exact Or.inl ⟨by omega, by omega⟩ | exact Or.inr ⟨by omega, Or.inl ⟨by omega, by omega⟩⟩ | exact Or.inr ⟨by omega, Or.inr ⟨by omega, by omega, by omega⟩⟩), fun _ => by omega, by omega⟩)))) | exact Or.inr (Or.inr (Or.inr (Or.inr (Or.inr (Or.inl ⟨by omega, by omega, sumM_R zS (by first | exact Or.inl ⟨by omega, by omega⟩ | exact Or.inr ⟨by omega, Or.inl ⟨by omega, by omega⟩⟩ | exact Or.inr ⟨by omega, Or.inr ⟨by omega, by omega, by omega⟩⟩), by first | omega | exact cw9, by omega⟩))))) | exact ⟨_, _, _, Or.inl ⟨by omega, fillM_R zF (by first | exact Or.inl ⟨by omega, by omega⟩ | exact Or.inr ⟨by omega, Or.inl ⟨by omega, by omega⟩⟩ | exact Or.inr ⟨by omega, Or.inr ⟨by omega, by omega, by omega⟩⟩), rfl, rfl⟩⟩ | exact ⟨_, _, _, Or.inr (Or.inr (Or.inl ⟨by omega, by omega, cutM_R zC (by first | exact Or.inl ⟨by omega, by omega⟩ | exact Or.inr ⟨by omega, Or.inl ⟨by omega, by omega⟩⟩ | exact Or.inr ⟨by omega, Or.inr ⟨by omega, by omega, by omega⟩⟩), rfl, rfl⟩))⟩ | exact ⟨_, _, _, Or.inr (Or.inr (Or.inr (Or.inl ⟨by omega, by omega, fmE_R zW (by first | exact Or.inl ⟨by omega, by omega⟩ | exact Or.inr ⟨by omega, Or.inl ⟨by omega, by omega⟩⟩ | exact Or.inr ⟨by omega, Or.inr ⟨by omega, by omega, by omega⟩⟩), rfl⟩)))⟩ | exact ⟨_, _, _, Or.inr (Or.inr (Or.inr (Or.inr (Or.inl ⟨by omega, by omega, joinM_R zJ (by first | exact Or.inl ⟨by omega, by omega⟩ | exact Or.inr ⟨by omega, Or.inl ⟨by omega, by omega⟩⟩ | exact Or.inr ⟨by omega, Or.inr ⟨by omega, by omega, by omega⟩⟩), fun q => absurd q (by omega), rfl⟩))))⟩ | exact ⟨_, _, _, Or.inr (Or.inr (Or.inr (Or.inr (Or.inr (Or.inl ⟨by omega, by omega, sumM_R zS (by first | exact Or.inl ⟨by omega, by omega⟩ | exact Or.inr ⟨by omega, Or.inl ⟨by omega, by omega⟩⟩ | exact Or.inr ⟨by omega, Or.inr ⟨by omega, by omega, by omega⟩⟩), rfl, rfl⟩)))))⟩ | exact ⟨0, 0, 0, Or.inr (Or.inl ⟨by omega, by omega, by omega⟩)⟩ | exact ⟨0, 0, 0, Or.inr (Or.inr (Or.inr (Or.inr (Or.inr (Or.inr (⟨by omega, by omega, by omega, by omega, by omega, by omega⟩))))))⟩ | omega) (by first | exact Ko_h149 | omega | exact Or.inl ⟨by omega, fillM_R zF (by first | exact Or.inl ⟨by omega, by omega⟩ | exact Or.inr ⟨by omega, Or.inl ⟨by omega, by omega⟩⟩ | exact Or.inr ⟨by omega, Or.inr ⟨by omega, by omega, by omega⟩⟩), by omega, by omega⟩ | exact Or.inr (Or.inr (Or.inl ⟨by omega, by omega, cutM_R zC (by first | exact Or.inl ⟨by omega, by omega⟩ | exact Or.inr ⟨by omega, Or.inl ⟨by omega, by omega⟩⟩ | exact Or.inr ⟨by omega, Or.inr ⟨by omega, by omega, by omega⟩⟩), by first | omega | exact cw9, by omega⟩)) | exact Or.inr (Or.inr (Or.inr (Or.inl ⟨by omega, by omega, by first | (rw [cw9]; exact fmE_R zW (by first | exact Or.inl ⟨by omega, by omega⟩ | exact Or.inr ⟨by omega, Or.inl ⟨by omega, by omega⟩⟩ | exact Or.inr ⟨by omega, Or.inr ⟨by omega, by omega, by omega⟩⟩)) | exact fmE_R zW (by first | exact Or.inl ⟨by omega, by omega⟩ | exact Or.inr ⟨by omega, Or.inl ⟨by omega, by omega⟩⟩ | exact Or.inr ⟨by omega, Or.inr ⟨by omega, by omega, by omega⟩⟩), by omega⟩))) | exact Or.inr (Or.inr (Or.inr (Or.inr (Or.inl ⟨by omega, by omega, joinM_R zJ (by first | exact Or.inl ⟨by omega, by omega⟩ | exact Or.inr ⟨by omega, Or.inl ⟨by omega, by omega⟩⟩ | exact Or.inr ⟨by omega, Or.inr ⟨by omega, by omega, by omega⟩⟩), fun _ => by omega, by omega⟩)))) | exact Or.inr (Or.inr (Or.inr (Or.inr (Or.inr (Or.inl ⟨by omega, by omega, sumM_R zS (by first | exact Or.inl ⟨by omega, by omega⟩ | exact Or.inr ⟨by omega, Or.inl ⟨by omega, by omega⟩⟩ | exact Or.inr ⟨by omega, Or.inr ⟨by omega, by omega, by omega⟩⟩), by first | omega | exact cw9, by omega⟩))))) | exact ⟨_, _, _, Or.inl ⟨by omega, fillM_R zF (by first | exact Or.inl ⟨by omega, by omega⟩ | exact Or.inr ⟨by omega, Or.inl ⟨by omega, by omega⟩⟩ | exact Or.inr ⟨by omega, Or.inr ⟨by omega, by omega, by omega⟩⟩), rfl, rfl⟩⟩ | exact ⟨_, _, _, Or.inr (Or.inr (Or.inl ⟨by omega, by omega, cutM_R zC (by first | exact Or.inl ⟨by omega, by omega⟩ | exact Or.inr ⟨by omega, Or.inl ⟨by omega, by omega⟩⟩ | exact Or.inr ⟨by omega, Or.inr ⟨by omega, by omega, by omega⟩⟩), rfl, rfl⟩))⟩ | exact ⟨_, _, _, Or.inr (Or.inr (Or.inr (Or.inl ⟨by omega, by omega, fmE_R zW (by first | exact Or.inl ⟨by omega, by omega⟩ | exact Or.inr ⟨by omega, Or.inl ⟨by omega, by omega⟩⟩ | exact Or.inr ⟨by omega, Or.inr ⟨by omega, by omega, by omega⟩⟩), rfl⟩)))⟩ | exact ⟨_, _, _, Or.inr (Or.inr (Or.inr (Or.inr (Or.inl ⟨by omega, by omega, joinM_R zJ (by first | exact Or.inl ⟨by omega, by omega⟩ | exact Or.inr ⟨by omega, Or.inl ⟨by omega, by omega⟩⟩ | exact Or.inr ⟨by omega, Or.inr ⟨by omega, by omega, by omega⟩⟩), fun q => absurd q (by omega), rfl⟩))))⟩ | exact ⟨_, _, _, Or.inr (Or.inr (Or.inr (Or.inr (Or.inr (Or.inl ⟨by omega, by omega, sumM_R zS (by first | exact Or.inl ⟨by omega, by omega⟩ | exact Or.inr ⟨by omega, Or.inl ⟨by omega, by omega⟩⟩ | exact Or.inr ⟨by omega, Or.inr ⟨by omega, by omega, by omega⟩⟩), rfl, rfl⟩)))))⟩ | exact ⟨0, 0, 0, Or.inr (Or.inl ⟨by omega, by omega, by omega⟩)⟩ | exact ⟨0, 0, 0, Or.inr (Or.inr (Or.inr (Or.inr (Or.inr (Or.inr (⟨by omega, by omega, by omega, by omega, by omega, by omega⟩))))))⟩ | omega) Tok_h149t155 Mq_h149 Wrd_h149 Wd9_h149)
                  ·
                    have gh156 : my_fr [(10, 7), (10, 8), (10, 27), (66, -1), (67, -1), (68, -1), (69, -1), (70, -1), (71, -1), (72, -1), (73, -1), (74, -1), (75, -1), (77, -1), (78, -1), (79, -1)] h h156 := my_fr.tr gh141 (frh156.mo rfl)
                    have Mq_h156 : Mq h156 wv := Mq_ag (my_ag.fr frh156 rfl) Mq_h141
                    have Wrd_h156 : Wrd h156 := Wrd_ag (my_ag.fr frh156 rfl) Wrd_h141
                    have Wd9_h156 : Wd9 h156 := Wd9_ag (my_ag.fr frh156 rfl) Wd9_h141
                    have Ko_h156 : Ko h h156 := Ko_ag (my_ag.fr frh156 rfl) Ko_h141
                    show wp l rho (d + 4) 185 275 [(2, 151), (0, p88_0), (0, p88_1), (0, p88_2), (0, p88_3), (0, (36 + v10)), (0, v27), (0, v87)] [] h156 Q
                    have ps169 : h141 151 7 = (sN (sm h) (((sN (sm h) (((sN (sm h) (h 151 7)))))))) := ((my_up_role fh141 is_151 is_173 rfl).trans xp98)
                    rw [ps169] at xp160
                    have tE170 : sm h141 = sm h := sm_eq (fun j => my_fr.at gh141 is_153 rfl) (fun j => my_fr.at gh141 is_154 rfl) (fun j => my_fr.at gh141 is_155 rfl)
                    rw [tE170] at xp161
                    rw [ps169] at xp161
                    rw [tE170] at xp162
                    rw [ps169] at xp162
                    have psR : h156 151 7 = (sN (sm h) (((sN (sm h) (((sN (sm h) (((sN (sm h) (h 151 7))))))))))) := xp161
                    have npsR : sm h156 = sm h := sm_eq (fun j => my_fr.at gh156 is_153 rfl) (fun j => my_fr.at gh156 is_154 rfl) (fun j => my_fr.at gh156 is_155 rfl)
                    have ce171 : h156 151 7 = (h156 151 7) := (rfl : h156 151 7 = h156 151 7)
                    have ce172 : h156 151 8 = 0 := w159
                    have ce173 : h156 151 27 = k151_27 := ((my_fr.at frh156 is_151 rfl).trans ((my_up_role fh141 is_151 is_173 rfl).trans ((my_fr.at frh86 is_151 rfl).trans ((my_fr.at frh26 is_151 rfl).trans ((my_up_fld fh6 (by decide)).trans c151_27_88_0)))))
                    have r167 : ∀ j : Int, h156 167 j = h88_0 167 j := fun j => ((my_fr.at frh156 is_167 rfl).trans ((my_up_role fh141 is_167 is_173 rfl).trans ((my_fr.at frh86 is_167 rfl).trans ((my_fr.at frh26 is_167 rfl).trans ((my_up_role fh6 is_167 is_151 rfl).trans (rfl : h88_0 167 j = h88_0 167 j))))))
                    have r6 := r167 6
                    have c174 := (rfl : h156 151 7 = h156 151 7)
                    have c175 := w159
                    exact w_vret gz_185_275 gm_185 (k1 h156 (gh156) (by omega) (by omega) (by omega) (by first | exact Ko_h156 | omega | exact Or.inl ⟨by omega, fillM_R zF (by first | exact Or.inl ⟨by omega, by omega⟩ | exact Or.inr ⟨by omega, Or.inl ⟨by omega, by omega⟩⟩ | exact Or.inr ⟨by omega, Or.inr ⟨by omega, by omega, by omega⟩⟩), by omega, by omega⟩ | exact Or.inr (Or.inr (Or.inl ⟨by omega, by omega, cutM_R zC (by first | exact Or.inl ⟨by omega, by omega⟩ | exact Or.inr ⟨by omega, Or.inl ⟨by omega, by omega⟩⟩ | exact Or.inr ⟨by omega, Or.inr ⟨by omega, by omega, by omega⟩⟩), by first | omega | exact cw9, by omega⟩)) | exact Or.inr (Or.inr (Or.inr (Or.inl ⟨by omega, by omega, by first | (rw [cw9]; exact fmE_R zW (by first | exact Or.inl ⟨by omega, by omega⟩ | exact Or.inr ⟨by omega, Or.inl ⟨by omega, by omega⟩⟩ | exact Or.inr ⟨by omega, Or.inr ⟨by omega, by omega, by omega⟩⟩)) | exact fmE_R zW (by first | exact Or.inl ⟨by omega, by omega⟩ | exact Or.inr ⟨by omega, Or.inl ⟨by omega, by omega⟩⟩ | exact Or.inr ⟨by omega, Or.inr ⟨by omega, by omega, by omega⟩⟩), by omega⟩))) | exact Or.inr (Or.inr (Or.inr (Or.inr (Or.inl ⟨by omega, by omega, joinM_R zJ (by first | exact Or.inl ⟨by omega, by omega⟩ | exact Or.inr ⟨by omega, Or.inl ⟨by omega, by omega⟩⟩ | exact Or.inr ⟨by omega, Or.inr ⟨by omega, by omega, by omega⟩⟩), fun _ => by omega, by omega⟩)))) | exact Or.inr (Or.inr (Or.inr (Or.inr (Or.inr (Or.inl ⟨by omega, by omega, sumM_R zS (by first | exact Or.inl ⟨by omega, by omega⟩ | exact Or.inr ⟨by omega, Or.inl ⟨by omega, by omega⟩⟩ | exact Or.inr ⟨by omega, Or.inr ⟨by omega, by omega, by omega⟩⟩), by first | omega | exact cw9, by omega⟩))))) | exact ⟨_, _, _, Or.inl ⟨by omega, fillM_R zF (by first | exact Or.inl ⟨by omega, by omega⟩ | exact Or.inr ⟨by omega, Or.inl ⟨by omega, by omega⟩⟩ | exact Or.inr ⟨by omega, Or.inr ⟨by omega, by omega, by omega⟩⟩), rfl, rfl⟩⟩ | exact ⟨_, _, _, Or.inr (Or.inr (Or.inl ⟨by omega, by omega, cutM_R zC (by first | exact Or.inl ⟨by omega, by omega⟩ | exact Or.inr ⟨by omega, Or.inl ⟨by omega, by omega⟩⟩ | exact Or.inr ⟨by omega, Or.inr ⟨by omega, by omega, by omega⟩⟩), rfl, rfl⟩))⟩ | exact ⟨_, _, _, Or.inr (Or.inr (Or.inr (Or.inl ⟨by omega, by omega, fmE_R zW (by first | exact Or.inl ⟨by omega, by omega⟩ | exact Or.inr ⟨by omega, Or.inl ⟨by omega, by omega⟩⟩ | exact Or.inr ⟨by omega, Or.inr ⟨by omega, by omega, by omega⟩⟩), rfl⟩)))⟩ | exact ⟨_, _, _, Or.inr (Or.inr (Or.inr (Or.inr (Or.inl ⟨by omega, by omega, joinM_R zJ (by first | exact Or.inl ⟨by omega, by omega⟩ | exact Or.inr ⟨by omega, Or.inl ⟨by omega, by omega⟩⟩ | exact Or.inr ⟨by omega, Or.inr ⟨by omega, by omega, by omega⟩⟩), fun q => absurd q (by omega), rfl⟩))))⟩ | exact ⟨_, _, _, Or.inr (Or.inr (Or.inr (Or.inr (Or.inr (Or.inl ⟨by omega, by omega, sumM_R zS (by first | exact Or.inl ⟨by omega, by omega⟩ | exact Or.inr ⟨by omega, Or.inl ⟨by omega, by omega⟩⟩ | exact Or.inr ⟨by omega, Or.inr ⟨by omega, by omega, by omega⟩⟩), rfl, rfl⟩)))))⟩ | exact ⟨0, 0, 0, Or.inr (Or.inl ⟨by omega, by omega, by omega⟩)⟩ | exact ⟨0, 0, 0, Or.inr (Or.inr (Or.inr (Or.inr (Or.inr (Or.inr (⟨by omega, by omega, by omega, by omega, by omega, by omega⟩))))))⟩ | omega) (by first | exact Ko_h156 | omega | exact Or.inl ⟨by omega, fillM_R zF (by first | exact Or.inl ⟨by omega, by omega⟩ | exact Or.inr ⟨by omega, Or.inl ⟨by omega, by omega⟩⟩ | exact Or.inr ⟨by omega, Or.inr ⟨by omega, by omega, by omega⟩⟩), by omega, by omega⟩ | exact Or.inr (Or.inr (Or.inl ⟨by omega, by omega, cutM_R zC (by first | exact Or.inl ⟨by omega, by omega⟩ | exact Or.inr ⟨by omega, Or.inl ⟨by omega, by omega⟩⟩ | exact Or.inr ⟨by omega, Or.inr ⟨by omega, by omega, by omega⟩⟩), by first | omega | exact cw9, by omega⟩)) | exact Or.inr (Or.inr (Or.inr (Or.inl ⟨by omega, by omega, by first | (rw [cw9]; exact fmE_R zW (by first | exact Or.inl ⟨by omega, by omega⟩ | exact Or.inr ⟨by omega, Or.inl ⟨by omega, by omega⟩⟩ | exact Or.inr ⟨by omega, Or.inr ⟨by omega, by omega, by omega⟩⟩)) | exact fmE_R zW (by first | exact Or.inl ⟨by omega, by omega⟩ | exact Or.inr ⟨by omega, Or.inl ⟨by omega, by omega⟩⟩ | exact Or.inr ⟨by omega, Or.inr ⟨by omega, by omega, by omega⟩⟩), by omega⟩))) | exact Or.inr (Or.inr (Or.inr (Or.inr (Or.inl ⟨by omega, by omega, joinM_R zJ (by first | exact Or.inl ⟨by omega, by omega⟩ | exact Or.inr ⟨by omega, Or.inl ⟨by omega, by omega⟩⟩ | exact Or.inr ⟨by omega, Or.inr ⟨by omega, by omega, by omega⟩⟩), fun _ => by omega, by omega⟩)))) | exact Or.inr (Or.inr (Or.inr (Or.inr (Or.inr (Or.inl ⟨by omega, by omega, sumM_R zS (by first | exact Or.inl ⟨by omega, by omega⟩ | exact Or.inr ⟨by omega, Or.inl ⟨by omega, by omega⟩⟩ | exact Or.inr ⟨by omega, Or.inr ⟨by omega, by omega, by omega⟩⟩), by first | omega | exact cw9, by omega⟩))))) | exact ⟨_, _, _, Or.inl ⟨by omega, fillM_R zF (by first | exact Or.inl ⟨by omega, by omega⟩ | exact Or.inr ⟨by omega, Or.inl ⟨by omega, by omega⟩⟩ | exact Or.inr ⟨by omega, Or.inr ⟨by omega, by omega, by omega⟩⟩), rfl, rfl⟩⟩ | exact ⟨_, _, _, Or.inr (Or.inr (Or.inl ⟨by omega, by omega, cutM_R zC (by first | exact Or.inl ⟨by omega, by omega⟩ | exact Or.inr ⟨by omega, Or.inl ⟨by omega, by omega⟩⟩ | exact Or.inr ⟨by omega, Or.inr ⟨by omega, by omega, by omega⟩⟩), rfl, rfl⟩))⟩ | exact ⟨_, _, _, Or.inr (Or.inr (Or.inr (Or.inl ⟨by omega, by omega, fmE_R zW (by first | exact Or.inl ⟨by omega, by omega⟩ | exact Or.inr ⟨by omega, Or.inl ⟨by omega, by omega⟩⟩ | exact Or.inr ⟨by omega, Or.inr ⟨by omega, by omega, by omega⟩⟩), rfl⟩)))⟩ | exact ⟨_, _, _, Or.inr (Or.inr (Or.inr (Or.inr (Or.inl ⟨by omega, by omega, joinM_R zJ (by first | exact Or.inl ⟨by omega, by omega⟩ | exact Or.inr ⟨by omega, Or.inl ⟨by omega, by omega⟩⟩ | exact Or.inr ⟨by omega, Or.inr ⟨by omega, by omega, by omega⟩⟩), fun q => absurd q (by omega), rfl⟩))))⟩ | exact ⟨_, _, _, Or.inr (Or.inr (Or.inr (Or.inr (Or.inr (Or.inl ⟨by omega, by omega, sumM_R zS (by first | exact Or.inl ⟨by omega, by omega⟩ | exact Or.inr ⟨by omega, Or.inl ⟨by omega, by omega⟩⟩ | exact Or.inr ⟨by omega, Or.inr ⟨by omega, by omega, by omega⟩⟩), rfl, rfl⟩)))))⟩ | exact ⟨0, 0, 0, Or.inr (Or.inl ⟨by omega, by omega, by omega⟩)⟩ | exact ⟨0, 0, 0, Or.inr (Or.inr (Or.inr (Or.inr (Or.inr (Or.inr (⟨by omega, by omega, by omega, by omega, by omega, by omega⟩))))))⟩ | omega) (by first | exact Ko_h156 | omega | exact Or.inl ⟨by omega, fillM_R zF (by first | exact Or.inl ⟨by omega, by omega⟩ | exact Or.inr ⟨by omega, Or.inl ⟨by omega, by omega⟩⟩ | exact Or.inr ⟨by omega, Or.inr ⟨by omega, by omega, by omega⟩⟩), by omega, by omega⟩ | exact Or.inr (Or.inr (Or.inl ⟨by omega, by omega, cutM_R zC (by first | exact Or.inl ⟨by omega, by omega⟩ | exact Or.inr ⟨by omega, Or.inl ⟨by omega, by omega⟩⟩ | exact Or.inr ⟨by omega, Or.inr ⟨by omega, by omega, by omega⟩⟩), by first | omega | exact cw9, by omega⟩)) | exact Or.inr (Or.inr (Or.inr (Or.inl ⟨by omega, by omega, by first | (rw [cw9]; exact fmE_R zW (by first | exact Or.inl ⟨by omega, by omega⟩ | exact Or.inr ⟨by omega, Or.inl ⟨by omega, by omega⟩⟩ | exact Or.inr ⟨by omega, Or.inr ⟨by omega, by omega, by omega⟩⟩)) | exact fmE_R zW (by first | exact Or.inl ⟨by omega, by omega⟩ | exact Or.inr ⟨by omega, Or.inl ⟨by omega, by omega⟩⟩ | exact Or.inr ⟨by omega, Or.inr ⟨by omega, by omega, by omega⟩⟩), by omega⟩))) | exact Or.inr (Or.inr (Or.inr (Or.inr (Or.inl ⟨by omega, by omega, joinM_R zJ (by first | exact Or.inl ⟨by omega, by omega⟩ | exact Or.inr ⟨by omega, Or.inl ⟨by omega, by omega⟩⟩ | exact Or.inr ⟨by omega, Or.inr ⟨by omega, by omega, by omega⟩⟩), fun _ => by omega, by omega⟩)))) | exact Or.inr (Or.inr (Or.inr (Or.inr (Or.inr (Or.inl ⟨by omega, by omega, sumM_R zS (by first | exact Or.inl ⟨by omega, by omega⟩ | exact Or.inr ⟨by omega, Or.inl ⟨by omega, by omega⟩⟩ | exact Or.inr ⟨by omega, Or.inr ⟨by omega, by omega, by omega⟩⟩), by first | omega | exact cw9, by omega⟩))))) | exact ⟨_, _, _, Or.inl ⟨by omega, fillM_R zF (by first | exact Or.inl ⟨by omega, by omega⟩ | exact Or.inr ⟨by omega, Or.inl ⟨by omega, by omega⟩⟩ | exact Or.inr ⟨by omega, Or.inr ⟨by omega, by omega, by omega⟩⟩), rfl, rfl⟩⟩ | exact ⟨_, _, _, Or.inr (Or.inr (Or.inl ⟨by omega, by omega, cutM_R zC (by first | exact Or.inl ⟨by omega, by omega⟩ | exact Or.inr ⟨by omega, Or.inl ⟨by omega, by omega⟩⟩ | exact Or.inr ⟨by omega, Or.inr ⟨by omega, by omega, by omega⟩⟩), rfl, rfl⟩))⟩ | exact ⟨_, _, _, Or.inr (Or.inr (Or.inr (Or.inl ⟨by omega, by omega, fmE_R zW (by first | exact Or.inl ⟨by omega, by omega⟩ | exact Or.inr ⟨by omega, Or.inl ⟨by omega, by omega⟩⟩ | exact Or.inr ⟨by omega, Or.inr ⟨by omega, by omega, by omega⟩⟩), rfl⟩)))⟩ | exact ⟨_, _, _, Or.inr (Or.inr (Or.inr (Or.inr (Or.inl ⟨by omega, by omega, joinM_R zJ (by first | exact Or.inl ⟨by omega, by omega⟩ | exact Or.inr ⟨by omega, Or.inl ⟨by omega, by omega⟩⟩ | exact Or.inr ⟨by omega, Or.inr ⟨by omega, by omega, by omega⟩⟩), fun q => absurd q (by omega), rfl⟩))))⟩ | exact ⟨_, _, _, Or.inr (Or.inr (Or.inr (Or.inr (Or.inr (Or.inl ⟨by omega, by omega, sumM_R zS (by first | exact Or.inl ⟨by omega, by omega⟩ | exact Or.inr ⟨by omega, Or.inl ⟨by omega, by omega⟩⟩ | exact Or.inr ⟨by omega, Or.inr ⟨by omega, by omega, by omega⟩⟩), rfl, rfl⟩)))))⟩ | exact ⟨0, 0, 0, Or.inr (Or.inl ⟨by omega, by omega, by omega⟩)⟩ | exact ⟨0, 0, 0, Or.inr (Or.inr (Or.inr (Or.inr (Or.inr (Or.inr (⟨by omega, by omega, by omega, by omega, by omega, by omega⟩))))))⟩ | omega) Tok_h156t163 Mq_h156 Wrd_h156 Wd9_h156)
            ·
              refine w_aload_n gz_185_162 rfl ?_
              refine w_iload gz_185_163 rfl ?_
              have ce176 : h6 151 7 = (v3 + 1) := (my_up_self fh6)
              have ce177 : h6 151 27 = k151_27 := ((my_up_fld fh6 (by decide)).trans c151_27_88_0)
              have hi178 : 36 ≤ (36 + v10) := by omega
              have hi179 : (36 + v10) ≤ 41 := by omega
              refine w_inv (k := 0) (as := [(0, (36 + v10))]) (r := []) (x := 151) (ls0 := [(2, 151), (0, (36 + v10))]) gz_185_165 gm_190 rfl is_151 rd_10 rfl rfl rfl rfl rfl (c_Model_readSum9_f0 (d := d) (x1 := (36 + v10)) (wv := wv) (by omega) (by omega) (((my_up_fld fh6 (by decide)).trans ev1.symm).trans (by omega)) (by first | assumption | omega) (by first | assumption | omega) Tok_h6t8 Mq_h6 Wd9_h6 (by first | assumption | exact no_such_saying | exact Fp_told (by omega) (by omega) | omega | (subst_vars; omega) | omega) (fun h180 frh180 w181 w182 xp183 xp184 xp185 Tok_h180t186 Mq_h180t187 Wd9_h180t188 => ?_) (fun h189 frh189 w190 w191 w192 xp193 xp194 xp195 xp196 xp197 xp198 Tok_h189t199 Mq_h189t200 Wd9_h189t201 => ?_))
              ·
                have gh180 : my_fr [(10, 7), (10, 8), (10, 27), (66, -1), (67, -1), (68, -1), (69, -1), (70, -1), (71, -1), (72, -1), (73, -1), (74, -1), (75, -1), (77, -1), (78, -1), (79, -1)] h h180 := my_fr.tr gh6 (frh180.mo rfl)
                have Wrd_h180 : Wrd h180 := Wrd_ag (my_ag.fr frh180 rfl) Wrd_h6
                have Wd9_h180 : Wd9 h180 := Wd9_ag (my_ag.fr frh180 rfl) Wd9_h6
                show wp l rho (d + 4) 185 168 [(2, 151), (0, p88_0), (0, p88_1), (0, p88_2), (0, p88_3), (0, (36 + v10)), (9, 0), (9, 0)] [] h180 Q
                have ps202 : h6 151 7 = (sN (sm h) (h 151 7)) := ps7
                rw [ps202] at xp183
                have tE203 : sm h6 = sm h := sm_eq (fun j => my_fr.at gh6 is_153 rfl) (fun j => my_fr.at gh6 is_154 rfl) (fun j => my_fr.at gh6 is_155 rfl)
                rw [tE203] at xp184
                rw [ps202] at xp184
                have q27 : h6 151 27 = h 151 27 := by omega
                have q57 : h6 157 = h 157 := funext (fun j => my_fr.at gh6 is_157 rfl)
                have zS := xp184
                simp only [q27, q57] at zS
                have Ko_h180t204 : Ko h h180 := Ko_tr Ko_h6 xp185
                refine w_goto (t := 228) gz_185_168 rfl ?_
                refine w_aload_n gz_185_228 rfl ?_
                refine v_getI (j := 8) gz_185_229 rfl is_151 rd_10 rfl (fun v205 ev205 pv205 qv205 => ?_)
                have zv205 := ev205.trans (rfl : h180 151 8 = h180 151 8)
                refine w_ifne (t := 269) gz_185_232 rfl (fun u206 => ?_) (fun u206 => by exfalso; omega)
                refine w_aload_n gz_185_269 rfl ?_
                refine w_bipush gz_185_270 (by decide) ?_
                refine w_inv (k := 0) (as := [(0, 59)]) (r := []) (x := 151) (ls0 := [(2, 151), (0, 59)]) gz_185_272 gm_183 rfl is_151 rd_10 rfl rfl rfl rfl rfl (c_Model_takeSign9_f1 (d := (d + 2))  (v205) (ev205.symm) (by omega) (by omega) Tok_h180t186 (fun w207 w208 xp209 xp210 Tok_h180t211 => ?_))
                show wp l rho (d + 4) 185 275 [(2, 151), (0, p88_0), (0, p88_1), (0, p88_2), (0, p88_3), (0, (36 + v10)), (9, 0), (9, 0)] [] h180 Q
                have psR : h180 151 7 = h180 151 7 := (rfl : h180 151 7 = h180 151 7)
                have npsR : sm h180 = sm h := sm_eq (fun j => my_fr.at gh180 is_153 rfl) (fun j => my_fr.at gh180 is_154 rfl) (fun j => my_fr.at gh180 is_155 rfl)
                have ce212 : h180 151 8 = v205 := ev205.symm
                have ce213 : h180 151 27 = k151_27 := ((my_fr.at frh180 is_151 rfl).trans ((my_up_fld fh6 (by decide)).trans c151_27_88_0))
                have r167 : ∀ j : Int, h180 167 j = h88_0 167 j := fun j => ((my_fr.at frh180 is_167 rfl).trans ((my_up_role fh6 is_167 is_151 rfl).trans (rfl : h88_0 167 j = h88_0 167 j)))
                have r6 := r167 6
                have c214 := ev205.symm
                exact w_vret gz_185_275 gm_185 (k0 h180 (gh180) (by omega) (by omega) (by first | exact Ko_h180t204 | omega | exact Or.inl ⟨by omega, fillM_R zF (by first | exact Or.inl ⟨by omega, by omega⟩ | exact Or.inr ⟨by omega, Or.inl ⟨by omega, by omega⟩⟩ | exact Or.inr ⟨by omega, Or.inr ⟨by omega, by omega, by omega⟩⟩), by omega, by omega⟩ | exact Or.inr (Or.inr (Or.inl ⟨by omega, by omega, cutM_R zC (by first | exact Or.inl ⟨by omega, by omega⟩ | exact Or.inr ⟨by omega, Or.inl ⟨by omega, by omega⟩⟩ | exact Or.inr ⟨by omega, Or.inr ⟨by omega, by omega, by omega⟩⟩), by first | omega | exact cw9, by omega⟩)) | exact Or.inr (Or.inr (Or.inr (Or.inl ⟨by omega, by omega, by first | (rw [cw9]; exact fmE_R zW (by first | exact Or.inl ⟨by omega, by omega⟩ | exact Or.inr ⟨by omega, Or.inl ⟨by omega, by omega⟩⟩ | exact Or.inr ⟨by omega, Or.inr ⟨by omega, by omega, by omega⟩⟩)) | exact fmE_R zW (by first | exact Or.inl ⟨by omega, by omega⟩ | exact Or.inr ⟨by omega, Or.inl ⟨by omega, by omega⟩⟩ | exact Or.inr ⟨by omega, Or.inr ⟨by omega, by omega, by omega⟩⟩), by omega⟩))) | exact Or.inr (Or.inr (Or.inr (Or.inr (Or.inl ⟨by omega, by omega, joinM_R zJ (by first | exact Or.inl ⟨by omega, by omega⟩ | exact Or.inr ⟨by omega, Or.inl ⟨by omega, by omega⟩⟩ | exact Or.inr ⟨by omega, Or.inr ⟨by omega, by omega, by omega⟩⟩), fun _ => by omega, by omega⟩)))) | exact Or.inr (Or.inr (Or.inr (Or.inr (Or.inr (Or.inl ⟨by omega, by omega, sumM_R zS (by first | exact Or.inl ⟨by omega, by omega⟩ | exact Or.inr ⟨by omega, Or.inl ⟨by omega, by omega⟩⟩ | exact Or.inr ⟨by omega, Or.inr ⟨by omega, by omega, by omega⟩⟩), by first | omega | exact cw9, by omega⟩))))) | exact ⟨_, _, _, Or.inl ⟨by omega, fillM_R zF (by first | exact Or.inl ⟨by omega, by omega⟩ | exact Or.inr ⟨by omega, Or.inl ⟨by omega, by omega⟩⟩ | exact Or.inr ⟨by omega, Or.inr ⟨by omega, by omega, by omega⟩⟩), rfl, rfl⟩⟩ | exact ⟨_, _, _, Or.inr (Or.inr (Or.inl ⟨by omega, by omega, cutM_R zC (by first | exact Or.inl ⟨by omega, by omega⟩ | exact Or.inr ⟨by omega, Or.inl ⟨by omega, by omega⟩⟩ | exact Or.inr ⟨by omega, Or.inr ⟨by omega, by omega, by omega⟩⟩), rfl, rfl⟩))⟩ | exact ⟨_, _, _, Or.inr (Or.inr (Or.inr (Or.inl ⟨by omega, by omega, fmE_R zW (by first | exact Or.inl ⟨by omega, by omega⟩ | exact Or.inr ⟨by omega, Or.inl ⟨by omega, by omega⟩⟩ | exact Or.inr ⟨by omega, Or.inr ⟨by omega, by omega, by omega⟩⟩), rfl⟩)))⟩ | exact ⟨_, _, _, Or.inr (Or.inr (Or.inr (Or.inr (Or.inl ⟨by omega, by omega, joinM_R zJ (by first | exact Or.inl ⟨by omega, by omega⟩ | exact Or.inr ⟨by omega, Or.inl ⟨by omega, by omega⟩⟩ | exact Or.inr ⟨by omega, Or.inr ⟨by omega, by omega, by omega⟩⟩), fun q => absurd q (by omega), rfl⟩))))⟩ | exact ⟨_, _, _, Or.inr (Or.inr (Or.inr (Or.inr (Or.inr (Or.inl ⟨by omega, by omega, sumM_R zS (by first | exact Or.inl ⟨by omega, by omega⟩ | exact Or.inr ⟨by omega, Or.inl ⟨by omega, by omega⟩⟩ | exact Or.inr ⟨by omega, Or.inr ⟨by omega, by omega, by omega⟩⟩), rfl, rfl⟩)))))⟩ | exact ⟨0, 0, 0, Or.inr (Or.inl ⟨by omega, by omega, by omega⟩)⟩ | exact ⟨0, 0, 0, Or.inr (Or.inr (Or.inr (Or.inr (Or.inr (Or.inr (⟨by omega, by omega, by omega, by omega, by omega, by omega⟩))))))⟩ | omega) (by first | exact Ko_h180t204 | omega | exact Or.inl ⟨by omega, fillM_R zF (by first | exact Or.inl ⟨by omega, by omega⟩ | exact Or.inr ⟨by omega, Or.inl ⟨by omega, by omega⟩⟩ | exact Or.inr ⟨by omega, Or.inr ⟨by omega, by omega, by omega⟩⟩), by omega, by omega⟩ | exact Or.inr (Or.inr (Or.inl ⟨by omega, by omega, cutM_R zC (by first | exact Or.inl ⟨by omega, by omega⟩ | exact Or.inr ⟨by omega, Or.inl ⟨by omega, by omega⟩⟩ | exact Or.inr ⟨by omega, Or.inr ⟨by omega, by omega, by omega⟩⟩), by first | omega | exact cw9, by omega⟩)) | exact Or.inr (Or.inr (Or.inr (Or.inl ⟨by omega, by omega, by first | (rw [cw9]; exact fmE_R zW (by first | exact Or.inl ⟨by omega, by omega⟩ | exact Or.inr ⟨by omega, Or.inl ⟨by omega, by omega⟩⟩ | exact Or.inr ⟨by omega, Or.inr ⟨by omega, by omega, by omega⟩⟩)) | exact fmE_R zW (by first | exact Or.inl ⟨by omega, by omega⟩ | exact Or.inr ⟨by omega, Or.inl ⟨by omega, by omega⟩⟩ | exact Or.inr ⟨by omega, Or.inr ⟨by omega, by omega, by omega⟩⟩), by omega⟩))) | exact Or.inr (Or.inr (Or.inr (Or.inr (Or.inl ⟨by omega, by omega, joinM_R zJ (by first | exact Or.inl ⟨by omega, by omega⟩ | exact Or.inr ⟨by omega, Or.inl ⟨by omega, by omega⟩⟩ | exact Or.inr ⟨by omega, Or.inr ⟨by omega, by omega, by omega⟩⟩), fun _ => by omega, by omega⟩)))) | exact Or.inr (Or.inr (Or.inr (Or.inr (Or.inr (Or.inl ⟨by omega, by omega, sumM_R zS (by first | exact Or.inl ⟨by omega, by omega⟩ | exact Or.inr ⟨by omega, Or.inl ⟨by omega, by omega⟩⟩ | exact Or.inr ⟨by omega, Or.inr ⟨by omega, by omega, by omega⟩⟩), by first | omega | exact cw9, by omega⟩))))) | exact ⟨_, _, _, Or.inl ⟨by omega, fillM_R zF (by first | exact Or.inl ⟨by omega, by omega⟩ | exact Or.inr ⟨by omega, Or.inl ⟨by omega, by omega⟩⟩ | exact Or.inr ⟨by omega, Or.inr ⟨by omega, by omega, by omega⟩⟩), rfl, rfl⟩⟩ | exact ⟨_, _, _, Or.inr (Or.inr (Or.inl ⟨by omega, by omega, cutM_R zC (by first | exact Or.inl ⟨by omega, by omega⟩ | exact Or.inr ⟨by omega, Or.inl ⟨by omega, by omega⟩⟩ | exact Or.inr ⟨by omega, Or.inr ⟨by omega, by omega, by omega⟩⟩), rfl, rfl⟩))⟩ | exact ⟨_, _, _, Or.inr (Or.inr (Or.inr (Or.inl ⟨by omega, by omega, fmE_R zW (by first | exact Or.inl ⟨by omega, by omega⟩ | exact Or.inr ⟨by omega, Or.inl ⟨by omega, by omega⟩⟩ | exact Or.inr ⟨by omega, Or.inr ⟨by omega, by omega, by omega⟩⟩), rfl⟩)))⟩ | exact ⟨_, _, _, Or.inr (Or.inr (Or.inr (Or.inr (Or.inl ⟨by omega, by omega, joinM_R zJ (by first | exact Or.inl ⟨by omega, by omega⟩ | exact Or.inr ⟨by omega, Or.inl ⟨by omega, by omega⟩⟩ | exact Or.inr ⟨by omega, Or.inr ⟨by omega, by omega, by omega⟩⟩), fun q => absurd q (by omega), rfl⟩))))⟩ | exact ⟨_, _, _, Or.inr (Or.inr (Or.inr (Or.inr (Or.inr (Or.inl ⟨by omega, by omega, sumM_R zS (by first | exact Or.inl ⟨by omega, by omega⟩ | exact Or.inr ⟨by omega, Or.inl ⟨by omega, by omega⟩⟩ | exact Or.inr ⟨by omega, Or.inr ⟨by omega, by omega, by omega⟩⟩), rfl, rfl⟩)))))⟩ | exact ⟨0, 0, 0, Or.inr (Or.inl ⟨by omega, by omega, by omega⟩)⟩ | exact ⟨0, 0, 0, Or.inr (Or.inr (Or.inr (Or.inr (Or.inr (Or.inr (⟨by omega, by omega, by omega, by omega, by omega, by omega⟩))))))⟩ | omega) (by first | exact Ko_h180t204 | omega | exact Or.inl ⟨by omega, fillM_R zF (by first | exact Or.inl ⟨by omega, by omega⟩ | exact Or.inr ⟨by omega, Or.inl ⟨by omega, by omega⟩⟩ | exact Or.inr ⟨by omega, Or.inr ⟨by omega, by omega, by omega⟩⟩), by omega, by omega⟩ | exact Or.inr (Or.inr (Or.inl ⟨by omega, by omega, cutM_R zC (by first | exact Or.inl ⟨by omega, by omega⟩ | exact Or.inr ⟨by omega, Or.inl ⟨by omega, by omega⟩⟩ | exact Or.inr ⟨by omega, Or.inr ⟨by omega, by omega, by omega⟩⟩), by first | omega | exact cw9, by omega⟩)) | exact Or.inr (Or.inr (Or.inr (Or.inl ⟨by omega, by omega, by first | (rw [cw9]; exact fmE_R zW (by first | exact Or.inl ⟨by omega, by omega⟩ | exact Or.inr ⟨by omega, Or.inl ⟨by omega, by omega⟩⟩ | exact Or.inr ⟨by omega, Or.inr ⟨by omega, by omega, by omega⟩⟩)) | exact fmE_R zW (by first | exact Or.inl ⟨by omega, by omega⟩ | exact Or.inr ⟨by omega, Or.inl ⟨by omega, by omega⟩⟩ | exact Or.inr ⟨by omega, Or.inr ⟨by omega, by omega, by omega⟩⟩), by omega⟩))) | exact Or.inr (Or.inr (Or.inr (Or.inr (Or.inl ⟨by omega, by omega, joinM_R zJ (by first | exact Or.inl ⟨by omega, by omega⟩ | exact Or.inr ⟨by omega, Or.inl ⟨by omega, by omega⟩⟩ | exact Or.inr ⟨by omega, Or.inr ⟨by omega, by omega, by omega⟩⟩), fun _ => by omega, by omega⟩)))) | exact Or.inr (Or.inr (Or.inr (Or.inr (Or.inr (Or.inl ⟨by omega, by omega, sumM_R zS (by first | exact Or.inl ⟨by omega, by omega⟩ | exact Or.inr ⟨by omega, Or.inl ⟨by omega, by omega⟩⟩ | exact Or.inr ⟨by omega, Or.inr ⟨by omega, by omega, by omega⟩⟩), by first | omega | exact cw9, by omega⟩))))) | exact ⟨_, _, _, Or.inl ⟨by omega, fillM_R zF (by first | exact Or.inl ⟨by omega, by omega⟩ | exact Or.inr ⟨by omega, Or.inl ⟨by omega, by omega⟩⟩ | exact Or.inr ⟨by omega, Or.inr ⟨by omega, by omega, by omega⟩⟩), rfl, rfl⟩⟩ | exact ⟨_, _, _, Or.inr (Or.inr (Or.inl ⟨by omega, by omega, cutM_R zC (by first | exact Or.inl ⟨by omega, by omega⟩ | exact Or.inr ⟨by omega, Or.inl ⟨by omega, by omega⟩⟩ | exact Or.inr ⟨by omega, Or.inr ⟨by omega, by omega, by omega⟩⟩), rfl, rfl⟩))⟩ | exact ⟨_, _, _, Or.inr (Or.inr (Or.inr (Or.inl ⟨by omega, by omega, fmE_R zW (by first | exact Or.inl ⟨by omega, by omega⟩ | exact Or.inr ⟨by omega, Or.inl ⟨by omega, by omega⟩⟩ | exact Or.inr ⟨by omega, Or.inr ⟨by omega, by omega, by omega⟩⟩), rfl⟩)))⟩ | exact ⟨_, _, _, Or.inr (Or.inr (Or.inr (Or.inr (Or.inl ⟨by omega, by omega, joinM_R zJ (by first | exact Or.inl ⟨by omega, by omega⟩ | exact Or.inr ⟨by omega, Or.inl ⟨by omega, by omega⟩⟩ | exact Or.inr ⟨by omega, Or.inr ⟨by omega, by omega, by omega⟩⟩), fun q => absurd q (by omega), rfl⟩))))⟩ | exact ⟨_, _, _, Or.inr (Or.inr (Or.inr (Or.inr (Or.inr (Or.inl ⟨by omega, by omega, sumM_R zS (by first | exact Or.inl ⟨by omega, by omega⟩ | exact Or.inr ⟨by omega, Or.inl ⟨by omega, by omega⟩⟩ | exact Or.inr ⟨by omega, Or.inr ⟨by omega, by omega, by omega⟩⟩), rfl, rfl⟩)))))⟩ | exact ⟨0, 0, 0, Or.inr (Or.inl ⟨by omega, by omega, by omega⟩)⟩ | exact ⟨0, 0, 0, Or.inr (Or.inr (Or.inr (Or.inr (Or.inr (Or.inr (⟨by omega, by omega, by omega, by omega, by omega, by omega⟩))))))⟩ | omega) Tok_h180t211 Mq_h180t187 Wrd_h180 Wd9_h180t188)
              ·
                have gh189 : my_fr [(10, 7), (10, 8), (10, 27), (66, -1), (67, -1), (68, -1), (69, -1), (70, -1), (71, -1), (72, -1), (73, -1), (74, -1), (75, -1), (77, -1), (78, -1), (79, -1)] h h189 := my_fr.tr gh6 (frh189.mo rfl)
                have Wrd_h189 : Wrd h189 := Wrd_ag (my_ag.fr frh189 rfl) Wrd_h6
                have Wd9_h189 : Wd9 h189 := Wd9_ag (my_ag.fr frh189 rfl) Wd9_h6
                show wp l rho (d + 4) 185 168 [(2, 151), (0, p88_0), (0, p88_1), (0, p88_2), (0, p88_3), (0, (36 + v10)), (9, 0), (9, 0)] [] h189 Q
                have ps215 : h6 151 7 = (sN (sm h) (h 151 7)) := ps7
                rw [ps215] at xp195
                have tE216 : sm h6 = sm h := sm_eq (fun j => my_fr.at gh6 is_153 rfl) (fun j => my_fr.at gh6 is_154 rfl) (fun j => my_fr.at gh6 is_155 rfl)
                rw [tE216] at xp196
                rw [ps215] at xp196
                have q27 : h6 151 27 = h 151 27 := by omega
                have q57 : h6 157 = h 157 := funext (fun j => my_fr.at gh6 is_157 rfl)
                have zS := xp196
                simp only [q27, q57] at zS
                have pk := xp193
                have pk3 := xp194
                have kd := xp197
                have Ko_h189t217 : Ko h h189 := Ko_tr Ko_h6 xp198
                refine w_goto (t := 228) gz_185_168 rfl ?_
                refine w_aload_n gz_185_228 rfl ?_
                refine v_getI (j := 8) gz_185_229 rfl is_151 rd_10 rfl (fun v218 ev218 pv218 qv218 => ?_)
                have zv218 := ev218.trans w192
                refine w_ifne (t := 269) gz_185_232 rfl (fun u219 => by exfalso; omega) (fun u219 => ?_)
                refine w_iload_n gz_185_235 rfl ?_
                refine w_ifne (t := 252) gz_185_236 rfl (fun u220 => by exfalso; omega) (fun u220 => ?_)
                refine w_iload_n gz_185_239 rfl ?_
                refine w_ifne (t := 252) gz_185_240 rfl (fun u221 => by exfalso; omega) (fun u221 => ?_)
                refine w_iload_n gz_185_243 rfl ?_
                refine w_ifne (t := 252) gz_185_244 rfl (fun u222 => by exfalso; omega) (fun u222 => ?_)
                refine w_iload gz_185_247 rfl ?_
                refine w_ifeq (t := 269) gz_185_249 rfl (fun u223 => by exfalso; omega) (fun u223 => ?_)
                refine w_aload_n gz_185_252 rfl ?_
                refine w_iload gz_185_253 rfl ?_
                have d167 : ∀ j : Int, h189 167 j = h88_0 167 j := fun j => ((my_fr.at frh189 is_167 rfl).trans ((my_up_role fh6 is_167 is_151 rfl).trans (rfl : h88_0 167 j = h88_0 167 j)))
                have d6 := d167 6
                have mr0 := Mq_h189t200
                have ce224 : h189 151 27 = k151_27 := ((my_fr.at frh189 is_151 rfl).trans ((my_up_fld fh6 (by decide)).trans c151_27_88_0))
                refine w_inv (k := 1) (as := [(0, (36 + v10))]) (r := []) (x := 151) (ls0 := [(2, 151), (0, (36 + v10)), (9, 0)]) gz_185_255 gm_182 rfl is_151 rd_10 rfl rfl rfl rfl rfl (c_Model_pane2_f0 (d := (d + 3)) (x1 := (36 + v10)) (by omega) (by omega) (ev218.symm.trans (by omega)) (pk.1) (fun h225 frh225 w226 xp227 xp228 => ?_))
                have gh225 : my_fr [(10, 7), (10, 8), (10, 27), (66, -1), (67, -1), (68, -1), (69, -1), (70, -1), (71, -1), (72, -1), (73, -1), (74, -1), (75, -1), (77, -1), (78, -1), (79, -1)] h h225 := my_fr.tr gh189 (frh225.mo rfl)
                have Wrd_h225 : Wrd h225 := Wrd_ag (my_ag.fr frh225 rfl) Wrd_h189
                have Wd9_h225 : Wd9 h225 := Wd9_ag (my_ag.fr frh225 rfl) Wd9_h189t201
                have Tok_h225 : Tok h225 := Tok_ag (my_ag.fr frh225 rfl) Tok_h189t199
                have Ko_h225 : Ko h h225 := Ko_ag (my_ag.fr frh225 rfl) Ko_h189t217
                show wp l rho (d + 4) 185 258 [(2, 151), (0, p88_0), (0, p88_1), (0, p88_2), (0, p88_3), (0, (36 + v10)), (9, 0), (9, 0)] [] h225 Q
                have ag0 : my_ag M3F h189 h225 := my_ag.fr frh225 rfl
                have e27 := xp227
                have e67 : h225 167 6 = h189 167 6 := ag0.at mis_167 rfl
                have mc := ms_c e27
                try (have m3 := mc.2.2.1 kd; rw [← m3] at zW)
                try (have q58 : h189 157 = h 157 := funext (fun j => my_fr.at gh189 is_157 rfl); have j4 := mc.2.1 kd.1; rw [kd.2, q58] at j4)
                refine w_aload_n gz_185_258 rfl ?_
                refine w_getX (v := 167) gz_185_259 is_151 rd_10 rfl (by decide) rfl ?_
                refine w_bipush gz_185_262 (by decide) ?_
                refine w_dup2 gz_185_264 rfl rfl ?_
                refine w_iald gz_185_265 is_167 rd_66 (by omega) (by omega) (fun v230 ev230 pv230 qv230 => ?_)
                have zv230 := ev230.trans ((my_fr.at frh225 is_167 rfl).trans ((my_fr.at frh189 is_167 rfl).trans ev10.symm))
                refine w_iconst gz_185_266 (by decide) ?_
                refine w_iadd gz_185_267 ⟨by omega, by omega⟩ ?_
                have hi231 : 0 ≤ (v230 + 1) := by omega
                have hi232 : (v230 + 1) ≤ 6 := by omega
                refine w_iast gz_185_268 is_167 rd_66 (by omega) (by omega) (by omega) (by omega) (fun h233 fh233 => ?_)
                have gh233 : my_fr [(10, 7), (10, 8), (10, 27), (66, -1), (67, -1), (68, -1), (69, -1), (70, -1), (71, -1), (72, -1), (73, -1), (74, -1), (75, -1), (77, -1), (78, -1), (79, -1)] h h233 := my_fr.up gh225 is_167 fh233 rfl
                have Wrd_h233 : Wrd h233 := Wrd_ag (my_ag.up fh233 is_167 rfl) Wrd_h225
                have Wd9_h233 : Wd9 h233 := Wd9_ag (my_ag.up fh233 is_167 rfl) Wd9_h225
                have Tok_h233 : Tok h233 := Tok_ag (my_ag.up fh233 is_167 rfl) Tok_h225
                have Ko_h233 : Ko h h233 := Ko_7 (a := 167) hwv (by decide) (by omega) fh233 Ko_h225
                have Mq_h233t234 : Mq h233 wv := Mq_add mr0 (by omega) pk pk3 ag0 e27 fh233 (by omega) (by omega)
                have k6 := my_up_self fh233
                refine w_aload_n gz_185_269 rfl ?_
                refine w_bipush gz_185_270 (by decide) ?_
                have ce235 : h233 151 7 = (h189 151 7) := ((my_up_role fh233 is_151 is_167 rfl).trans ((my_fr.at frh225 is_151 rfl).trans (rfl : h189 151 7 = h189 151 7)))
                refine w_inv (k := 0) (as := [(0, 59)]) (r := []) (x := 151) (ls0 := [(2, 151), (0, 59)]) gz_185_272 gm_183 rfl is_151 rd_10 rfl rfl rfl rfl rfl (c_Model_takeSign9_f0 (d := (d + 2))  (((my_up_role fh233 is_151 is_167 rfl).trans ((my_fr.at frh225 is_151 rfl).trans ev218.symm)).trans (by omega)) Tok_h233 (fun h236 frh236 w237 w238 xp239 xp240 xp241 Tok_h236t242 => ?_) (fun h243 frh243 w244 w245 w246 xp247 xp248 xp249 Tok_h243t250 => ?_))
                ·
                  have gh236 : my_fr [(10, 7), (10, 8), (10, 27), (66, -1), (67, -1), (68, -1), (69, -1), (70, -1), (71, -1), (72, -1), (73, -1), (74, -1), (75, -1), (77, -1), (78, -1), (79, -1)] h h236 := my_fr.tr gh233 (frh236.mo rfl)
                  have Wrd_h236 : Wrd h236 := Wrd_ag (my_ag.fr frh236 rfl) Wrd_h233
                  have Wd9_h236 : Wd9 h236 := Wd9_ag (my_ag.fr frh236 rfl) Wd9_h233
                  have Ko_h236 : Ko h h236 := Ko_ag (my_ag.fr frh236 rfl) Ko_h233
                  have Mq_h236 : Mq h236 wv := Mq_ag (my_ag.fr frh236 rfl) Mq_h233t234
                  show wp l rho (d + 4) 185 275 [(2, 151), (0, p88_0), (0, p88_1), (0, p88_2), (0, p88_3), (0, (36 + v10)), (9, 0), (9, 0)] [] h236 Q
                  have ps251 : h233 151 7 = h189 151 7 := ((my_up_role fh233 is_151 is_167 rfl).trans ((my_fr.at frh225 is_151 rfl).trans (rfl : h189 151 7 = h189 151 7)))
                  rw [ps251] at xp239
                  have tE252 : sm h233 = sm h := sm_eq (fun j => my_fr.at gh233 is_153 rfl) (fun j => my_fr.at gh233 is_154 rfl) (fun j => my_fr.at gh233 is_155 rfl)
                  rw [tE252] at xp240
                  rw [ps251] at xp240
                  rw [tE252] at xp241
                  rw [ps251] at xp241
                  have psR : h236 151 7 = h236 151 7 := (rfl : h236 151 7 = h236 151 7)
                  have npsR : sm h236 = sm h := sm_eq (fun j => my_fr.at gh236 is_153 rfl) (fun j => my_fr.at gh236 is_154 rfl) (fun j => my_fr.at gh236 is_155 rfl)
                  have ce253 : h236 151 8 = (h236 151 8) := (rfl : h236 151 8 = h236 151 8)
                  have ce254 : h236 151 27 = h225 151 27 := ((my_fr.at frh236 is_151 rfl).trans ((my_up_role fh233 is_151 is_167 rfl).trans (rfl : h225 151 27 = h225 151 27)))
                  have r167 : ∀ j : Int, h236 167 j = h233 167 j := fun j => ((my_fr.at frh236 is_167 rfl).trans (rfl : h233 167 j = h233 167 j))
                  have r6 := r167 6
                  have cw9 : h236 151 27 = h225 151 27 := by omega
                  have c255 := (rfl : h236 151 8 = h236 151 8)
                  exact w_vret gz_185_275 gm_185 (k0 h236 (gh236) (by omega) (by omega) (by first | exact Ko_h236 | omega | exact Or.inl ⟨by omega, fillM_R zF (by first | exact Or.inl ⟨by omega, by omega⟩ | exact Or.inr ⟨by omega, Or.inl ⟨by omega, by omega⟩⟩ | exact Or.inr ⟨by omega, Or.inr ⟨by omega, by omega, by omega⟩⟩), by omega, by omega⟩ | exact Or.inr (Or.inr (Or.inl ⟨by omega, by omega, cutM_R zC (by first | exact Or.inl ⟨by omega, by omega⟩ | exact Or.inr ⟨by omega, Or.inl ⟨by omega, by omega⟩⟩ | exact Or.inr ⟨by omega, Or.inr ⟨by omega, by omega, by omega⟩⟩), by first | omega | exact cw9, by omega⟩)) | exact Or.inr (Or.inr (Or.inr (Or.inl ⟨by omega, by omega, by first | (rw [cw9]; exact fmE_R zW (by first | exact Or.inl ⟨by omega, by omega⟩ | exact Or.inr ⟨by omega, Or.inl ⟨by omega, by omega⟩⟩ | exact Or.inr ⟨by omega, Or.inr ⟨by omega, by omega, by omega⟩⟩)) | exact fmE_R zW (by first | exact Or.inl ⟨by omega, by omega⟩ | exact Or.inr ⟨by omega, Or.inl ⟨by omega, by omega⟩⟩ | exact Or.inr ⟨by omega, Or.inr ⟨by omega, by omega, by omega⟩⟩), by omega⟩))) | exact Or.inr (Or.inr (Or.inr (Or.inr (Or.inl ⟨by omega, by omega, joinM_R zJ (by first | exact Or.inl ⟨by omega, by omega⟩ | exact Or.inr ⟨by omega, Or.inl ⟨by omega, by omega⟩⟩ | exact Or.inr ⟨by omega, Or.inr ⟨by omega, by omega, by omega⟩⟩), fun _ => by omega, by omega⟩)))) | exact Or.inr (Or.inr (Or.inr (Or.inr (Or.inr (Or.inl ⟨by omega, by omega, sumM_R zS (by first | exact Or.inl ⟨by omega, by omega⟩ | exact Or.inr ⟨by omega, Or.inl ⟨by omega, by omega⟩⟩ | exact Or.inr ⟨by omega, Or.inr ⟨by omega, by omega, by omega⟩⟩), by first | omega | exact cw9, by omega⟩))))) | exact ⟨_, _, _, Or.inl ⟨by omega, fillM_R zF (by first | exact Or.inl ⟨by omega, by omega⟩ | exact Or.inr ⟨by omega, Or.inl ⟨by omega, by omega⟩⟩ | exact Or.inr ⟨by omega, Or.inr ⟨by omega, by omega, by omega⟩⟩), rfl, rfl⟩⟩ | exact ⟨_, _, _, Or.inr (Or.inr (Or.inl ⟨by omega, by omega, cutM_R zC (by first | exact Or.inl ⟨by omega, by omega⟩ | exact Or.inr ⟨by omega, Or.inl ⟨by omega, by omega⟩⟩ | exact Or.inr ⟨by omega, Or.inr ⟨by omega, by omega, by omega⟩⟩), rfl, rfl⟩))⟩ | exact ⟨_, _, _, Or.inr (Or.inr (Or.inr (Or.inl ⟨by omega, by omega, fmE_R zW (by first | exact Or.inl ⟨by omega, by omega⟩ | exact Or.inr ⟨by omega, Or.inl ⟨by omega, by omega⟩⟩ | exact Or.inr ⟨by omega, Or.inr ⟨by omega, by omega, by omega⟩⟩), rfl⟩)))⟩ | exact ⟨_, _, _, Or.inr (Or.inr (Or.inr (Or.inr (Or.inl ⟨by omega, by omega, joinM_R zJ (by first | exact Or.inl ⟨by omega, by omega⟩ | exact Or.inr ⟨by omega, Or.inl ⟨by omega, by omega⟩⟩ | exact Or.inr ⟨by omega, Or.inr ⟨by omega, by omega, by omega⟩⟩), fun q => absurd q (by omega), rfl⟩))))⟩ | exact ⟨_, _, _, Or.inr (Or.inr (Or.inr (Or.inr (Or.inr (Or.inl ⟨by omega, by omega, sumM_R zS (by first | exact Or.inl ⟨by omega, by omega⟩ | exact Or.inr ⟨by omega, Or.inl ⟨by omega, by omega⟩⟩ | exact Or.inr ⟨by omega, Or.inr ⟨by omega, by omega, by omega⟩⟩), rfl, rfl⟩)))))⟩ | exact ⟨0, 0, 0, Or.inr (Or.inl ⟨by omega, by omega, by omega⟩)⟩ | exact ⟨0, 0, 0, Or.inr (Or.inr (Or.inr (Or.inr (Or.inr (Or.inr (⟨by omega, by omega, by omega, by omega, by omega, by omega⟩))))))⟩ | omega) (by first | exact Ko_h236 | omega | exact Or.inl ⟨by omega, fillM_R zF (by first | exact Or.inl ⟨by omega, by omega⟩ | exact Or.inr ⟨by omega, Or.inl ⟨by omega, by omega⟩⟩ | exact Or.inr ⟨by omega, Or.inr ⟨by omega, by omega, by omega⟩⟩), by omega, by omega⟩ | exact Or.inr (Or.inr (Or.inl ⟨by omega, by omega, cutM_R zC (by first | exact Or.inl ⟨by omega, by omega⟩ | exact Or.inr ⟨by omega, Or.inl ⟨by omega, by omega⟩⟩ | exact Or.inr ⟨by omega, Or.inr ⟨by omega, by omega, by omega⟩⟩), by first | omega | exact cw9, by omega⟩)) | exact Or.inr (Or.inr (Or.inr (Or.inl ⟨by omega, by omega, by first | (rw [cw9]; exact fmE_R zW (by first | exact Or.inl ⟨by omega, by omega⟩ | exact Or.inr ⟨by omega, Or.inl ⟨by omega, by omega⟩⟩ | exact Or.inr ⟨by omega, Or.inr ⟨by omega, by omega, by omega⟩⟩)) | exact fmE_R zW (by first | exact Or.inl ⟨by omega, by omega⟩ | exact Or.inr ⟨by omega, Or.inl ⟨by omega, by omega⟩⟩ | exact Or.inr ⟨by omega, Or.inr ⟨by omega, by omega, by omega⟩⟩), by omega⟩))) | exact Or.inr (Or.inr (Or.inr (Or.inr (Or.inl ⟨by omega, by omega, joinM_R zJ (by first | exact Or.inl ⟨by omega, by omega⟩ | exact Or.inr ⟨by omega, Or.inl ⟨by omega, by omega⟩⟩ | exact Or.inr ⟨by omega, Or.inr ⟨by omega, by omega, by omega⟩⟩), fun _ => by omega, by omega⟩)))) | exact Or.inr (Or.inr (Or.inr (Or.inr (Or.inr (Or.inl ⟨by omega, by omega, sumM_R zS (by first | exact Or.inl ⟨by omega, by omega⟩ | exact Or.inr ⟨by omega, Or.inl ⟨by omega, by omega⟩⟩ | exact Or.inr ⟨by omega, Or.inr ⟨by omega, by omega, by omega⟩⟩), by first | omega | exact cw9, by omega⟩))))) | exact ⟨_, _, _, Or.inl ⟨by omega, fillM_R zF (by first | exact Or.inl ⟨by omega, by omega⟩ | exact Or.inr ⟨by omega, Or.inl ⟨by omega, by omega⟩⟩ | exact Or.inr ⟨by omega, Or.inr ⟨by omega, by omega, by omega⟩⟩), rfl, rfl⟩⟩ | exact ⟨_, _, _, Or.inr (Or.inr (Or.inl ⟨by omega, by omega, cutM_R zC (by first | exact Or.inl ⟨by omega, by omega⟩ | exact Or.inr ⟨by omega, Or.inl ⟨by omega, by omega⟩⟩ | exact Or.inr ⟨by omega, Or.inr ⟨by omega, by omega, by omega⟩⟩), rfl, rfl⟩))⟩ | exact ⟨_, _, _, Or.inr (Or.inr (Or.inr (Or.inl ⟨by omega, by omega, fmE_R zW (by first | exact Or.inl ⟨by omega, by omega⟩ | exact Or.inr ⟨by omega, Or.inl ⟨by omega, by omega⟩⟩ | exact Or.inr ⟨by omega, Or.inr ⟨by omega, by omega, by omega⟩⟩), rfl⟩)))⟩ | exact ⟨_, _, _, Or.inr (Or.inr (Or.inr (Or.inr (Or.inl ⟨by omega, by omega, joinM_R zJ (by first | exact Or.inl ⟨by omega, by omega⟩ | exact Or.inr ⟨by omega, Or.inl ⟨by omega, by omega⟩⟩ | exact Or.inr ⟨by omega, Or.inr ⟨by omega, by omega, by omega⟩⟩), fun q => absurd q (by omega), rfl⟩))))⟩ | exact ⟨_, _, _, Or.inr (Or.inr (Or.inr (Or.inr (Or.inr (Or.inl ⟨by omega, by omega, sumM_R zS (by first | exact Or.inl ⟨by omega, by omega⟩ | exact Or.inr ⟨by omega, Or.inl ⟨by omega, by omega⟩⟩ | exact Or.inr ⟨by omega, Or.inr ⟨by omega, by omega, by omega⟩⟩), rfl, rfl⟩)))))⟩ | exact ⟨0, 0, 0, Or.inr (Or.inl ⟨by omega, by omega, by omega⟩)⟩ | exact ⟨0, 0, 0, Or.inr (Or.inr (Or.inr (Or.inr (Or.inr (Or.inr (⟨by omega, by omega, by omega, by omega, by omega, by omega⟩))))))⟩ | omega) (by first | exact Ko_h236 | omega | exact Or.inl ⟨by omega, fillM_R zF (by first | exact Or.inl ⟨by omega, by omega⟩ | exact Or.inr ⟨by omega, Or.inl ⟨by omega, by omega⟩⟩ | exact Or.inr ⟨by omega, Or.inr ⟨by omega, by omega, by omega⟩⟩), by omega, by omega⟩ | exact Or.inr (Or.inr (Or.inl ⟨by omega, by omega, cutM_R zC (by first | exact Or.inl ⟨by omega, by omega⟩ | exact Or.inr ⟨by omega, Or.inl ⟨by omega, by omega⟩⟩ | exact Or.inr ⟨by omega, Or.inr ⟨by omega, by omega, by omega⟩⟩), by first | omega | exact cw9, by omega⟩)) | exact Or.inr (Or.inr (Or.inr (Or.inl ⟨by omega, by omega, by first | (rw [cw9]; exact fmE_R zW (by first | exact Or.inl ⟨by omega, by omega⟩ | exact Or.inr ⟨by omega, Or.inl ⟨by omega, by omega⟩⟩ | exact Or.inr ⟨by omega, Or.inr ⟨by omega, by omega, by omega⟩⟩)) | exact fmE_R zW (by first | exact Or.inl ⟨by omega, by omega⟩ | exact Or.inr ⟨by omega, Or.inl ⟨by omega, by omega⟩⟩ | exact Or.inr ⟨by omega, Or.inr ⟨by omega, by omega, by omega⟩⟩), by omega⟩))) | exact Or.inr (Or.inr (Or.inr (Or.inr (Or.inl ⟨by omega, by omega, joinM_R zJ (by first | exact Or.inl ⟨by omega, by omega⟩ | exact Or.inr ⟨by omega, Or.inl ⟨by omega, by omega⟩⟩ | exact Or.inr ⟨by omega, Or.inr ⟨by omega, by omega, by omega⟩⟩), fun _ => by omega, by omega⟩)))) | exact Or.inr (Or.inr (Or.inr (Or.inr (Or.inr (Or.inl ⟨by omega, by omega, sumM_R zS (by first | exact Or.inl ⟨by omega, by omega⟩ | exact Or.inr ⟨by omega, Or.inl ⟨by omega, by omega⟩⟩ | exact Or.inr ⟨by omega, Or.inr ⟨by omega, by omega, by omega⟩⟩), by first | omega | exact cw9, by omega⟩))))) | exact ⟨_, _, _, Or.inl ⟨by omega, fillM_R zF (by first | exact Or.inl ⟨by omega, by omega⟩ | exact Or.inr ⟨by omega, Or.inl ⟨by omega, by omega⟩⟩ | exact Or.inr ⟨by omega, Or.inr ⟨by omega, by omega, by omega⟩⟩), rfl, rfl⟩⟩ | exact ⟨_, _, _, Or.inr (Or.inr (Or.inl ⟨by omega, by omega, cutM_R zC (by first | exact Or.inl ⟨by omega, by omega⟩ | exact Or.inr ⟨by omega, Or.inl ⟨by omega, by omega⟩⟩ | exact Or.inr ⟨by omega, Or.inr ⟨by omega, by omega, by omega⟩⟩), rfl, rfl⟩))⟩ | exact ⟨_, _, _, Or.inr (Or.inr (Or.inr (Or.inl ⟨by omega, by omega, fmE_R zW (by first | exact Or.inl ⟨by omega, by omega⟩ | exact Or.inr ⟨by omega, Or.inl ⟨by omega, by omega⟩⟩ | exact Or.inr ⟨by omega, Or.inr ⟨by omega, by omega, by omega⟩⟩), rfl⟩)))⟩ | exact ⟨_, _, _, Or.inr (Or.inr (Or.inr (Or.inr (Or.inl ⟨by omega, by omega, joinM_R zJ (by first | exact Or.inl ⟨by omega, by omega⟩ | exact Or.inr ⟨by omega, Or.inl ⟨by omega, by omega⟩⟩ | exact Or.inr ⟨by omega, Or.inr ⟨by omega, by omega, by omega⟩⟩), fun q => absurd q (by omega), rfl⟩))))⟩ | exact ⟨_, _, _, Or.inr (Or.inr (Or.inr (Or.inr (Or.inr (Or.inl ⟨by omega, by omega, sumM_R zS (by first | exact Or.inl ⟨by omega, by omega⟩ | exact Or.inr ⟨by omega, Or.inl ⟨by omega, by omega⟩⟩ | exact Or.inr ⟨by omega, Or.inr ⟨by omega, by omega, by omega⟩⟩), rfl, rfl⟩)))))⟩ | exact ⟨0, 0, 0, Or.inr (Or.inl ⟨by omega, by omega, by omega⟩)⟩ | exact ⟨0, 0, 0, Or.inr (Or.inr (Or.inr (Or.inr (Or.inr (Or.inr (⟨by omega, by omega, by omega, by omega, by omega, by omega⟩))))))⟩ | omega) Tok_h236t242 Mq_h236 Wrd_h236 Wd9_h236)
                ·
                  have gh243 : my_fr [(10, 7), (10, 8), (10, 27), (66, -1), (67, -1), (68, -1), (69, -1), (70, -1), (71, -1), (72, -1), (73, -1), (74, -1), (75, -1), (77, -1), (78, -1), (79, -1)] h h243 := my_fr.tr gh233 (frh243.mo rfl)
                  have Wrd_h243 : Wrd h243 := Wrd_ag (my_ag.fr frh243 rfl) Wrd_h233
                  have Wd9_h243 : Wd9 h243 := Wd9_ag (my_ag.fr frh243 rfl) Wd9_h233
                  have Ko_h243 : Ko h h243 := Ko_ag (my_ag.fr frh243 rfl) Ko_h233
                  have Mq_h243 : Mq h243 wv := Mq_ag (my_ag.fr frh243 rfl) Mq_h233t234
                  show wp l rho (d + 4) 185 275 [(2, 151), (0, p88_0), (0, p88_1), (0, p88_2), (0, p88_3), (0, (36 + v10)), (9, 0), (9, 0)] [] h243 Q
                  have ps256 : h233 151 7 = h189 151 7 := ((my_up_role fh233 is_151 is_167 rfl).trans ((my_fr.at frh225 is_151 rfl).trans (rfl : h189 151 7 = h189 151 7)))
                  rw [ps256] at xp247
                  have tE257 : sm h233 = sm h := sm_eq (fun j => my_fr.at gh233 is_153 rfl) (fun j => my_fr.at gh233 is_154 rfl) (fun j => my_fr.at gh233 is_155 rfl)
                  rw [tE257] at xp248
                  rw [ps256] at xp248
                  rw [tE257] at xp249
                  rw [ps256] at xp249
                  have psR : h243 151 7 = (sN (sm h) ((h189 151 7))) := xp248
                  have npsR : sm h243 = sm h := sm_eq (fun j => my_fr.at gh243 is_153 rfl) (fun j => my_fr.at gh243 is_154 rfl) (fun j => my_fr.at gh243 is_155 rfl)
                  have ce258 : h243 151 7 = (h243 151 7) := (rfl : h243 151 7 = h243 151 7)
                  have ce259 : h243 151 8 = 0 := w246
                  have ce260 : h243 151 27 = h225 151 27 := ((my_fr.at frh243 is_151 rfl).trans ((my_up_role fh233 is_151 is_167 rfl).trans (rfl : h225 151 27 = h225 151 27)))
                  have r167 : ∀ j : Int, h243 167 j = h233 167 j := fun j => ((my_fr.at frh243 is_167 rfl).trans (rfl : h233 167 j = h233 167 j))
                  have r6 := r167 6
                  have cw9 : h243 151 27 = h225 151 27 := by omega
                  have c261 := (rfl : h243 151 7 = h243 151 7)
                  have c262 := w246
                  exact w_vret gz_185_275 gm_185 (k1 h243 (gh243) (by omega) (by omega) (by omega) (by first | exact Ko_h243 | omega | exact Or.inl ⟨by omega, fillM_R zF (by first | exact Or.inl ⟨by omega, by omega⟩ | exact Or.inr ⟨by omega, Or.inl ⟨by omega, by omega⟩⟩ | exact Or.inr ⟨by omega, Or.inr ⟨by omega, by omega, by omega⟩⟩), by omega, by omega⟩ | exact Or.inr (Or.inr (Or.inl ⟨by omega, by omega, cutM_R zC (by first | exact Or.inl ⟨by omega, by omega⟩ | exact Or.inr ⟨by omega, Or.inl ⟨by omega, by omega⟩⟩ | exact Or.inr ⟨by omega, Or.inr ⟨by omega, by omega, by omega⟩⟩), by first | omega | exact cw9, by omega⟩)) | exact Or.inr (Or.inr (Or.inr (Or.inl ⟨by omega, by omega, by first | (rw [cw9]; exact fmE_R zW (by first | exact Or.inl ⟨by omega, by omega⟩ | exact Or.inr ⟨by omega, Or.inl ⟨by omega, by omega⟩⟩ | exact Or.inr ⟨by omega, Or.inr ⟨by omega, by omega, by omega⟩⟩)) | exact fmE_R zW (by first | exact Or.inl ⟨by omega, by omega⟩ | exact Or.inr ⟨by omega, Or.inl ⟨by omega, by omega⟩⟩ | exact Or.inr ⟨by omega, Or.inr ⟨by omega, by omega, by omega⟩⟩), by omega⟩))) | exact Or.inr (Or.inr (Or.inr (Or.inr (Or.inl ⟨by omega, by omega, joinM_R zJ (by first | exact Or.inl ⟨by omega, by omega⟩ | exact Or.inr ⟨by omega, Or.inl ⟨by omega, by omega⟩⟩ | exact Or.inr ⟨by omega, Or.inr ⟨by omega, by omega, by omega⟩⟩), fun _ => by omega, by omega⟩)))) | exact Or.inr (Or.inr (Or.inr (Or.inr (Or.inr (Or.inl ⟨by omega, by omega, sumM_R zS (by first | exact Or.inl ⟨by omega, by omega⟩ | exact Or.inr ⟨by omega, Or.inl ⟨by omega, by omega⟩⟩ | exact Or.inr ⟨by omega, Or.inr ⟨by omega, by omega, by omega⟩⟩), by first | omega | exact cw9, by omega⟩))))) | exact ⟨_, _, _, Or.inl ⟨by omega, fillM_R zF (by first | exact Or.inl ⟨by omega, by omega⟩ | exact Or.inr ⟨by omega, Or.inl ⟨by omega, by omega⟩⟩ | exact Or.inr ⟨by omega, Or.inr ⟨by omega, by omega, by omega⟩⟩), rfl, rfl⟩⟩ | exact ⟨_, _, _, Or.inr (Or.inr (Or.inl ⟨by omega, by omega, cutM_R zC (by first | exact Or.inl ⟨by omega, by omega⟩ | exact Or.inr ⟨by omega, Or.inl ⟨by omega, by omega⟩⟩ | exact Or.inr ⟨by omega, Or.inr ⟨by omega, by omega, by omega⟩⟩), rfl, rfl⟩))⟩ | exact ⟨_, _, _, Or.inr (Or.inr (Or.inr (Or.inl ⟨by omega, by omega, fmE_R zW (by first | exact Or.inl ⟨by omega, by omega⟩ | exact Or.inr ⟨by omega, Or.inl ⟨by omega, by omega⟩⟩ | exact Or.inr ⟨by omega, Or.inr ⟨by omega, by omega, by omega⟩⟩), rfl⟩)))⟩ | exact ⟨_, _, _, Or.inr (Or.inr (Or.inr (Or.inr (Or.inl ⟨by omega, by omega, joinM_R zJ (by first | exact Or.inl ⟨by omega, by omega⟩ | exact Or.inr ⟨by omega, Or.inl ⟨by omega, by omega⟩⟩ | exact Or.inr ⟨by omega, Or.inr ⟨by omega, by omega, by omega⟩⟩), fun q => absurd q (by omega), rfl⟩))))⟩ | exact ⟨_, _, _, Or.inr (Or.inr (Or.inr (Or.inr (Or.inr (Or.inl ⟨by omega, by omega, sumM_R zS (by first | exact Or.inl ⟨by omega, by omega⟩ | exact Or.inr ⟨by omega, Or.inl ⟨by omega, by omega⟩⟩ | exact Or.inr ⟨by omega, Or.inr ⟨by omega, by omega, by omega⟩⟩), rfl, rfl⟩)))))⟩ | exact ⟨0, 0, 0, Or.inr (Or.inl ⟨by omega, by omega, by omega⟩)⟩ | exact ⟨0, 0, 0, Or.inr (Or.inr (Or.inr (Or.inr (Or.inr (Or.inr (⟨by omega, by omega, by omega, by omega, by omega, by omega⟩))))))⟩ | omega) (by first | exact Ko_h243 | omega | exact Or.inl ⟨by omega, fillM_R zF (by first | exact Or.inl ⟨by omega, by omega⟩ | exact Or.inr ⟨by omega, Or.inl ⟨by omega, by omega⟩⟩ | exact Or.inr ⟨by omega, Or.inr ⟨by omega, by omega, by omega⟩⟩), by omega, by omega⟩ | exact Or.inr (Or.inr (Or.inl ⟨by omega, by omega, cutM_R zC (by first | exact Or.inl ⟨by omega, by omega⟩ | exact Or.inr ⟨by omega, Or.inl ⟨by omega, by omega⟩⟩ | exact Or.inr ⟨by omega, Or.inr ⟨by omega, by omega, by omega⟩⟩), by first | omega | exact cw9, by omega⟩)) | exact Or.inr (Or.inr (Or.inr (Or.inl ⟨by omega, by omega, by first | (rw [cw9]; exact fmE_R zW (by first | exact Or.inl ⟨by omega, by omega⟩ | exact Or.inr ⟨by omega, Or.inl ⟨by omega, by omega⟩⟩ | exact Or.inr ⟨by omega, Or.inr ⟨by omega, by omega, by omega⟩⟩)) | exact fmE_R zW (by first | exact Or.inl ⟨by omega, by omega⟩ | exact Or.inr ⟨by omega, Or.inl ⟨by omega, by omega⟩⟩ | exact Or.inr ⟨by omega, Or.inr ⟨by omega, by omega, by omega⟩⟩), by omega⟩))) | exact Or.inr (Or.inr (Or.inr (Or.inr (Or.inl ⟨by omega, by omega, joinM_R zJ (by first | exact Or.inl ⟨by omega, by omega⟩ | exact Or.inr ⟨by omega, Or.inl ⟨by omega, by omega⟩⟩ | exact Or.inr ⟨by omega, Or.inr ⟨by omega, by omega, by omega⟩⟩), fun _ => by omega, by omega⟩)))) | exact Or.inr (Or.inr (Or.inr (Or.inr (Or.inr (Or.inl ⟨by omega, by omega, sumM_R zS (by first | exact Or.inl ⟨by omega, by omega⟩ | exact Or.inr ⟨by omega, Or.inl ⟨by omega, by omega⟩⟩ | exact Or.inr ⟨by omega, Or.inr ⟨by omega, by omega, by omega⟩⟩), by first | omega | exact cw9, by omega⟩))))) | exact ⟨_, _, _, Or.inl ⟨by omega, fillM_R zF (by first | exact Or.inl ⟨by omega, by omega⟩ | exact Or.inr ⟨by omega, Or.inl ⟨by omega, by omega⟩⟩ | exact Or.inr ⟨by omega, Or.inr ⟨by omega, by omega, by omega⟩⟩), rfl, rfl⟩⟩ | exact ⟨_, _, _, Or.inr (Or.inr (Or.inl ⟨by omega, by omega, cutM_R zC (by first | exact Or.inl ⟨by omega, by omega⟩ | exact Or.inr ⟨by omega, Or.inl ⟨by omega, by omega⟩⟩ | exact Or.inr ⟨by omega, Or.inr ⟨by omega, by omega, by omega⟩⟩), rfl, rfl⟩))⟩ | exact ⟨_, _, _, Or.inr (Or.inr (Or.inr (Or.inl ⟨by omega, by omega, fmE_R zW (by first | exact Or.inl ⟨by omega, by omega⟩ | exact Or.inr ⟨by omega, Or.inl ⟨by omega, by omega⟩⟩ | exact Or.inr ⟨by omega, Or.inr ⟨by omega, by omega, by omega⟩⟩), rfl⟩)))⟩ | exact ⟨_, _, _, Or.inr (Or.inr (Or.inr (Or.inr (Or.inl ⟨by omega, by omega, joinM_R zJ (by first | exact Or.inl ⟨by omega, by omega⟩ | exact Or.inr ⟨by omega, Or.inl ⟨by omega, by omega⟩⟩ | exact Or.inr ⟨by omega, Or.inr ⟨by omega, by omega, by omega⟩⟩), fun q => absurd q (by omega), rfl⟩))))⟩ | exact ⟨_, _, _, Or.inr (Or.inr (Or.inr (Or.inr (Or.inr (Or.inl ⟨by omega, by omega, sumM_R zS (by first | exact Or.inl ⟨by omega, by omega⟩ | exact Or.inr ⟨by omega, Or.inl ⟨by omega, by omega⟩⟩ | exact Or.inr ⟨by omega, Or.inr ⟨by omega, by omega, by omega⟩⟩), rfl, rfl⟩)))))⟩ | exact ⟨0, 0, 0, Or.inr (Or.inl ⟨by omega, by omega, by omega⟩)⟩ | exact ⟨0, 0, 0, Or.inr (Or.inr (Or.inr (Or.inr (Or.inr (Or.inr (⟨by omega, by omega, by omega, by omega, by omega, by omega⟩))))))⟩ | omega) (by first | exact Ko_h243 | omega | exact Or.inl ⟨by omega, fillM_R zF (by first | exact Or.inl ⟨by omega, by omega⟩ | exact Or.inr ⟨by omega, Or.inl ⟨by omega, by omega⟩⟩ | exact Or.inr ⟨by omega, Or.inr ⟨by omega, by omega, by omega⟩⟩), by omega, by omega⟩ | exact Or.inr (Or.inr (Or.inl ⟨by omega, by omega, cutM_R zC (by first | exact Or.inl ⟨by omega, by omega⟩ | exact Or.inr ⟨by omega, Or.inl ⟨by omega, by omega⟩⟩ | exact Or.inr ⟨by omega, Or.inr ⟨by omega, by omega, by omega⟩⟩), by first | omega | exact cw9, by omega⟩)) | exact Or.inr (Or.inr (Or.inr (Or.inl ⟨by omega, by omega, by first | (rw [cw9]; exact fmE_R zW (by first | exact Or.inl ⟨by omega, by omega⟩ | exact Or.inr ⟨by omega, Or.inl ⟨by omega, by omega⟩⟩ | exact Or.inr ⟨by omega, Or.inr ⟨by omega, by omega, by omega⟩⟩)) | exact fmE_R zW (by first | exact Or.inl ⟨by omega, by omega⟩ | exact Or.inr ⟨by omega, Or.inl ⟨by omega, by omega⟩⟩ | exact Or.inr ⟨by omega, Or.inr ⟨by omega, by omega, by omega⟩⟩), by omega⟩))) | exact Or.inr (Or.inr (Or.inr (Or.inr (Or.inl ⟨by omega, by omega, joinM_R zJ (by first | exact Or.inl ⟨by omega, by omega⟩ | exact Or.inr ⟨by omega, Or.inl ⟨by omega, by omega⟩⟩ | exact Or.inr ⟨by omega, Or.inr ⟨by omega, by omega, by omega⟩⟩), fun _ => by omega, by omega⟩)))) | exact Or.inr (Or.inr (Or.inr (Or.inr (Or.inr (Or.inl ⟨by omega, by omega, sumM_R zS (by first | exact Or.inl ⟨by omega, by omega⟩ | exact Or.inr ⟨by omega, Or.inl ⟨by omega, by omega⟩⟩ | exact Or.inr ⟨by omega, Or.inr ⟨by omega, by omega, by omega⟩⟩), by first | omega | exact cw9, by omega⟩))))) | exact ⟨_, _, _, Or.inl ⟨by omega, fillM_R zF (by first | exact Or.inl ⟨by omega, by omega⟩ | exact Or.inr ⟨by omega, Or.inl ⟨by omega, by omega⟩⟩ | exact Or.inr ⟨by omega, Or.inr ⟨by omega, by omega, by omega⟩⟩), rfl, rfl⟩⟩ | exact ⟨_, _, _, Or.inr (Or.inr (Or.inl ⟨by omega, by omega, cutM_R zC (by first | exact Or.inl ⟨by omega, by omega⟩ | exact Or.inr ⟨by omega, Or.inl ⟨by omega, by omega⟩⟩ | exact Or.inr ⟨by omega, Or.inr ⟨by omega, by omega, by omega⟩⟩), rfl, rfl⟩))⟩ | exact ⟨_, _, _, Or.inr (Or.inr (Or.inr (Or.inl ⟨by omega, by omega, fmE_R zW (by first | exact Or.inl ⟨by omega, by omega⟩ | exact Or.inr ⟨by omega, Or.inl ⟨by omega, by omega⟩⟩ | exact Or.inr ⟨by omega, Or.inr ⟨by omega, by omega, by omega⟩⟩), rfl⟩)))⟩ | exact ⟨_, _, _, Or.inr (Or.inr (Or.inr (Or.inr (Or.inl ⟨by omega, by omega, joinM_R zJ (by first | exact Or.inl ⟨by omega, by omega⟩ | exact Or.inr ⟨by omega, Or.inl ⟨by omega, by omega⟩⟩ | exact Or.inr ⟨by omega, Or.inr ⟨by omega, by omega, by omega⟩⟩), fun q => absurd q (by omega), rfl⟩))))⟩ | exact ⟨_, _, _, Or.inr (Or.inr (Or.inr (Or.inr (Or.inr (Or.inl ⟨by omega, by omega, sumM_R zS (by first | exact Or.inl ⟨by omega, by omega⟩ | exact Or.inr ⟨by omega, Or.inl ⟨by omega, by omega⟩⟩ | exact Or.inr ⟨by omega, Or.inr ⟨by omega, by omega, by omega⟩⟩), rfl, rfl⟩)))))⟩ | exact ⟨0, 0, 0, Or.inr (Or.inl ⟨by omega, by omega, by omega⟩)⟩ | exact ⟨0, 0, 0, Or.inr (Or.inr (Or.inr (Or.inr (Or.inr (Or.inr (⟨by omega, by omega, by omega, by omega, by omega, by omega⟩))))))⟩ | omega) Tok_h243t250 Mq_h243 Wrd_h243 Wd9_h243)
          ·
            refine w_aload_n gz_185_148 rfl ?_
            refine w_iload gz_185_149 rfl ?_
            have ce263 : h6 151 7 = (v3 + 1) := (my_up_self fh6)
            have ce264 : h6 151 27 = k151_27 := ((my_up_fld fh6 (by decide)).trans c151_27_88_0)
            have hi265 : 36 ≤ (36 + v10) := by omega
            have hi266 : (36 + v10) ≤ 41 := by omega
            refine w_inv (k := 1) (as := [(0, (36 + v10))]) (r := []) (x := 151) (ls0 := [(2, 151), (0, (36 + v10)), (9, 0)]) gz_185_151 gm_189 rfl is_151 rd_10 rfl rfl rfl rfl rfl (c_Model_readJoin9_f0 (d := d) (x1 := (36 + v10)) (wv := wv) (by omega) (by omega) (((my_up_fld fh6 (by decide)).trans ev1.symm).trans (by omega)) (by first | assumption | omega) (by first | assumption | omega) Tok_h6t8 Mq_h6 Wd9_h6 (by first | assumption | exact no_such_saying | exact Fp_told (by omega) (by omega) | omega | (subst_vars; omega) | omega) (fun h267 frh267 w268 w269 xp270 xp271 xp272 Tok_h267t273 Mq_h267t274 Wd9_h267t275 => ?_) (fun h276 frh276 w277 w278 w279 xp280 xp281 xp282 xp283 xp284 xp285 Tok_h276t286 Mq_h276t287 Wd9_h276t288 => ?_))
            ·
              have gh267 : my_fr [(10, 7), (10, 8), (10, 27), (66, -1), (67, -1), (68, -1), (69, -1), (70, -1), (71, -1), (72, -1), (73, -1), (74, -1), (75, -1), (77, -1), (78, -1), (79, -1)] h h267 := my_fr.tr gh6 (frh267.mo rfl)
              have Wrd_h267 : Wrd h267 := Wrd_ag (my_ag.fr frh267 rfl) Wrd_h6
              have Wd9_h267 : Wd9 h267 := Wd9_ag (my_ag.fr frh267 rfl) Wd9_h6
              show wp l rho (d + 4) 185 154 [(2, 151), (0, p88_0), (0, p88_1), (0, p88_2), (0, p88_3), (0, (36 + v10)), (9, 0), (9, 0)] [] h267 Q
              have ps289 : h6 151 7 = (sN (sm h) (h 151 7)) := ps7
              rw [ps289] at xp270
              have tE290 : sm h6 = sm h := sm_eq (fun j => my_fr.at gh6 is_153 rfl) (fun j => my_fr.at gh6 is_154 rfl) (fun j => my_fr.at gh6 is_155 rfl)
              rw [tE290] at xp271
              rw [ps289] at xp271
              have q27 : h6 151 27 = h 151 27 := by omega
              have q57 : h6 157 = h 157 := funext (fun j => my_fr.at gh6 is_157 rfl)
              have zJ := xp271
              simp only [q27, q57] at zJ
              have Ko_h267t291 : Ko h h267 := Ko_tr Ko_h6 xp272
              refine w_goto (t := 228) gz_185_154 rfl ?_
              refine w_aload_n gz_185_228 rfl ?_
              refine v_getI (j := 8) gz_185_229 rfl is_151 rd_10 rfl (fun v292 ev292 pv292 qv292 => ?_)
              have zv292 := ev292.trans (rfl : h267 151 8 = h267 151 8)
              refine w_ifne (t := 269) gz_185_232 rfl (fun u293 => ?_) (fun u293 => by exfalso; omega)
              refine w_aload_n gz_185_269 rfl ?_
              refine w_bipush gz_185_270 (by decide) ?_
              refine w_inv (k := 0) (as := [(0, 59)]) (r := []) (x := 151) (ls0 := [(2, 151), (0, 59)]) gz_185_272 gm_183 rfl is_151 rd_10 rfl rfl rfl rfl rfl (c_Model_takeSign9_f1 (d := (d + 2))  (v292) (ev292.symm) (by omega) (by omega) Tok_h267t273 (fun w294 w295 xp296 xp297 Tok_h267t298 => ?_))
              show wp l rho (d + 4) 185 275 [(2, 151), (0, p88_0), (0, p88_1), (0, p88_2), (0, p88_3), (0, (36 + v10)), (9, 0), (9, 0)] [] h267 Q
              have psR : h267 151 7 = h267 151 7 := (rfl : h267 151 7 = h267 151 7)
              have npsR : sm h267 = sm h := sm_eq (fun j => my_fr.at gh267 is_153 rfl) (fun j => my_fr.at gh267 is_154 rfl) (fun j => my_fr.at gh267 is_155 rfl)
              have ce299 : h267 151 8 = v292 := ev292.symm
              have ce300 : h267 151 27 = k151_27 := ((my_fr.at frh267 is_151 rfl).trans ((my_up_fld fh6 (by decide)).trans c151_27_88_0))
              have r167 : ∀ j : Int, h267 167 j = h88_0 167 j := fun j => ((my_fr.at frh267 is_167 rfl).trans ((my_up_role fh6 is_167 is_151 rfl).trans (rfl : h88_0 167 j = h88_0 167 j)))
              have r6 := r167 6
              have c301 := ev292.symm
              exact w_vret gz_185_275 gm_185 (k0 h267 (gh267) (by omega) (by omega) (by first | exact Ko_h267t291 | omega | exact Or.inl ⟨by omega, fillM_R zF (by first | exact Or.inl ⟨by omega, by omega⟩ | exact Or.inr ⟨by omega, Or.inl ⟨by omega, by omega⟩⟩ | exact Or.inr ⟨by omega, Or.inr ⟨by omega, by omega, by omega⟩⟩), by omega, by omega⟩ | exact Or.inr (Or.inr (Or.inl ⟨by omega, by omega, cutM_R zC (by first | exact Or.inl ⟨by omega, by omega⟩ | exact Or.inr ⟨by omega, Or.inl ⟨by omega, by omega⟩⟩ | exact Or.inr ⟨by omega, Or.inr ⟨by omega, by omega, by omega⟩⟩), by first | omega | exact cw9, by omega⟩)) | exact Or.inr (Or.inr (Or.inr (Or.inl ⟨by omega, by omega, by first | (rw [cw9]; exact fmE_R zW (by first | exact Or.inl ⟨by omega, by omega⟩ | exact Or.inr ⟨by omega, Or.inl ⟨by omega, by omega⟩⟩ | exact Or.inr ⟨by omega, Or.inr ⟨by omega, by omega, by omega⟩⟩)) | exact fmE_R zW (by first | exact Or.inl ⟨by omega, by omega⟩ | exact Or.inr ⟨by omega, Or.inl ⟨by omega, by omega⟩⟩ | exact Or.inr ⟨by omega, Or.inr ⟨by omega, by omega, by omega⟩⟩), by omega⟩))) | exact Or.inr (Or.inr (Or.inr (Or.inr (Or.inl ⟨by omega, by omega, joinM_R zJ (by first | exact Or.inl ⟨by omega, by omega⟩ | exact Or.inr ⟨by omega, Or.inl ⟨by omega, by omega⟩⟩ | exact Or.inr ⟨by omega, Or.inr ⟨by omega, by omega, by omega⟩⟩), fun _ => by omega, by omega⟩)))) | exact Or.inr (Or.inr (Or.inr (Or.inr (Or.inr (Or.inl ⟨by omega, by omega, sumM_R zS (by first | exact Or.inl ⟨by omega, by omega⟩ | exact Or.inr ⟨by omega, Or.inl ⟨by omega, by omega⟩⟩ | exact Or.inr ⟨by omega, Or.inr ⟨by omega, by omega, by omega⟩⟩), by first | omega | exact cw9, by omega⟩))))) | exact ⟨_, _, _, Or.inl ⟨by omega, fillM_R zF (by first | exact Or.inl ⟨by omega, by omega⟩ | exact Or.inr ⟨by omega, Or.inl ⟨by omega, by omega⟩⟩ | exact Or.inr ⟨by omega, Or.inr ⟨by omega, by omega, by omega⟩⟩), rfl, rfl⟩⟩ | exact ⟨_, _, _, Or.inr (Or.inr (Or.inl ⟨by omega, by omega, cutM_R zC (by first | exact Or.inl ⟨by omega, by omega⟩ | exact Or.inr ⟨by omega, Or.inl ⟨by omega, by omega⟩⟩ | exact Or.inr ⟨by omega, Or.inr ⟨by omega, by omega, by omega⟩⟩), rfl, rfl⟩))⟩ | exact ⟨_, _, _, Or.inr (Or.inr (Or.inr (Or.inl ⟨by omega, by omega, fmE_R zW (by first | exact Or.inl ⟨by omega, by omega⟩ | exact Or.inr ⟨by omega, Or.inl ⟨by omega, by omega⟩⟩ | exact Or.inr ⟨by omega, Or.inr ⟨by omega, by omega, by omega⟩⟩), rfl⟩)))⟩ | exact ⟨_, _, _, Or.inr (Or.inr (Or.inr (Or.inr (Or.inl ⟨by omega, by omega, joinM_R zJ (by first | exact Or.inl ⟨by omega, by omega⟩ | exact Or.inr ⟨by omega, Or.inl ⟨by omega, by omega⟩⟩ | exact Or.inr ⟨by omega, Or.inr ⟨by omega, by omega, by omega⟩⟩), fun q => absurd q (by omega), rfl⟩))))⟩ | exact ⟨_, _, _, Or.inr (Or.inr (Or.inr (Or.inr (Or.inr (Or.inl ⟨by omega, by omega, sumM_R zS (by first | exact Or.inl ⟨by omega, by omega⟩ | exact Or.inr ⟨by omega, Or.inl ⟨by omega, by omega⟩⟩ | exact Or.inr ⟨by omega, Or.inr ⟨by omega, by omega, by omega⟩⟩), rfl, rfl⟩)))))⟩ | exact ⟨0, 0, 0, Or.inr (Or.inl ⟨by omega, by omega, by omega⟩)⟩ | exact ⟨0, 0, 0, Or.inr (Or.inr (Or.inr (Or.inr (Or.inr (Or.inr (⟨by omega, by omega, by omega, by omega, by omega, by omega⟩))))))⟩ | omega) (by first | exact Ko_h267t291 | omega | exact Or.inl ⟨by omega, fillM_R zF (by first | exact Or.inl ⟨by omega, by omega⟩ | exact Or.inr ⟨by omega, Or.inl ⟨by omega, by omega⟩⟩ | exact Or.inr ⟨by omega, Or.inr ⟨by omega, by omega, by omega⟩⟩), by omega, by omega⟩ | exact Or.inr (Or.inr (Or.inl ⟨by omega, by omega, cutM_R zC (by first | exact Or.inl ⟨by omega, by omega⟩ | exact Or.inr ⟨by omega, Or.inl ⟨by omega, by omega⟩⟩ | exact Or.inr ⟨by omega, Or.inr ⟨by omega, by omega, by omega⟩⟩), by first | omega | exact cw9, by omega⟩)) | exact Or.inr (Or.inr (Or.inr (Or.inl ⟨by omega, by omega, by first | (rw [cw9]; exact fmE_R zW (by first | exact Or.inl ⟨by omega, by omega⟩ | exact Or.inr ⟨by omega, Or.inl ⟨by omega, by omega⟩⟩ | exact Or.inr ⟨by omega, Or.inr ⟨by omega, by omega, by omega⟩⟩)) | exact fmE_R zW (by first | exact Or.inl ⟨by omega, by omega⟩ | exact Or.inr ⟨by omega, Or.inl ⟨by omega, by omega⟩⟩ | exact Or.inr ⟨by omega, Or.inr ⟨by omega, by omega, by omega⟩⟩), by omega⟩))) | exact Or.inr (Or.inr (Or.inr (Or.inr (Or.inl ⟨by omega, by omega, joinM_R zJ (by first | exact Or.inl ⟨by omega, by omega⟩ | exact Or.inr ⟨by omega, Or.inl ⟨by omega, by omega⟩⟩ | exact Or.inr ⟨by omega, Or.inr ⟨by omega, by omega, by omega⟩⟩), fun _ => by omega, by omega⟩)))) | exact Or.inr (Or.inr (Or.inr (Or.inr (Or.inr (Or.inl ⟨by omega, by omega, sumM_R zS (by first | exact Or.inl ⟨by omega, by omega⟩ | exact Or.inr ⟨by omega, Or.inl ⟨by omega, by omega⟩⟩ | exact Or.inr ⟨by omega, Or.inr ⟨by omega, by omega, by omega⟩⟩), by first | omega | exact cw9, by omega⟩))))) | exact ⟨_, _, _, Or.inl ⟨by omega, fillM_R zF (by first | exact Or.inl ⟨by omega, by omega⟩ | exact Or.inr ⟨by omega, Or.inl ⟨by omega, by omega⟩⟩ | exact Or.inr ⟨by omega, Or.inr ⟨by omega, by omega, by omega⟩⟩), rfl, rfl⟩⟩ | exact ⟨_, _, _, Or.inr (Or.inr (Or.inl ⟨by omega, by omega, cutM_R zC (by first | exact Or.inl ⟨by omega, by omega⟩ | exact Or.inr ⟨by omega, Or.inl ⟨by omega, by omega⟩⟩ | exact Or.inr ⟨by omega, Or.inr ⟨by omega, by omega, by omega⟩⟩), rfl, rfl⟩))⟩ | exact ⟨_, _, _, Or.inr (Or.inr (Or.inr (Or.inl ⟨by omega, by omega, fmE_R zW (by first | exact Or.inl ⟨by omega, by omega⟩ | exact Or.inr ⟨by omega, Or.inl ⟨by omega, by omega⟩⟩ | exact Or.inr ⟨by omega, Or.inr ⟨by omega, by omega, by omega⟩⟩), rfl⟩)))⟩ | exact ⟨_, _, _, Or.inr (Or.inr (Or.inr (Or.inr (Or.inl ⟨by omega, by omega, joinM_R zJ (by first | exact Or.inl ⟨by omega, by omega⟩ | exact Or.inr ⟨by omega, Or.inl ⟨by omega, by omega⟩⟩ | exact Or.inr ⟨by omega, Or.inr ⟨by omega, by omega, by omega⟩⟩), fun q => absurd q (by omega), rfl⟩))))⟩ | exact ⟨_, _, _, Or.inr (Or.inr (Or.inr (Or.inr (Or.inr (Or.inl ⟨by omega, by omega, sumM_R zS (by first | exact Or.inl ⟨by omega, by omega⟩ | exact Or.inr ⟨by omega, Or.inl ⟨by omega, by omega⟩⟩ | exact Or.inr ⟨by omega, Or.inr ⟨by omega, by omega, by omega⟩⟩), rfl, rfl⟩)))))⟩ | exact ⟨0, 0, 0, Or.inr (Or.inl ⟨by omega, by omega, by omega⟩)⟩ | exact ⟨0, 0, 0, Or.inr (Or.inr (Or.inr (Or.inr (Or.inr (Or.inr (⟨by omega, by omega, by omega, by omega, by omega, by omega⟩))))))⟩ | omega) (by first | exact Ko_h267t291 | omega | exact Or.inl ⟨by omega, fillM_R zF (by first | exact Or.inl ⟨by omega, by omega⟩ | exact Or.inr ⟨by omega, Or.inl ⟨by omega, by omega⟩⟩ | exact Or.inr ⟨by omega, Or.inr ⟨by omega, by omega, by omega⟩⟩), by omega, by omega⟩ | exact Or.inr (Or.inr (Or.inl ⟨by omega, by omega, cutM_R zC (by first | exact Or.inl ⟨by omega, by omega⟩ | exact Or.inr ⟨by omega, Or.inl ⟨by omega, by omega⟩⟩ | exact Or.inr ⟨by omega, Or.inr ⟨by omega, by omega, by omega⟩⟩), by first | omega | exact cw9, by omega⟩)) | exact Or.inr (Or.inr (Or.inr (Or.inl ⟨by omega, by omega, by first | (rw [cw9]; exact fmE_R zW (by first | exact Or.inl ⟨by omega, by omega⟩ | exact Or.inr ⟨by omega, Or.inl ⟨by omega, by omega⟩⟩ | exact Or.inr ⟨by omega, Or.inr ⟨by omega, by omega, by omega⟩⟩)) | exact fmE_R zW (by first | exact Or.inl ⟨by omega, by omega⟩ | exact Or.inr ⟨by omega, Or.inl ⟨by omega, by omega⟩⟩ | exact Or.inr ⟨by omega, Or.inr ⟨by omega, by omega, by omega⟩⟩), by omega⟩))) | exact Or.inr (Or.inr (Or.inr (Or.inr (Or.inl ⟨by omega, by omega, joinM_R zJ (by first | exact Or.inl ⟨by omega, by omega⟩ | exact Or.inr ⟨by omega, Or.inl ⟨by omega, by omega⟩⟩ | exact Or.inr ⟨by omega, Or.inr ⟨by omega, by omega, by omega⟩⟩), fun _ => by omega, by omega⟩)))) | exact Or.inr (Or.inr (Or.inr (Or.inr (Or.inr (Or.inl ⟨by omega, by omega, sumM_R zS (by first | exact Or.inl ⟨by omega, by omega⟩ | exact Or.inr ⟨by omega, Or.inl ⟨by omega, by omega⟩⟩ | exact Or.inr ⟨by omega, Or.inr ⟨by omega, by omega, by omega⟩⟩), by first | omega | exact cw9, by omega⟩))))) | exact ⟨_, _, _, Or.inl ⟨by omega, fillM_R zF (by first | exact Or.inl ⟨by omega, by omega⟩ | exact Or.inr ⟨by omega, Or.inl ⟨by omega, by omega⟩⟩ | exact Or.inr ⟨by omega, Or.inr ⟨by omega, by omega, by omega⟩⟩), rfl, rfl⟩⟩ | exact ⟨_, _, _, Or.inr (Or.inr (Or.inl ⟨by omega, by omega, cutM_R zC (by first | exact Or.inl ⟨by omega, by omega⟩ | exact Or.inr ⟨by omega, Or.inl ⟨by omega, by omega⟩⟩ | exact Or.inr ⟨by omega, Or.inr ⟨by omega, by omega, by omega⟩⟩), rfl, rfl⟩))⟩ | exact ⟨_, _, _, Or.inr (Or.inr (Or.inr (Or.inl ⟨by omega, by omega, fmE_R zW (by first | exact Or.inl ⟨by omega, by omega⟩ | exact Or.inr ⟨by omega, Or.inl ⟨by omega, by omega⟩⟩ | exact Or.inr ⟨by omega, Or.inr ⟨by omega, by omega, by omega⟩⟩), rfl⟩)))⟩ | exact ⟨_, _, _, Or.inr (Or.inr (Or.inr (Or.inr (Or.inl ⟨by omega, by omega, joinM_R zJ (by first | exact Or.inl ⟨by omega, by omega⟩ | exact Or.inr ⟨by omega, Or.inl ⟨by omega, by omega⟩⟩ | exact Or.inr ⟨by omega, Or.inr ⟨by omega, by omega, by omega⟩⟩), fun q => absurd q (by omega), rfl⟩))))⟩ | exact ⟨_, _, _, Or.inr (Or.inr (Or.inr (Or.inr (Or.inr (Or.inl ⟨by omega, by omega, sumM_R zS (by first | exact Or.inl ⟨by omega, by omega⟩ | exact Or.inr ⟨by omega, Or.inl ⟨by omega, by omega⟩⟩ | exact Or.inr ⟨by omega, Or.inr ⟨by omega, by omega, by omega⟩⟩), rfl, rfl⟩)))))⟩ | exact ⟨0, 0, 0, Or.inr (Or.inl ⟨by omega, by omega, by omega⟩)⟩ | exact ⟨0, 0, 0, Or.inr (Or.inr (Or.inr (Or.inr (Or.inr (Or.inr (⟨by omega, by omega, by omega, by omega, by omega, by omega⟩))))))⟩ | omega) Tok_h267t298 Mq_h267t274 Wrd_h267 Wd9_h267t275)
            ·
              have gh276 : my_fr [(10, 7), (10, 8), (10, 27), (66, -1), (67, -1), (68, -1), (69, -1), (70, -1), (71, -1), (72, -1), (73, -1), (74, -1), (75, -1), (77, -1), (78, -1), (79, -1)] h h276 := my_fr.tr gh6 (frh276.mo rfl)
              have Wrd_h276 : Wrd h276 := Wrd_ag (my_ag.fr frh276 rfl) Wrd_h6
              have Wd9_h276 : Wd9 h276 := Wd9_ag (my_ag.fr frh276 rfl) Wd9_h6
              show wp l rho (d + 4) 185 154 [(2, 151), (0, p88_0), (0, p88_1), (0, p88_2), (0, p88_3), (0, (36 + v10)), (9, 0), (9, 0)] [] h276 Q
              have ps302 : h6 151 7 = (sN (sm h) (h 151 7)) := ps7
              rw [ps302] at xp282
              have tE303 : sm h6 = sm h := sm_eq (fun j => my_fr.at gh6 is_153 rfl) (fun j => my_fr.at gh6 is_154 rfl) (fun j => my_fr.at gh6 is_155 rfl)
              rw [tE303] at xp283
              rw [ps302] at xp283
              rw [tE303] at xp284
              rw [ps302] at xp284
              have q27 : h6 151 27 = h 151 27 := by omega
              have q57 : h6 157 = h 157 := funext (fun j => my_fr.at gh6 is_157 rfl)
              have zJ := xp283
              simp only [q27, q57] at zJ
              have pk := xp280
              have pk3 := xp281
              have kd := xp284
              have Ko_h276t304 : Ko h h276 := Ko_tr Ko_h6 xp285
              refine w_goto (t := 228) gz_185_154 rfl ?_
              refine w_aload_n gz_185_228 rfl ?_
              refine v_getI (j := 8) gz_185_229 rfl is_151 rd_10 rfl (fun v305 ev305 pv305 qv305 => ?_)
              have zv305 := ev305.trans w279
              refine w_ifne (t := 269) gz_185_232 rfl (fun u306 => by exfalso; omega) (fun u306 => ?_)
              refine w_iload_n gz_185_235 rfl ?_
              refine w_ifne (t := 252) gz_185_236 rfl (fun u307 => by exfalso; omega) (fun u307 => ?_)
              refine w_iload_n gz_185_239 rfl ?_
              refine w_ifne (t := 252) gz_185_240 rfl (fun u308 => by exfalso; omega) (fun u308 => ?_)
              refine w_iload_n gz_185_243 rfl ?_
              refine w_ifne (t := 252) gz_185_244 rfl (fun u309 => ?_) (fun u309 => by exfalso; omega)
              refine w_aload_n gz_185_252 rfl ?_
              refine w_iload gz_185_253 rfl ?_
              have d167 : ∀ j : Int, h276 167 j = h88_0 167 j := fun j => ((my_fr.at frh276 is_167 rfl).trans ((my_up_role fh6 is_167 is_151 rfl).trans (rfl : h88_0 167 j = h88_0 167 j)))
              have d6 := d167 6
              have mr0 := Mq_h276t287
              have ce310 : h276 151 27 = k151_27 := ((my_fr.at frh276 is_151 rfl).trans ((my_up_fld fh6 (by decide)).trans c151_27_88_0))
              refine w_inv (k := 1) (as := [(0, (36 + v10))]) (r := []) (x := 151) (ls0 := [(2, 151), (0, (36 + v10)), (9, 0)]) gz_185_255 gm_182 rfl is_151 rd_10 rfl rfl rfl rfl rfl (c_Model_pane2_f0 (d := (d + 3)) (x1 := (36 + v10)) (by omega) (by omega) (ev305.symm.trans (by omega)) (pk.1) (fun h311 frh311 w312 xp313 xp314 => ?_))
              have gh311 : my_fr [(10, 7), (10, 8), (10, 27), (66, -1), (67, -1), (68, -1), (69, -1), (70, -1), (71, -1), (72, -1), (73, -1), (74, -1), (75, -1), (77, -1), (78, -1), (79, -1)] h h311 := my_fr.tr gh276 (frh311.mo rfl)
              have Wrd_h311 : Wrd h311 := Wrd_ag (my_ag.fr frh311 rfl) Wrd_h276
              have Wd9_h311 : Wd9 h311 := Wd9_ag (my_ag.fr frh311 rfl) Wd9_h276t288
              have Tok_h311 : Tok h311 := Tok_ag (my_ag.fr frh311 rfl) Tok_h276t286
              have Ko_h311 : Ko h h311 := Ko_ag (my_ag.fr frh311 rfl) Ko_h276t304
              show wp l rho (d + 4) 185 258 [(2, 151), (0, p88_0), (0, p88_1), (0, p88_2), (0, p88_3), (0, (36 + v10)), (9, 0), (9, 0)] [] h311 Q
              have ag0 : my_ag M3F h276 h311 := my_ag.fr frh311 rfl
              have e27 := xp313
              have e67 : h311 167 6 = h276 167 6 := ag0.at mis_167 rfl
              have mc := ms_c e27
              try (have m3 := mc.2.2.1 kd; rw [← m3] at zW)
              try (have q58 : h276 157 = h 157 := funext (fun j => my_fr.at gh276 is_157 rfl); have j4 := mc.2.1 kd.1; rw [kd.2, q58] at j4)
              refine w_aload_n gz_185_258 rfl ?_
              refine w_getX (v := 167) gz_185_259 is_151 rd_10 rfl (by decide) rfl ?_
              refine w_bipush gz_185_262 (by decide) ?_
              refine w_dup2 gz_185_264 rfl rfl ?_
              refine w_iald gz_185_265 is_167 rd_66 (by omega) (by omega) (fun v316 ev316 pv316 qv316 => ?_)
              have zv316 := ev316.trans ((my_fr.at frh311 is_167 rfl).trans ((my_fr.at frh276 is_167 rfl).trans ev10.symm))
              refine w_iconst gz_185_266 (by decide) ?_
              refine w_iadd gz_185_267 ⟨by omega, by omega⟩ ?_
              have hi317 : 0 ≤ (v316 + 1) := by omega
              have hi318 : (v316 + 1) ≤ 6 := by omega
              refine w_iast gz_185_268 is_167 rd_66 (by omega) (by omega) (by omega) (by omega) (fun h319 fh319 => ?_)
              have gh319 : my_fr [(10, 7), (10, 8), (10, 27), (66, -1), (67, -1), (68, -1), (69, -1), (70, -1), (71, -1), (72, -1), (73, -1), (74, -1), (75, -1), (77, -1), (78, -1), (79, -1)] h h319 := my_fr.up gh311 is_167 fh319 rfl
              have Wrd_h319 : Wrd h319 := Wrd_ag (my_ag.up fh319 is_167 rfl) Wrd_h311
              have Wd9_h319 : Wd9 h319 := Wd9_ag (my_ag.up fh319 is_167 rfl) Wd9_h311
              have Tok_h319 : Tok h319 := Tok_ag (my_ag.up fh319 is_167 rfl) Tok_h311
              have Ko_h319 : Ko h h319 := Ko_7 (a := 167) hwv (by decide) (by omega) fh319 Ko_h311
              have Mq_h319t320 : Mq h319 wv := Mq_add mr0 (by omega) pk pk3 ag0 e27 fh319 (by omega) (by omega)
              have k6 := my_up_self fh319
              refine w_aload_n gz_185_269 rfl ?_
              refine w_bipush gz_185_270 (by decide) ?_
              have ce321 : h319 151 7 = (h276 151 7) := ((my_up_role fh319 is_151 is_167 rfl).trans ((my_fr.at frh311 is_151 rfl).trans (rfl : h276 151 7 = h276 151 7)))
              refine w_inv (k := 0) (as := [(0, 59)]) (r := []) (x := 151) (ls0 := [(2, 151), (0, 59)]) gz_185_272 gm_183 rfl is_151 rd_10 rfl rfl rfl rfl rfl (c_Model_takeSign9_f0 (d := (d + 2))  (((my_up_role fh319 is_151 is_167 rfl).trans ((my_fr.at frh311 is_151 rfl).trans ev305.symm)).trans (by omega)) Tok_h319 (fun h322 frh322 w323 w324 xp325 xp326 xp327 Tok_h322t328 => ?_) (fun h329 frh329 w330 w331 w332 xp333 xp334 xp335 Tok_h329t336 => ?_))
              ·
                have gh322 : my_fr [(10, 7), (10, 8), (10, 27), (66, -1), (67, -1), (68, -1), (69, -1), (70, -1), (71, -1), (72, -1), (73, -1), (74, -1), (75, -1), (77, -1), (78, -1), (79, -1)] h h322 := my_fr.tr gh319 (frh322.mo rfl)
                have Wrd_h322 : Wrd h322 := Wrd_ag (my_ag.fr frh322 rfl) Wrd_h319
                have Wd9_h322 : Wd9 h322 := Wd9_ag (my_ag.fr frh322 rfl) Wd9_h319
                have Ko_h322 : Ko h h322 := Ko_ag (my_ag.fr frh322 rfl) Ko_h319
                have Mq_h322 : Mq h322 wv := Mq_ag (my_ag.fr frh322 rfl) Mq_h319t320
                show wp l rho (d + 4) 185 275 [(2, 151), (0, p88_0), (0, p88_1), (0, p88_2), (0, p88_3), (0, (36 + v10)), (9, 0), (9, 0)] [] h322 Q
                have ps337 : h319 151 7 = h276 151 7 := ((my_up_role fh319 is_151 is_167 rfl).trans ((my_fr.at frh311 is_151 rfl).trans (rfl : h276 151 7 = h276 151 7)))
                rw [ps337] at xp325
                have tE338 : sm h319 = sm h := sm_eq (fun j => my_fr.at gh319 is_153 rfl) (fun j => my_fr.at gh319 is_154 rfl) (fun j => my_fr.at gh319 is_155 rfl)
                rw [tE338] at xp326
                rw [ps337] at xp326
                rw [tE338] at xp327
                rw [ps337] at xp327
                have psR : h322 151 7 = h322 151 7 := (rfl : h322 151 7 = h322 151 7)
                have npsR : sm h322 = sm h := sm_eq (fun j => my_fr.at gh322 is_153 rfl) (fun j => my_fr.at gh322 is_154 rfl) (fun j => my_fr.at gh322 is_155 rfl)
                have ce339 : h322 151 8 = (h322 151 8) := (rfl : h322 151 8 = h322 151 8)
                have ce340 : h322 151 27 = h311 151 27 := ((my_fr.at frh322 is_151 rfl).trans ((my_up_role fh319 is_151 is_167 rfl).trans (rfl : h311 151 27 = h311 151 27)))
                have r167 : ∀ j : Int, h322 167 j = h319 167 j := fun j => ((my_fr.at frh322 is_167 rfl).trans (rfl : h319 167 j = h319 167 j))
                have r6 := r167 6
                have cw9 : h322 151 27 = h311 151 27 := by omega
                have c341 := (rfl : h322 151 8 = h322 151 8)
                exact w_vret gz_185_275 gm_185 (k0 h322 (gh322) (by omega) (by omega) (by first | exact Ko_h322 | omega | exact Or.inl ⟨by omega, fillM_R zF (by first | exact Or.inl ⟨by omega, by omega⟩ | exact Or.inr ⟨by omega, Or.inl ⟨by omega, by omega⟩⟩ | exact Or.inr ⟨by omega, Or.inr ⟨by omega, by omega, by omega⟩⟩), by omega, by omega⟩ | exact Or.inr (Or.inr (Or.inl ⟨by omega, by omega, cutM_R zC (by first | exact Or.inl ⟨by omega, by omega⟩ | exact Or.inr ⟨by omega, Or.inl ⟨by omega, by omega⟩⟩ | exact Or.inr ⟨by omega, Or.inr ⟨by omega, by omega, by omega⟩⟩), by first | omega | exact cw9, by omega⟩)) | exact Or.inr (Or.inr (Or.inr (Or.inl ⟨by omega, by omega, by first | (rw [cw9]; exact fmE_R zW (by first | exact Or.inl ⟨by omega, by omega⟩ | exact Or.inr ⟨by omega, Or.inl ⟨by omega, by omega⟩⟩ | exact Or.inr ⟨by omega, Or.inr ⟨by omega, by omega, by omega⟩⟩)) | exact fmE_R zW (by first | exact Or.inl ⟨by omega, by omega⟩ | exact Or.inr ⟨by omega, Or.inl ⟨by omega, by omega⟩⟩ | exact Or.inr ⟨by omega, Or.inr ⟨by omega, by omega, by omega⟩⟩), by omega⟩))) | exact Or.inr (Or.inr (Or.inr (Or.inr (Or.inl ⟨by omega, by omega, joinM_R zJ (by first | exact Or.inl ⟨by omega, by omega⟩ | exact Or.inr ⟨by omega, Or.inl ⟨by omega, by omega⟩⟩ | exact Or.inr ⟨by omega, Or.inr ⟨by omega, by omega, by omega⟩⟩), fun _ => by omega, by omega⟩)))) | exact Or.inr (Or.inr (Or.inr (Or.inr (Or.inr (Or.inl ⟨by omega, by omega, sumM_R zS (by first | exact Or.inl ⟨by omega, by omega⟩ | exact Or.inr ⟨by omega, Or.inl ⟨by omega, by omega⟩⟩ | exact Or.inr ⟨by omega, Or.inr ⟨by omega, by omega, by omega⟩⟩), by first | omega | exact cw9, by omega⟩))))) | exact ⟨_, _, _, Or.inl ⟨by omega, fillM_R zF (by first | exact Or.inl ⟨by omega, by omega⟩ | exact Or.inr ⟨by omega, Or.inl ⟨by omega, by omega⟩⟩ | exact Or.inr ⟨by omega, Or.inr ⟨by omega, by omega, by omega⟩⟩), rfl, rfl⟩⟩ | exact ⟨_, _, _, Or.inr (Or.inr (Or.inl ⟨by omega, by omega, cutM_R zC (by first | exact Or.inl ⟨by omega, by omega⟩ | exact Or.inr ⟨by omega, Or.inl ⟨by omega, by omega⟩⟩ | exact Or.inr ⟨by omega, Or.inr ⟨by omega, by omega, by omega⟩⟩), rfl, rfl⟩))⟩ | exact ⟨_, _, _, Or.inr (Or.inr (Or.inr (Or.inl ⟨by omega, by omega, fmE_R zW (by first | exact Or.inl ⟨by omega, by omega⟩ | exact Or.inr ⟨by omega, Or.inl ⟨by omega, by omega⟩⟩ | exact Or.inr ⟨by omega, Or.inr ⟨by omega, by omega, by omega⟩⟩), rfl⟩)))⟩ | exact ⟨_, _, _, Or.inr (Or.inr (Or.inr (Or.inr (Or.inl ⟨by omega, by omega, joinM_R zJ (by first | exact Or.inl ⟨by omega, by omega⟩ | exact Or.inr ⟨by omega, Or.inl ⟨by omega, by omega⟩⟩ | exact Or.inr ⟨by omega, Or.inr ⟨by omega, by omega, by omega⟩⟩), fun q => absurd q (by omega), rfl⟩))))⟩ | exact ⟨_, _, _, Or.inr (Or.inr (Or.inr (Or.inr (Or.inr (Or.inl ⟨by omega, by omega, sumM_R zS (by first | exact Or.inl ⟨by omega, by omega⟩ | exact Or.inr ⟨by omega, Or.inl ⟨by omega, by omega⟩⟩ | exact Or.inr ⟨by omega, Or.inr ⟨by omega, by omega, by omega⟩⟩), rfl, rfl⟩)))))⟩ | exact ⟨0, 0, 0, Or.inr (Or.inl ⟨by omega, by omega, by omega⟩)⟩ | exact ⟨0, 0, 0, Or.inr (Or.inr (Or.inr (Or.inr (Or.inr (Or.inr (⟨by omega, by omega, by omega, by omega, by omega, by omega⟩))))))⟩ | omega) (by first | exact Ko_h322 | omega | exact Or.inl ⟨by omega, fillM_R zF (by first | exact Or.inl ⟨by omega, by omega⟩ | exact Or.inr ⟨by omega, Or.inl ⟨by omega, by omega⟩⟩ | exact Or.inr ⟨by omega, Or.inr ⟨by omega, by omega, by omega⟩⟩), by omega, by omega⟩ | exact Or.inr (Or.inr (Or.inl ⟨by omega, by omega, cutM_R zC (by first | exact Or.inl ⟨by omega, by omega⟩ | exact Or.inr ⟨by omega, Or.inl ⟨by omega, by omega⟩⟩ | exact Or.inr ⟨by omega, Or.inr ⟨by omega, by omega, by omega⟩⟩), by first | omega | exact cw9, by omega⟩)) | exact Or.inr (Or.inr (Or.inr (Or.inl ⟨by omega, by omega, by first | (rw [cw9]; exact fmE_R zW (by first | exact Or.inl ⟨by omega, by omega⟩ | exact Or.inr ⟨by omega, Or.inl ⟨by omega, by omega⟩⟩ | exact Or.inr ⟨by omega, Or.inr ⟨by omega, by omega, by omega⟩⟩)) | exact fmE_R zW (by first | exact Or.inl ⟨by omega, by omega⟩ | exact Or.inr ⟨by omega, Or.inl ⟨by omega, by omega⟩⟩ | exact Or.inr ⟨by omega, Or.inr ⟨by omega, by omega, by omega⟩⟩), by omega⟩))) | exact Or.inr (Or.inr (Or.inr (Or.inr (Or.inl ⟨by omega, by omega, joinM_R zJ (by first | exact Or.inl ⟨by omega, by omega⟩ | exact Or.inr ⟨by omega, Or.inl ⟨by omega, by omega⟩⟩ | exact Or.inr ⟨by omega, Or.inr ⟨by omega, by omega, by omega⟩⟩), fun _ => by omega, by omega⟩)))) | exact Or.inr (Or.inr (Or.inr (Or.inr (Or.inr (Or.inl ⟨by omega, by omega, sumM_R zS (by first | exact Or.inl ⟨by omega, by omega⟩ | exact Or.inr ⟨by omega, Or.inl ⟨by omega, by omega⟩⟩ | exact Or.inr ⟨by omega, Or.inr ⟨by omega, by omega, by omega⟩⟩), by first | omega | exact cw9, by omega⟩))))) | exact ⟨_, _, _, Or.inl ⟨by omega, fillM_R zF (by first | exact Or.inl ⟨by omega, by omega⟩ | exact Or.inr ⟨by omega, Or.inl ⟨by omega, by omega⟩⟩ | exact Or.inr ⟨by omega, Or.inr ⟨by omega, by omega, by omega⟩⟩), rfl, rfl⟩⟩ | exact ⟨_, _, _, Or.inr (Or.inr (Or.inl ⟨by omega, by omega, cutM_R zC (by first | exact Or.inl ⟨by omega, by omega⟩ | exact Or.inr ⟨by omega, Or.inl ⟨by omega, by omega⟩⟩ | exact Or.inr ⟨by omega, Or.inr ⟨by omega, by omega, by omega⟩⟩), rfl, rfl⟩))⟩ | exact ⟨_, _, _, Or.inr (Or.inr (Or.inr (Or.inl ⟨by omega, by omega, fmE_R zW (by first | exact Or.inl ⟨by omega, by omega⟩ | exact Or.inr ⟨by omega, Or.inl ⟨by omega, by omega⟩⟩ | exact Or.inr ⟨by omega, Or.inr ⟨by omega, by omega, by omega⟩⟩), rfl⟩)))⟩ | exact ⟨_, _, _, Or.inr (Or.inr (Or.inr (Or.inr (Or.inl ⟨by omega, by omega, joinM_R zJ (by first | exact Or.inl ⟨by omega, by omega⟩ | exact Or.inr ⟨by omega, Or.inl ⟨by omega, by omega⟩⟩ | exact Or.inr ⟨by omega, Or.inr ⟨by omega, by omega, by omega⟩⟩), fun q => absurd q (by omega), rfl⟩))))⟩ | exact ⟨_, _, _, Or.inr (Or.inr (Or.inr (Or.inr (Or.inr (Or.inl ⟨by omega, by omega, sumM_R zS (by first | exact Or.inl ⟨by omega, by omega⟩ | exact Or.inr ⟨by omega, Or.inl ⟨by omega, by omega⟩⟩ | exact Or.inr ⟨by omega, Or.inr ⟨by omega, by omega, by omega⟩⟩), rfl, rfl⟩)))))⟩ | exact ⟨0, 0, 0, Or.inr (Or.inl ⟨by omega, by omega, by omega⟩)⟩ | exact ⟨0, 0, 0, Or.inr (Or.inr (Or.inr (Or.inr (Or.inr (Or.inr (⟨by omega, by omega, by omega, by omega, by omega, by omega⟩))))))⟩ | omega) (by first | exact Ko_h322 | omega | exact Or.inl ⟨by omega, fillM_R zF (by first | exact Or.inl ⟨by omega, by omega⟩ | exact Or.inr ⟨by omega, Or.inl ⟨by omega, by omega⟩⟩ | exact Or.inr ⟨by omega, Or.inr ⟨by omega, by omega, by omega⟩⟩), by omega, by omega⟩ | exact Or.inr (Or.inr (Or.inl ⟨by omega, by omega, cutM_R zC (by first | exact Or.inl ⟨by omega, by omega⟩ | exact Or.inr ⟨by omega, Or.inl ⟨by omega, by omega⟩⟩ | exact Or.inr ⟨by omega, Or.inr ⟨by omega, by omega, by omega⟩⟩), by first | omega | exact cw9, by omega⟩)) | exact Or.inr (Or.inr (Or.inr (Or.inl ⟨by omega, by omega, by first | (rw [cw9]; exact fmE_R zW (by first | exact Or.inl ⟨by omega, by omega⟩ | exact Or.inr ⟨by omega, Or.inl ⟨by omega, by omega⟩⟩ | exact Or.inr ⟨by omega, Or.inr ⟨by omega, by omega, by omega⟩⟩)) | exact fmE_R zW (by first | exact Or.inl ⟨by omega, by omega⟩ | exact Or.inr ⟨by omega, Or.inl ⟨by omega, by omega⟩⟩ | exact Or.inr ⟨by omega, Or.inr ⟨by omega, by omega, by omega⟩⟩), by omega⟩))) | exact Or.inr (Or.inr (Or.inr (Or.inr (Or.inl ⟨by omega, by omega, joinM_R zJ (by first | exact Or.inl ⟨by omega, by omega⟩ | exact Or.inr ⟨by omega, Or.inl ⟨by omega, by omega⟩⟩ | exact Or.inr ⟨by omega, Or.inr ⟨by omega, by omega, by omega⟩⟩), fun _ => by omega, by omega⟩)))) | exact Or.inr (Or.inr (Or.inr (Or.inr (Or.inr (Or.inl ⟨by omega, by omega, sumM_R zS (by first | exact Or.inl ⟨by omega, by omega⟩ | exact Or.inr ⟨by omega, Or.inl ⟨by omega, by omega⟩⟩ | exact Or.inr ⟨by omega, Or.inr ⟨by omega, by omega, by omega⟩⟩), by first | omega | exact cw9, by omega⟩))))) | exact ⟨_, _, _, Or.inl ⟨by omega, fillM_R zF (by first | exact Or.inl ⟨by omega, by omega⟩ | exact Or.inr ⟨by omega, Or.inl ⟨by omega, by omega⟩⟩ | exact Or.inr ⟨by omega, Or.inr ⟨by omega, by omega, by omega⟩⟩), rfl, rfl⟩⟩ | exact ⟨_, _, _, Or.inr (Or.inr (Or.inl ⟨by omega, by omega, cutM_R zC (by first | exact Or.inl ⟨by omega, by omega⟩ | exact Or.inr ⟨by omega, Or.inl ⟨by omega, by omega⟩⟩ | exact Or.inr ⟨by omega, Or.inr ⟨by omega, by omega, by omega⟩⟩), rfl, rfl⟩))⟩ | exact ⟨_, _, _, Or.inr (Or.inr (Or.inr (Or.inl ⟨by omega, by omega, fmE_R zW (by first | exact Or.inl ⟨by omega, by omega⟩ | exact Or.inr ⟨by omega, Or.inl ⟨by omega, by omega⟩⟩ | exact Or.inr ⟨by omega, Or.inr ⟨by omega, by omega, by omega⟩⟩), rfl⟩)))⟩ | exact ⟨_, _, _, Or.inr (Or.inr (Or.inr (Or.inr (Or.inl ⟨by omega, by omega, joinM_R zJ (by first | exact Or.inl ⟨by omega, by omega⟩ | exact Or.inr ⟨by omega, Or.inl ⟨by omega, by omega⟩⟩ | exact Or.inr ⟨by omega, Or.inr ⟨by omega, by omega, by omega⟩⟩), fun q => absurd q (by omega), rfl⟩))))⟩ | exact ⟨_, _, _, Or.inr (Or.inr (Or.inr (Or.inr (Or.inr (Or.inl ⟨by omega, by omega, sumM_R zS (by first | exact Or.inl ⟨by omega, by omega⟩ | exact Or.inr ⟨by omega, Or.inl ⟨by omega, by omega⟩⟩ | exact Or.inr ⟨by omega, Or.inr ⟨by omega, by omega, by omega⟩⟩), rfl, rfl⟩)))))⟩ | exact ⟨0, 0, 0, Or.inr (Or.inl ⟨by omega, by omega, by omega⟩)⟩ | exact ⟨0, 0, 0, Or.inr (Or.inr (Or.inr (Or.inr (Or.inr (Or.inr (⟨by omega, by omega, by omega, by omega, by omega, by omega⟩))))))⟩ | omega) Tok_h322t328 Mq_h322 Wrd_h322 Wd9_h322)
              ·
                have gh329 : my_fr [(10, 7), (10, 8), (10, 27), (66, -1), (67, -1), (68, -1), (69, -1), (70, -1), (71, -1), (72, -1), (73, -1), (74, -1), (75, -1), (77, -1), (78, -1), (79, -1)] h h329 := my_fr.tr gh319 (frh329.mo rfl)
                have Wrd_h329 : Wrd h329 := Wrd_ag (my_ag.fr frh329 rfl) Wrd_h319
                have Wd9_h329 : Wd9 h329 := Wd9_ag (my_ag.fr frh329 rfl) Wd9_h319
                have Ko_h329 : Ko h h329 := Ko_ag (my_ag.fr frh329 rfl) Ko_h319
                have Mq_h329 : Mq h329 wv := Mq_ag (my_ag.fr frh329 rfl) Mq_h319t320
                show wp l rho (d + 4) 185 275 [(2, 151), (0, p88_0), (0, p88_1), (0, p88_2), (0, p88_3), (0, (36 + v10)), (9, 0), (9, 0)] [] h329 Q
                have ps342 : h319 151 7 = h276 151 7 := ((my_up_role fh319 is_151 is_167 rfl).trans ((my_fr.at frh311 is_151 rfl).trans (rfl : h276 151 7 = h276 151 7)))
                rw [ps342] at xp333
                have tE343 : sm h319 = sm h := sm_eq (fun j => my_fr.at gh319 is_153 rfl) (fun j => my_fr.at gh319 is_154 rfl) (fun j => my_fr.at gh319 is_155 rfl)
                rw [tE343] at xp334
                rw [ps342] at xp334
                rw [tE343] at xp335
                rw [ps342] at xp335
                have psR : h329 151 7 = (sN (sm h) ((h276 151 7))) := xp334
                have npsR : sm h329 = sm h := sm_eq (fun j => my_fr.at gh329 is_153 rfl) (fun j => my_fr.at gh329 is_154 rfl) (fun j => my_fr.at gh329 is_155 rfl)
                have ce344 : h329 151 7 = (h329 151 7) := (rfl : h329 151 7 = h329 151 7)
                have ce345 : h329 151 8 = 0 := w332
                have ce346 : h329 151 27 = h311 151 27 := ((my_fr.at frh329 is_151 rfl).trans ((my_up_role fh319 is_151 is_167 rfl).trans (rfl : h311 151 27 = h311 151 27)))
                have r167 : ∀ j : Int, h329 167 j = h319 167 j := fun j => ((my_fr.at frh329 is_167 rfl).trans (rfl : h319 167 j = h319 167 j))
                have r6 := r167 6
                have cw9 : h329 151 27 = h311 151 27 := by omega
                have c347 := (rfl : h329 151 7 = h329 151 7)
                have c348 := w332
                exact w_vret gz_185_275 gm_185 (k1 h329 (gh329) (by omega) (by omega) (by omega) (by first | exact Ko_h329 | omega | exact Or.inl ⟨by omega, fillM_R zF (by first | exact Or.inl ⟨by omega, by omega⟩ | exact Or.inr ⟨by omega, Or.inl ⟨by omega, by omega⟩⟩ | exact Or.inr ⟨by omega, Or.inr ⟨by omega, by omega, by omega⟩⟩), by omega, by omega⟩ | exact Or.inr (Or.inr (Or.inl ⟨by omega, by omega, cutM_R zC (by first | exact Or.inl ⟨by omega, by omega⟩ | exact Or.inr ⟨by omega, Or.inl ⟨by omega, by omega⟩⟩ | exact Or.inr ⟨by omega, Or.inr ⟨by omega, by omega, by omega⟩⟩), by first | omega | exact cw9, by omega⟩)) | exact Or.inr (Or.inr (Or.inr (Or.inl ⟨by omega, by omega, by first | (rw [cw9]; exact fmE_R zW (by first | exact Or.inl ⟨by omega, by omega⟩ | exact Or.inr ⟨by omega, Or.inl ⟨by omega, by omega⟩⟩ | exact Or.inr ⟨by omega, Or.inr ⟨by omega, by omega, by omega⟩⟩)) | exact fmE_R zW (by first | exact Or.inl ⟨by omega, by omega⟩ | exact Or.inr ⟨by omega, Or.inl ⟨by omega, by omega⟩⟩ | exact Or.inr ⟨by omega, Or.inr ⟨by omega, by omega, by omega⟩⟩), by omega⟩))) | exact Or.inr (Or.inr (Or.inr (Or.inr (Or.inl ⟨by omega, by omega, joinM_R zJ (by first | exact Or.inl ⟨by omega, by omega⟩ | exact Or.inr ⟨by omega, Or.inl ⟨by omega, by omega⟩⟩ | exact Or.inr ⟨by omega, Or.inr ⟨by omega, by omega, by omega⟩⟩), fun _ => by omega, by omega⟩)))) | exact Or.inr (Or.inr (Or.inr (Or.inr (Or.inr (Or.inl ⟨by omega, by omega, sumM_R zS (by first | exact Or.inl ⟨by omega, by omega⟩ | exact Or.inr ⟨by omega, Or.inl ⟨by omega, by omega⟩⟩ | exact Or.inr ⟨by omega, Or.inr ⟨by omega, by omega, by omega⟩⟩), by first | omega | exact cw9, by omega⟩))))) | exact ⟨_, _, _, Or.inl ⟨by omega, fillM_R zF (by first | exact Or.inl ⟨by omega, by omega⟩ | exact Or.inr ⟨by omega, Or.inl ⟨by omega, by omega⟩⟩ | exact Or.inr ⟨by omega, Or.inr ⟨by omega, by omega, by omega⟩⟩), rfl, rfl⟩⟩ | exact ⟨_, _, _, Or.inr (Or.inr (Or.inl ⟨by omega, by omega, cutM_R zC (by first | exact Or.inl ⟨by omega, by omega⟩ | exact Or.inr ⟨by omega, Or.inl ⟨by omega, by omega⟩⟩ | exact Or.inr ⟨by omega, Or.inr ⟨by omega, by omega, by omega⟩⟩), rfl, rfl⟩))⟩ | exact ⟨_, _, _, Or.inr (Or.inr (Or.inr (Or.inl ⟨by omega, by omega, fmE_R zW (by first | exact Or.inl ⟨by omega, by omega⟩ | exact Or.inr ⟨by omega, Or.inl ⟨by omega, by omega⟩⟩ | exact Or.inr ⟨by omega, Or.inr ⟨by omega, by omega, by omega⟩⟩), rfl⟩)))⟩ | exact ⟨_, _, _, Or.inr (Or.inr (Or.inr (Or.inr (Or.inl ⟨by omega, by omega, joinM_R zJ (by first | exact Or.inl ⟨by omega, by omega⟩ | exact Or.inr ⟨by omega, Or.inl ⟨by omega, by omega⟩⟩ | exact Or.inr ⟨by omega, Or.inr ⟨by omega, by omega, by omega⟩⟩), fun q => absurd q (by omega), rfl⟩))))⟩ | exact ⟨_, _, _, Or.inr (Or.inr (Or.inr (Or.inr (Or.inr (Or.inl ⟨by omega, by omega, sumM_R zS (by first | exact Or.inl ⟨by omega, by omega⟩ | exact Or.inr ⟨by omega, Or.inl ⟨by omega, by omega⟩⟩ | exact Or.inr ⟨by omega, Or.inr ⟨by omega, by omega, by omega⟩⟩), rfl, rfl⟩)))))⟩ | exact ⟨0, 0, 0, Or.inr (Or.inl ⟨by omega, by omega, by omega⟩)⟩ | exact ⟨0, 0, 0, Or.inr (Or.inr (Or.inr (Or.inr (Or.inr (Or.inr (⟨by omega, by omega, by omega, by omega, by omega, by omega⟩))))))⟩ | omega) (by first | exact Ko_h329 | omega | exact Or.inl ⟨by omega, fillM_R zF (by first | exact Or.inl ⟨by omega, by omega⟩ | exact Or.inr ⟨by omega, Or.inl ⟨by omega, by omega⟩⟩ | exact Or.inr ⟨by omega, Or.inr ⟨by omega, by omega, by omega⟩⟩), by omega, by omega⟩ | exact Or.inr (Or.inr (Or.inl ⟨by omega, by omega, cutM_R zC (by first | exact Or.inl ⟨by omega, by omega⟩ | exact Or.inr ⟨by omega, Or.inl ⟨by omega, by omega⟩⟩ | exact Or.inr ⟨by omega, Or.inr ⟨by omega, by omega, by omega⟩⟩), by first | omega | exact cw9, by omega⟩)) | exact Or.inr (Or.inr (Or.inr (Or.inl ⟨by omega, by omega, by first | (rw [cw9]; exact fmE_R zW (by first | exact Or.inl ⟨by omega, by omega⟩ | exact Or.inr ⟨by omega, Or.inl ⟨by omega, by omega⟩⟩ | exact Or.inr ⟨by omega, Or.inr ⟨by omega, by omega, by omega⟩⟩)) | exact fmE_R zW (by first | exact Or.inl ⟨by omega, by omega⟩ | exact Or.inr ⟨by omega, Or.inl ⟨by omega, by omega⟩⟩ | exact Or.inr ⟨by omega, Or.inr ⟨by omega, by omega, by omega⟩⟩), by omega⟩))) | exact Or.inr (Or.inr (Or.inr (Or.inr (Or.inl ⟨by omega, by omega, joinM_R zJ (by first | exact Or.inl ⟨by omega, by omega⟩ | exact Or.inr ⟨by omega, Or.inl ⟨by omega, by omega⟩⟩ | exact Or.inr ⟨by omega, Or.inr ⟨by omega, by omega, by omega⟩⟩), fun _ => by omega, by omega⟩)))) | exact Or.inr (Or.inr (Or.inr (Or.inr (Or.inr (Or.inl ⟨by omega, by omega, sumM_R zS (by first | exact Or.inl ⟨by omega, by omega⟩ | exact Or.inr ⟨by omega, Or.inl ⟨by omega, by omega⟩⟩ | exact Or.inr ⟨by omega, Or.inr ⟨by omega, by omega, by omega⟩⟩), by first | omega | exact cw9, by omega⟩))))) | exact ⟨_, _, _, Or.inl ⟨by omega, fillM_R zF (by first | exact Or.inl ⟨by omega, by omega⟩ | exact Or.inr ⟨by omega, Or.inl ⟨by omega, by omega⟩⟩ | exact Or.inr ⟨by omega, Or.inr ⟨by omega, by omega, by omega⟩⟩), rfl, rfl⟩⟩ | exact ⟨_, _, _, Or.inr (Or.inr (Or.inl ⟨by omega, by omega, cutM_R zC (by first | exact Or.inl ⟨by omega, by omega⟩ | exact Or.inr ⟨by omega, Or.inl ⟨by omega, by omega⟩⟩ | exact Or.inr ⟨by omega, Or.inr ⟨by omega, by omega, by omega⟩⟩), rfl, rfl⟩))⟩ | exact ⟨_, _, _, Or.inr (Or.inr (Or.inr (Or.inl ⟨by omega, by omega, fmE_R zW (by first | exact Or.inl ⟨by omega, by omega⟩ | exact Or.inr ⟨by omega, Or.inl ⟨by omega, by omega⟩⟩ | exact Or.inr ⟨by omega, Or.inr ⟨by omega, by omega, by omega⟩⟩), rfl⟩)))⟩ | exact ⟨_, _, _, Or.inr (Or.inr (Or.inr (Or.inr (Or.inl ⟨by omega, by omega, joinM_R zJ (by first | exact Or.inl ⟨by omega, by omega⟩ | exact Or.inr ⟨by omega, Or.inl ⟨by omega, by omega⟩⟩ | exact Or.inr ⟨by omega, Or.inr ⟨by omega, by omega, by omega⟩⟩), fun q => absurd q (by omega), rfl⟩))))⟩ | exact ⟨_, _, _, Or.inr (Or.inr (Or.inr (Or.inr (Or.inr (Or.inl ⟨by omega, by omega, sumM_R zS (by first | exact Or.inl ⟨by omega, by omega⟩ | exact Or.inr ⟨by omega, Or.inl ⟨by omega, by omega⟩⟩ | exact Or.inr ⟨by omega, Or.inr ⟨by omega, by omega, by omega⟩⟩), rfl, rfl⟩)))))⟩ | exact ⟨0, 0, 0, Or.inr (Or.inl ⟨by omega, by omega, by omega⟩)⟩ | exact ⟨0, 0, 0, Or.inr (Or.inr (Or.inr (Or.inr (Or.inr (Or.inr (⟨by omega, by omega, by omega, by omega, by omega, by omega⟩))))))⟩ | omega) (by first | exact Ko_h329 | omega | exact Or.inl ⟨by omega, fillM_R zF (by first | exact Or.inl ⟨by omega, by omega⟩ | exact Or.inr ⟨by omega, Or.inl ⟨by omega, by omega⟩⟩ | exact Or.inr ⟨by omega, Or.inr ⟨by omega, by omega, by omega⟩⟩), by omega, by omega⟩ | exact Or.inr (Or.inr (Or.inl ⟨by omega, by omega, cutM_R zC (by first | exact Or.inl ⟨by omega, by omega⟩ | exact Or.inr ⟨by omega, Or.inl ⟨by omega, by omega⟩⟩ | exact Or.inr ⟨by omega, Or.inr ⟨by omega, by omega, by omega⟩⟩), by first | omega | exact cw9, by omega⟩)) | exact Or.inr (Or.inr (Or.inr (Or.inl ⟨by omega, by omega, by first | (rw [cw9]; exact fmE_R zW (by first | exact Or.inl ⟨by omega, by omega⟩ | exact Or.inr ⟨by omega, Or.inl ⟨by omega, by omega⟩⟩ | exact Or.inr ⟨by omega, Or.inr ⟨by omega, by omega, by omega⟩⟩)) | exact fmE_R zW (by first | exact Or.inl ⟨by omega, by omega⟩ | exact Or.inr ⟨by omega, Or.inl ⟨by omega, by omega⟩⟩ | exact Or.inr ⟨by omega, Or.inr ⟨by omega, by omega, by omega⟩⟩), by omega⟩))) | exact Or.inr (Or.inr (Or.inr (Or.inr (Or.inl ⟨by omega, by omega, joinM_R zJ (by first | exact Or.inl ⟨by omega, by omega⟩ | exact Or.inr ⟨by omega, Or.inl ⟨by omega, by omega⟩⟩ | exact Or.inr ⟨by omega, Or.inr ⟨by omega, by omega, by omega⟩⟩), fun _ => by omega, by omega⟩)))) | exact Or.inr (Or.inr (Or.inr (Or.inr (Or.inr (Or.inl ⟨by omega, by omega, sumM_R zS (by first | exact Or.inl ⟨by omega, by omega⟩ | exact Or.inr ⟨by omega, Or.inl ⟨by omega, by omega⟩⟩ | exact Or.inr ⟨by omega, Or.inr ⟨by omega, by omega, by omega⟩⟩), by first | omega | exact cw9, by omega⟩))))) | exact ⟨_, _, _, Or.inl ⟨by omega, fillM_R zF (by first | exact Or.inl ⟨by omega, by omega⟩ | exact Or.inr ⟨by omega, Or.inl ⟨by omega, by omega⟩⟩ | exact Or.inr ⟨by omega, Or.inr ⟨by omega, by omega, by omega⟩⟩), rfl, rfl⟩⟩ | exact ⟨_, _, _, Or.inr (Or.inr (Or.inl ⟨by omega, by omega, cutM_R zC (by first | exact Or.inl ⟨by omega, by omega⟩ | exact Or.inr ⟨by omega, Or.inl ⟨by omega, by omega⟩⟩ | exact Or.inr ⟨by omega, Or.inr ⟨by omega, by omega, by omega⟩⟩), rfl, rfl⟩))⟩ | exact ⟨_, _, _, Or.inr (Or.inr (Or.inr (Or.inl ⟨by omega, by omega, fmE_R zW (by first | exact Or.inl ⟨by omega, by omega⟩ | exact Or.inr ⟨by omega, Or.inl ⟨by omega, by omega⟩⟩ | exact Or.inr ⟨by omega, Or.inr ⟨by omega, by omega, by omega⟩⟩), rfl⟩)))⟩ | exact ⟨_, _, _, Or.inr (Or.inr (Or.inr (Or.inr (Or.inl ⟨by omega, by omega, joinM_R zJ (by first | exact Or.inl ⟨by omega, by omega⟩ | exact Or.inr ⟨by omega, Or.inl ⟨by omega, by omega⟩⟩ | exact Or.inr ⟨by omega, Or.inr ⟨by omega, by omega, by omega⟩⟩), fun q => absurd q (by omega), rfl⟩))))⟩ | exact ⟨_, _, _, Or.inr (Or.inr (Or.inr (Or.inr (Or.inr (Or.inl ⟨by omega, by omega, sumM_R zS (by first | exact Or.inl ⟨by omega, by omega⟩ | exact Or.inr ⟨by omega, Or.inl ⟨by omega, by omega⟩⟩ | exact Or.inr ⟨by omega, Or.inr ⟨by omega, by omega, by omega⟩⟩), rfl, rfl⟩)))))⟩ | exact ⟨0, 0, 0, Or.inr (Or.inl ⟨by omega, by omega, by omega⟩)⟩ | exact ⟨0, 0, 0, Or.inr (Or.inr (Or.inr (Or.inr (Or.inr (Or.inr (⟨by omega, by omega, by omega, by omega, by omega, by omega⟩))))))⟩ | omega) Tok_h329t336 Mq_h329 Wrd_h329 Wd9_h329)
        ·
          refine w_aload_n gz_185_135 rfl ?_
          refine w_iload gz_185_136 rfl ?_
          have ce349 : h6 151 7 = (v3 + 1) := (my_up_self fh6)
          have ce350 : h6 151 27 = k151_27 := ((my_up_fld fh6 (by decide)).trans c151_27_88_0)
          have hi351 : 36 ≤ (36 + v10) := by omega
          have hi352 : (36 + v10) ≤ 41 := by omega
          refine w_inv (k := 3) (as := [(0, (36 + v10))]) (r := []) (x := 151) (ls0 := [(2, 151), (0, (36 + v10)), (9, 0), (9, 0), (9, 0)]) gz_185_138 gm_188 rfl is_151 rd_10 rfl rfl rfl rfl rfl (c_Model_readFew9_f0 (d := (d + 1)) (x1 := (36 + v10)) (wv := wv) (by omega) (by omega) (((my_up_fld fh6 (by decide)).trans ev1.symm).trans (by omega)) (by first | assumption | omega) (by first | assumption | omega) Tok_h6t8 Mq_h6 Wd9_h6 (by first | assumption | exact no_such_saying | exact Fp_told (by omega) (by omega) | omega | (subst_vars; omega) | omega) (fun h353 frh353 xp354 xp355 xp356 xp357 xp358 xp359 Tok_h353t360 Mq_h353t361 Wd9_h353t362 => ?_))
          have gh353 : my_fr [(10, 7), (10, 8), (10, 27), (66, -1), (67, -1), (68, -1), (69, -1), (70, -1), (71, -1), (72, -1), (73, -1), (74, -1), (75, -1), (77, -1), (78, -1), (79, -1)] h h353 := my_fr.tr gh6 (frh353.mo rfl)
          have Wrd_h353 : Wrd h353 := Wrd_ag (my_ag.fr frh353 rfl) Wrd_h6
          have Wd9_h353 : Wd9 h353 := Wd9_ag (my_ag.fr frh353 rfl) Wd9_h6
          show wp l rho (d + 4) 185 141 [(2, 151), (0, p88_0), (0, p88_1), (0, p88_2), (0, p88_3), (0, (36 + v10)), (9, 0), (9, 0)] [] h353 Q
          have ps363 : h6 151 7 = (sN (sm h) (h 151 7)) := ps7
          rw [ps363] at xp356
          have tE364 : sm h6 = sm h := sm_eq (fun j => my_fr.at gh6 is_153 rfl) (fun j => my_fr.at gh6 is_154 rfl) (fun j => my_fr.at gh6 is_155 rfl)
          rw [tE364] at xp357
          rw [ps363] at xp357
          have q27 : h6 151 27 = h 151 27 := by omega
          have q57 : h6 157 = h 157 := funext (fun j => my_fr.at gh6 is_157 rfl)
          have zW := xp357
          simp only [q27, q57] at zW
          have pk := xp354
          have pk3 := xp355
          have kd := xp358
          have Ko_h353t365 : Ko h h353 := Ko_tr Ko_h6 xp359
          refine w_goto (t := 228) gz_185_141 rfl ?_
          refine w_aload_n gz_185_228 rfl ?_
          refine v_getI (j := 8) gz_185_229 rfl is_151 rd_10 rfl (fun v366 ev366 pv366 qv366 => ?_)
          refine w_ifne (t := 269) gz_185_232 rfl (fun u367 => ?_) (fun u367 => ?_)
          ·
            refine w_aload_n gz_185_269 rfl ?_
            refine w_bipush gz_185_270 (by decide) ?_
            refine w_inv (k := 0) (as := [(0, 59)]) (r := []) (x := 151) (ls0 := [(2, 151), (0, 59)]) gz_185_272 gm_183 rfl is_151 rd_10 rfl rfl rfl rfl rfl (c_Model_takeSign9_f1 (d := (d + 2))  (v366) (ev366.symm) (by omega) (by omega) Tok_h353t360 (fun w368 w369 xp370 xp371 Tok_h353t372 => ?_))
            show wp l rho (d + 4) 185 275 [(2, 151), (0, p88_0), (0, p88_1), (0, p88_2), (0, p88_3), (0, (36 + v10)), (9, 0), (9, 0)] [] h353 Q
            have psR : h353 151 7 = h353 151 7 := (rfl : h353 151 7 = h353 151 7)
            have npsR : sm h353 = sm h := sm_eq (fun j => my_fr.at gh353 is_153 rfl) (fun j => my_fr.at gh353 is_154 rfl) (fun j => my_fr.at gh353 is_155 rfl)
            have ce373 : h353 151 8 = v366 := ev366.symm
            have ce374 : h353 151 27 = k151_27 := ((my_fr.at frh353 is_151 rfl).trans ((my_up_fld fh6 (by decide)).trans c151_27_88_0))
            have r167 : ∀ j : Int, h353 167 j = h88_0 167 j := fun j => ((my_fr.at frh353 is_167 rfl).trans ((my_up_role fh6 is_167 is_151 rfl).trans (rfl : h88_0 167 j = h88_0 167 j)))
            have r6 := r167 6
            have c375 := ev366.symm
            exact w_vret gz_185_275 gm_185 (k0 h353 (gh353) (by omega) (by omega) (by first | exact Ko_h353t365 | omega | exact Or.inl ⟨by omega, fillM_R zF (by first | exact Or.inl ⟨by omega, by omega⟩ | exact Or.inr ⟨by omega, Or.inl ⟨by omega, by omega⟩⟩ | exact Or.inr ⟨by omega, Or.inr ⟨by omega, by omega, by omega⟩⟩), by omega, by omega⟩ | exact Or.inr (Or.inr (Or.inl ⟨by omega, by omega, cutM_R zC (by first | exact Or.inl ⟨by omega, by omega⟩ | exact Or.inr ⟨by omega, Or.inl ⟨by omega, by omega⟩⟩ | exact Or.inr ⟨by omega, Or.inr ⟨by omega, by omega, by omega⟩⟩), by first | omega | exact cw9, by omega⟩)) | exact Or.inr (Or.inr (Or.inr (Or.inl ⟨by omega, by omega, by first | (rw [cw9]; exact fmE_R zW (by first | exact Or.inl ⟨by omega, by omega⟩ | exact Or.inr ⟨by omega, Or.inl ⟨by omega, by omega⟩⟩ | exact Or.inr ⟨by omega, Or.inr ⟨by omega, by omega, by omega⟩⟩)) | exact fmE_R zW (by first | exact Or.inl ⟨by omega, by omega⟩ | exact Or.inr ⟨by omega, Or.inl ⟨by omega, by omega⟩⟩ | exact Or.inr ⟨by omega, Or.inr ⟨by omega, by omega, by omega⟩⟩), by omega⟩))) | exact Or.inr (Or.inr (Or.inr (Or.inr (Or.inl ⟨by omega, by omega, joinM_R zJ (by first | exact Or.inl ⟨by omega, by omega⟩ | exact Or.inr ⟨by omega, Or.inl ⟨by omega, by omega⟩⟩ | exact Or.inr ⟨by omega, Or.inr ⟨by omega, by omega, by omega⟩⟩), fun _ => by omega, by omega⟩)))) | exact Or.inr (Or.inr (Or.inr (Or.inr (Or.inr (Or.inl ⟨by omega, by omega, sumM_R zS (by first | exact Or.inl ⟨by omega, by omega⟩ | exact Or.inr ⟨by omega, Or.inl ⟨by omega, by omega⟩⟩ | exact Or.inr ⟨by omega, Or.inr ⟨by omega, by omega, by omega⟩⟩), by first | omega | exact cw9, by omega⟩))))) | exact ⟨_, _, _, Or.inl ⟨by omega, fillM_R zF (by first | exact Or.inl ⟨by omega, by omega⟩ | exact Or.inr ⟨by omega, Or.inl ⟨by omega, by omega⟩⟩ | exact Or.inr ⟨by omega, Or.inr ⟨by omega, by omega, by omega⟩⟩), rfl, rfl⟩⟩ | exact ⟨_, _, _, Or.inr (Or.inr (Or.inl ⟨by omega, by omega, cutM_R zC (by first | exact Or.inl ⟨by omega, by omega⟩ | exact Or.inr ⟨by omega, Or.inl ⟨by omega, by omega⟩⟩ | exact Or.inr ⟨by omega, Or.inr ⟨by omega, by omega, by omega⟩⟩), rfl, rfl⟩))⟩ | exact ⟨_, _, _, Or.inr (Or.inr (Or.inr (Or.inl ⟨by omega, by omega, fmE_R zW (by first | exact Or.inl ⟨by omega, by omega⟩ | exact Or.inr ⟨by omega, Or.inl ⟨by omega, by omega⟩⟩ | exact Or.inr ⟨by omega, Or.inr ⟨by omega, by omega, by omega⟩⟩), rfl⟩)))⟩ | exact ⟨_, _, _, Or.inr (Or.inr (Or.inr (Or.inr (Or.inl ⟨by omega, by omega, joinM_R zJ (by first | exact Or.inl ⟨by omega, by omega⟩ | exact Or.inr ⟨by omega, Or.inl ⟨by omega, by omega⟩⟩ | exact Or.inr ⟨by omega, Or.inr ⟨by omega, by omega, by omega⟩⟩), fun q => absurd q (by omega), rfl⟩))))⟩ | exact ⟨_, _, _, Or.inr (Or.inr (Or.inr (Or.inr (Or.inr (Or.inl ⟨by omega, by omega, sumM_R zS (by first | exact Or.inl ⟨by omega, by omega⟩ | exact Or.inr ⟨by omega, Or.inl ⟨by omega, by omega⟩⟩ | exact Or.inr ⟨by omega, Or.inr ⟨by omega, by omega, by omega⟩⟩), rfl, rfl⟩)))))⟩ | exact ⟨0, 0, 0, Or.inr (Or.inl ⟨by omega, by omega, by omega⟩)⟩ | exact ⟨0, 0, 0, Or.inr (Or.inr (Or.inr (Or.inr (Or.inr (Or.inr (⟨by omega, by omega, by omega, by omega, by omega, by omega⟩))))))⟩ | omega) (by first | exact Ko_h353t365 | omega | exact Or.inl ⟨by omega, fillM_R zF (by first | exact Or.inl ⟨by omega, by omega⟩ | exact Or.inr ⟨by omega, Or.inl ⟨by omega, by omega⟩⟩ | exact Or.inr ⟨by omega, Or.inr ⟨by omega, by omega, by omega⟩⟩), by omega, by omega⟩ | exact Or.inr (Or.inr (Or.inl ⟨by omega, by omega, cutM_R zC (by first | exact Or.inl ⟨by omega, by omega⟩ | exact Or.inr ⟨by omega, Or.inl ⟨by omega, by omega⟩⟩ | exact Or.inr ⟨by omega, Or.inr ⟨by omega, by omega, by omega⟩⟩), by first | omega | exact cw9, by omega⟩)) | exact Or.inr (Or.inr (Or.inr (Or.inl ⟨by omega, by omega, by first | (rw [cw9]; exact fmE_R zW (by first | exact Or.inl ⟨by omega, by omega⟩ | exact Or.inr ⟨by omega, Or.inl ⟨by omega, by omega⟩⟩ | exact Or.inr ⟨by omega, Or.inr ⟨by omega, by omega, by omega⟩⟩)) | exact fmE_R zW (by first | exact Or.inl ⟨by omega, by omega⟩ | exact Or.inr ⟨by omega, Or.inl ⟨by omega, by omega⟩⟩ | exact Or.inr ⟨by omega, Or.inr ⟨by omega, by omega, by omega⟩⟩), by omega⟩))) | exact Or.inr (Or.inr (Or.inr (Or.inr (Or.inl ⟨by omega, by omega, joinM_R zJ (by first | exact Or.inl ⟨by omega, by omega⟩ | exact Or.inr ⟨by omega, Or.inl ⟨by omega, by omega⟩⟩ | exact Or.inr ⟨by omega, Or.inr ⟨by omega, by omega, by omega⟩⟩), fun _ => by omega, by omega⟩)))) | exact Or.inr (Or.inr (Or.inr (Or.inr (Or.inr (Or.inl ⟨by omega, by omega, sumM_R zS (by first | exact Or.inl ⟨by omega, by omega⟩ | exact Or.inr ⟨by omega, Or.inl ⟨by omega, by omega⟩⟩ | exact Or.inr ⟨by omega, Or.inr ⟨by omega, by omega, by omega⟩⟩), by first | omega | exact cw9, by omega⟩))))) | exact ⟨_, _, _, Or.inl ⟨by omega, fillM_R zF (by first | exact Or.inl ⟨by omega, by omega⟩ | exact Or.inr ⟨by omega, Or.inl ⟨by omega, by omega⟩⟩ | exact Or.inr ⟨by omega, Or.inr ⟨by omega, by omega, by omega⟩⟩), rfl, rfl⟩⟩ | exact ⟨_, _, _, Or.inr (Or.inr (Or.inl ⟨by omega, by omega, cutM_R zC (by first | exact Or.inl ⟨by omega, by omega⟩ | exact Or.inr ⟨by omega, Or.inl ⟨by omega, by omega⟩⟩ | exact Or.inr ⟨by omega, Or.inr ⟨by omega, by omega, by omega⟩⟩), rfl, rfl⟩))⟩ | exact ⟨_, _, _, Or.inr (Or.inr (Or.inr (Or.inl ⟨by omega, by omega, fmE_R zW (by first | exact Or.inl ⟨by omega, by omega⟩ | exact Or.inr ⟨by omega, Or.inl ⟨by omega, by omega⟩⟩ | exact Or.inr ⟨by omega, Or.inr ⟨by omega, by omega, by omega⟩⟩), rfl⟩)))⟩ | exact ⟨_, _, _, Or.inr (Or.inr (Or.inr (Or.inr (Or.inl ⟨by omega, by omega, joinM_R zJ (by first | exact Or.inl ⟨by omega, by omega⟩ | exact Or.inr ⟨by omega, Or.inl ⟨by omega, by omega⟩⟩ | exact Or.inr ⟨by omega, Or.inr ⟨by omega, by omega, by omega⟩⟩), fun q => absurd q (by omega), rfl⟩))))⟩ | exact ⟨_, _, _, Or.inr (Or.inr (Or.inr (Or.inr (Or.inr (Or.inl ⟨by omega, by omega, sumM_R zS (by first | exact Or.inl ⟨by omega, by omega⟩ | exact Or.inr ⟨by omega, Or.inl ⟨by omega, by omega⟩⟩ | exact Or.inr ⟨by omega, Or.inr ⟨by omega, by omega, by omega⟩⟩), rfl, rfl⟩)))))⟩ | exact ⟨0, 0, 0, Or.inr (Or.inl ⟨by omega, by omega, by omega⟩)⟩ | exact ⟨0, 0, 0, Or.inr (Or.inr (Or.inr (Or.inr (Or.inr (Or.inr (⟨by omega, by omega, by omega, by omega, by omega, by omega⟩))))))⟩ | omega) (by first | exact Ko_h353t365 | omega | exact Or.inl ⟨by omega, fillM_R zF (by first | exact Or.inl ⟨by omega, by omega⟩ | exact Or.inr ⟨by omega, Or.inl ⟨by omega, by omega⟩⟩ | exact Or.inr ⟨by omega, Or.inr ⟨by omega, by omega, by omega⟩⟩), by omega, by omega⟩ | exact Or.inr (Or.inr (Or.inl ⟨by omega, by omega, cutM_R zC (by first | exact Or.inl ⟨by omega, by omega⟩ | exact Or.inr ⟨by omega, Or.inl ⟨by omega, by omega⟩⟩ | exact Or.inr ⟨by omega, Or.inr ⟨by omega, by omega, by omega⟩⟩), by first | omega | exact cw9, by omega⟩)) | exact Or.inr (Or.inr (Or.inr (Or.inl ⟨by omega, by omega, by first | (rw [cw9]; exact fmE_R zW (by first | exact Or.inl ⟨by omega, by omega⟩ | exact Or.inr ⟨by omega, Or.inl ⟨by omega, by omega⟩⟩ | exact Or.inr ⟨by omega, Or.inr ⟨by omega, by omega, by omega⟩⟩)) | exact fmE_R zW (by first | exact Or.inl ⟨by omega, by omega⟩ | exact Or.inr ⟨by omega, Or.inl ⟨by omega, by omega⟩⟩ | exact Or.inr ⟨by omega, Or.inr ⟨by omega, by omega, by omega⟩⟩), by omega⟩))) | exact Or.inr (Or.inr (Or.inr (Or.inr (Or.inl ⟨by omega, by omega, joinM_R zJ (by first | exact Or.inl ⟨by omega, by omega⟩ | exact Or.inr ⟨by omega, Or.inl ⟨by omega, by omega⟩⟩ | exact Or.inr ⟨by omega, Or.inr ⟨by omega, by omega, by omega⟩⟩), fun _ => by omega, by omega⟩)))) | exact Or.inr (Or.inr (Or.inr (Or.inr (Or.inr (Or.inl ⟨by omega, by omega, sumM_R zS (by first | exact Or.inl ⟨by omega, by omega⟩ | exact Or.inr ⟨by omega, Or.inl ⟨by omega, by omega⟩⟩ | exact Or.inr ⟨by omega, Or.inr ⟨by omega, by omega, by omega⟩⟩), by first | omega | exact cw9, by omega⟩))))) | exact ⟨_, _, _, Or.inl ⟨by omega, fillM_R zF (by first | exact Or.inl ⟨by omega, by omega⟩ | exact Or.inr ⟨by omega, Or.inl ⟨by omega, by omega⟩⟩ | exact Or.inr ⟨by omega, Or.inr ⟨by omega, by omega, by omega⟩⟩), rfl, rfl⟩⟩ | exact ⟨_, _, _, Or.inr (Or.inr (Or.inl ⟨by omega, by omega, cutM_R zC (by first | exact Or.inl ⟨by omega, by omega⟩ | exact Or.inr ⟨by omega, Or.inl ⟨by omega, by omega⟩⟩ | exact Or.inr ⟨by omega, Or.inr ⟨by omega, by omega, by omega⟩⟩), rfl, rfl⟩))⟩ | exact ⟨_, _, _, Or.inr (Or.inr (Or.inr (Or.inl ⟨by omega, by omega, fmE_R zW (by first | exact Or.inl ⟨by omega, by omega⟩ | exact Or.inr ⟨by omega, Or.inl ⟨by omega, by omega⟩⟩ | exact Or.inr ⟨by omega, Or.inr ⟨by omega, by omega, by omega⟩⟩), rfl⟩)))⟩ | exact ⟨_, _, _, Or.inr (Or.inr (Or.inr (Or.inr (Or.inl ⟨by omega, by omega, joinM_R zJ (by first | exact Or.inl ⟨by omega, by omega⟩ | exact Or.inr ⟨by omega, Or.inl ⟨by omega, by omega⟩⟩ | exact Or.inr ⟨by omega, Or.inr ⟨by omega, by omega, by omega⟩⟩), fun q => absurd q (by omega), rfl⟩))))⟩ | exact ⟨_, _, _, Or.inr (Or.inr (Or.inr (Or.inr (Or.inr (Or.inl ⟨by omega, by omega, sumM_R zS (by first | exact Or.inl ⟨by omega, by omega⟩ | exact Or.inr ⟨by omega, Or.inl ⟨by omega, by omega⟩⟩ | exact Or.inr ⟨by omega, Or.inr ⟨by omega, by omega, by omega⟩⟩), rfl, rfl⟩)))))⟩ | exact ⟨0, 0, 0, Or.inr (Or.inl ⟨by omega, by omega, by omega⟩)⟩ | exact ⟨0, 0, 0, Or.inr (Or.inr (Or.inr (Or.inr (Or.inr (Or.inr (⟨by omega, by omega, by omega, by omega, by omega, by omega⟩))))))⟩ | omega) Tok_h353t372 Mq_h353t361 Wrd_h353 Wd9_h353t362)
          ·
            refine w_iload_n gz_185_235 rfl ?_
            refine w_ifne (t := 252) gz_185_236 rfl (fun u376 => by exfalso; omega) (fun u376 => ?_)
            refine w_iload_n gz_185_239 rfl ?_
            refine w_ifne (t := 252) gz_185_240 rfl (fun u377 => ?_) (fun u377 => by exfalso; omega)
            refine w_aload_n gz_185_252 rfl ?_
            refine w_iload gz_185_253 rfl ?_
            have d167 : ∀ j : Int, h353 167 j = h88_0 167 j := fun j => ((my_fr.at frh353 is_167 rfl).trans ((my_up_role fh6 is_167 is_151 rfl).trans (rfl : h88_0 167 j = h88_0 167 j)))
            have d6 := d167 6
            have mr0 := Mq_h353t361
            have ce378 : h353 151 27 = k151_27 := ((my_fr.at frh353 is_151 rfl).trans ((my_up_fld fh6 (by decide)).trans c151_27_88_0))
            refine w_inv (k := 1) (as := [(0, (36 + v10))]) (r := []) (x := 151) (ls0 := [(2, 151), (0, (36 + v10)), (9, 0)]) gz_185_255 gm_182 rfl is_151 rd_10 rfl rfl rfl rfl rfl (c_Model_pane2_f0 (d := (d + 3)) (x1 := (36 + v10)) (by omega) (by omega) (ev366.symm.trans (by omega)) (pk.1) (fun h379 frh379 w380 xp381 xp382 => ?_))
            have gh379 : my_fr [(10, 7), (10, 8), (10, 27), (66, -1), (67, -1), (68, -1), (69, -1), (70, -1), (71, -1), (72, -1), (73, -1), (74, -1), (75, -1), (77, -1), (78, -1), (79, -1)] h h379 := my_fr.tr gh353 (frh379.mo rfl)
            have Wrd_h379 : Wrd h379 := Wrd_ag (my_ag.fr frh379 rfl) Wrd_h353
            have Wd9_h379 : Wd9 h379 := Wd9_ag (my_ag.fr frh379 rfl) Wd9_h353t362
            have Tok_h379 : Tok h379 := Tok_ag (my_ag.fr frh379 rfl) Tok_h353t360
            have Ko_h379 : Ko h h379 := Ko_ag (my_ag.fr frh379 rfl) Ko_h353t365
            show wp l rho (d + 4) 185 258 [(2, 151), (0, p88_0), (0, p88_1), (0, p88_2), (0, p88_3), (0, (36 + v10)), (9, 0), (9, 0)] [] h379 Q
            have ag0 : my_ag M3F h353 h379 := my_ag.fr frh379 rfl
            have e27 := xp381
            have e67 : h379 167 6 = h353 167 6 := ag0.at mis_167 rfl
            have mc := ms_c e27
            try (have m3 := mc.2.2.1 kd; rw [← m3] at zW)
            try (have q58 : h353 157 = h 157 := funext (fun j => my_fr.at gh353 is_157 rfl); have j4 := mc.2.1 kd.1; rw [kd.2, q58] at j4)
            refine w_aload_n gz_185_258 rfl ?_
            refine w_getX (v := 167) gz_185_259 is_151 rd_10 rfl (by decide) rfl ?_
            refine w_bipush gz_185_262 (by decide) ?_
            refine w_dup2 gz_185_264 rfl rfl ?_
            refine w_iald gz_185_265 is_167 rd_66 (by omega) (by omega) (fun v384 ev384 pv384 qv384 => ?_)
            have zv384 := ev384.trans ((my_fr.at frh379 is_167 rfl).trans ((my_fr.at frh353 is_167 rfl).trans ev10.symm))
            refine w_iconst gz_185_266 (by decide) ?_
            refine w_iadd gz_185_267 ⟨by omega, by omega⟩ ?_
            have hi385 : 0 ≤ (v384 + 1) := by omega
            have hi386 : (v384 + 1) ≤ 6 := by omega
            refine w_iast gz_185_268 is_167 rd_66 (by omega) (by omega) (by omega) (by omega) (fun h387 fh387 => ?_)
            have gh387 : my_fr [(10, 7), (10, 8), (10, 27), (66, -1), (67, -1), (68, -1), (69, -1), (70, -1), (71, -1), (72, -1), (73, -1), (74, -1), (75, -1), (77, -1), (78, -1), (79, -1)] h h387 := my_fr.up gh379 is_167 fh387 rfl
            have Wrd_h387 : Wrd h387 := Wrd_ag (my_ag.up fh387 is_167 rfl) Wrd_h379
            have Wd9_h387 : Wd9 h387 := Wd9_ag (my_ag.up fh387 is_167 rfl) Wd9_h379
            have Tok_h387 : Tok h387 := Tok_ag (my_ag.up fh387 is_167 rfl) Tok_h379
            have Ko_h387 : Ko h h387 := Ko_7 (a := 167) hwv (by decide) (by omega) fh387 Ko_h379
            have Mq_h387t388 : Mq h387 wv := Mq_add mr0 (by omega) pk pk3 ag0 e27 fh387 (by omega) (by omega)
            have k6 := my_up_self fh387
            refine w_aload_n gz_185_269 rfl ?_
            refine w_bipush gz_185_270 (by decide) ?_
            have ce389 : h387 151 7 = h353 151 7 := ((my_up_role fh387 is_151 is_167 rfl).trans ((my_fr.at frh379 is_151 rfl).trans (rfl : h353 151 7 = h353 151 7)))
            refine w_inv (k := 0) (as := [(0, 59)]) (r := []) (x := 151) (ls0 := [(2, 151), (0, 59)]) gz_185_272 gm_183 rfl is_151 rd_10 rfl rfl rfl rfl rfl (c_Model_takeSign9_f0 (d := (d + 2))  (((my_up_role fh387 is_151 is_167 rfl).trans ((my_fr.at frh379 is_151 rfl).trans ev366.symm)).trans (by omega)) Tok_h387 (fun h390 frh390 w391 w392 xp393 xp394 xp395 Tok_h390t396 => ?_) (fun h397 frh397 w398 w399 w400 xp401 xp402 xp403 Tok_h397t404 => ?_))
            ·
              have gh390 : my_fr [(10, 7), (10, 8), (10, 27), (66, -1), (67, -1), (68, -1), (69, -1), (70, -1), (71, -1), (72, -1), (73, -1), (74, -1), (75, -1), (77, -1), (78, -1), (79, -1)] h h390 := my_fr.tr gh387 (frh390.mo rfl)
              have Wrd_h390 : Wrd h390 := Wrd_ag (my_ag.fr frh390 rfl) Wrd_h387
              have Wd9_h390 : Wd9 h390 := Wd9_ag (my_ag.fr frh390 rfl) Wd9_h387
              have Ko_h390 : Ko h h390 := Ko_ag (my_ag.fr frh390 rfl) Ko_h387
              have Mq_h390 : Mq h390 wv := Mq_ag (my_ag.fr frh390 rfl) Mq_h387t388
              show wp l rho (d + 4) 185 275 [(2, 151), (0, p88_0), (0, p88_1), (0, p88_2), (0, p88_3), (0, (36 + v10)), (9, 0), (9, 0)] [] h390 Q
              have ps405 : h387 151 7 = h353 151 7 := ((my_up_role fh387 is_151 is_167 rfl).trans ((my_fr.at frh379 is_151 rfl).trans (rfl : h353 151 7 = h353 151 7)))
              rw [ps405] at xp393
              have tE406 : sm h387 = sm h := sm_eq (fun j => my_fr.at gh387 is_153 rfl) (fun j => my_fr.at gh387 is_154 rfl) (fun j => my_fr.at gh387 is_155 rfl)
              rw [tE406] at xp394
              rw [ps405] at xp394
              rw [tE406] at xp395
              rw [ps405] at xp395
              have psR : h390 151 7 = h390 151 7 := (rfl : h390 151 7 = h390 151 7)
              have npsR : sm h390 = sm h := sm_eq (fun j => my_fr.at gh390 is_153 rfl) (fun j => my_fr.at gh390 is_154 rfl) (fun j => my_fr.at gh390 is_155 rfl)
              have ce407 : h390 151 8 = (h390 151 8) := (rfl : h390 151 8 = h390 151 8)
              have ce408 : h390 151 27 = h379 151 27 := ((my_fr.at frh390 is_151 rfl).trans ((my_up_role fh387 is_151 is_167 rfl).trans (rfl : h379 151 27 = h379 151 27)))
              have r167 : ∀ j : Int, h390 167 j = h387 167 j := fun j => ((my_fr.at frh390 is_167 rfl).trans (rfl : h387 167 j = h387 167 j))
              have r6 := r167 6
              have cw9 : h390 151 27 = h379 151 27 := by omega
              have c409 := (rfl : h390 151 8 = h390 151 8)
              exact w_vret gz_185_275 gm_185 (k0 h390 (gh390) (by omega) (by omega) (by first | exact Ko_h390 | omega | exact Or.inl ⟨by omega, fillM_R zF (by first | exact Or.inl ⟨by omega, by omega⟩ | exact Or.inr ⟨by omega, Or.inl ⟨by omega, by omega⟩⟩ | exact Or.inr ⟨by omega, Or.inr ⟨by omega, by omega, by omega⟩⟩), by omega, by omega⟩ | exact Or.inr (Or.inr (Or.inl ⟨by omega, by omega, cutM_R zC (by first | exact Or.inl ⟨by omega, by omega⟩ | exact Or.inr ⟨by omega, Or.inl ⟨by omega, by omega⟩⟩ | exact Or.inr ⟨by omega, Or.inr ⟨by omega, by omega, by omega⟩⟩), by first | omega | exact cw9, by omega⟩)) | exact Or.inr (Or.inr (Or.inr (Or.inl ⟨by omega, by omega, by first | (rw [cw9]; exact fmE_R zW (by first | exact Or.inl ⟨by omega, by omega⟩ | exact Or.inr ⟨by omega, Or.inl ⟨by omega, by omega⟩⟩ | exact Or.inr ⟨by omega, Or.inr ⟨by omega, by omega, by omega⟩⟩)) | exact fmE_R zW (by first | exact Or.inl ⟨by omega, by omega⟩ | exact Or.inr ⟨by omega, Or.inl ⟨by omega, by omega⟩⟩ | exact Or.inr ⟨by omega, Or.inr ⟨by omega, by omega, by omega⟩⟩), by omega⟩))) | exact Or.inr (Or.inr (Or.inr (Or.inr (Or.inl ⟨by omega, by omega, joinM_R zJ (by first | exact Or.inl ⟨by omega, by omega⟩ | exact Or.inr ⟨by omega, Or.inl ⟨by omega, by omega⟩⟩ | exact Or.inr ⟨by omega, Or.inr ⟨by omega, by omega, by omega⟩⟩), fun _ => by omega, by omega⟩)))) | exact Or.inr (Or.inr (Or.inr (Or.inr (Or.inr (Or.inl ⟨by omega, by omega, sumM_R zS (by first | exact Or.inl ⟨by omega, by omega⟩ | exact Or.inr ⟨by omega, Or.inl ⟨by omega, by omega⟩⟩ | exact Or.inr ⟨by omega, Or.inr ⟨by omega, by omega, by omega⟩⟩), by first | omega | exact cw9, by omega⟩))))) | exact ⟨_, _, _, Or.inl ⟨by omega, fillM_R zF (by first | exact Or.inl ⟨by omega, by omega⟩ | exact Or.inr ⟨by omega, Or.inl ⟨by omega, by omega⟩⟩ | exact Or.inr ⟨by omega, Or.inr ⟨by omega, by omega, by omega⟩⟩), rfl, rfl⟩⟩ | exact ⟨_, _, _, Or.inr (Or.inr (Or.inl ⟨by omega, by omega, cutM_R zC (by first | exact Or.inl ⟨by omega, by omega⟩ | exact Or.inr ⟨by omega, Or.inl ⟨by omega, by omega⟩⟩ | exact Or.inr ⟨by omega, Or.inr ⟨by omega, by omega, by omega⟩⟩), rfl, rfl⟩))⟩ | exact ⟨_, _, _, Or.inr (Or.inr (Or.inr (Or.inl ⟨by omega, by omega, fmE_R zW (by first | exact Or.inl ⟨by omega, by omega⟩ | exact Or.inr ⟨by omega, Or.inl ⟨by omega, by omega⟩⟩ | exact Or.inr ⟨by omega, Or.inr ⟨by omega, by omega, by omega⟩⟩), rfl⟩)))⟩ | exact ⟨_, _, _, Or.inr (Or.inr (Or.inr (Or.inr (Or.inl ⟨by omega, by omega, joinM_R zJ (by first | exact Or.inl ⟨by omega, by omega⟩ | exact Or.inr ⟨by omega, Or.inl ⟨by omega, by omega⟩⟩ | exact Or.inr ⟨by omega, Or.inr ⟨by omega, by omega, by omega⟩⟩), fun q => absurd q (by omega), rfl⟩))))⟩ | exact ⟨_, _, _, Or.inr (Or.inr (Or.inr (Or.inr (Or.inr (Or.inl ⟨by omega, by omega, sumM_R zS (by first | exact Or.inl ⟨by omega, by omega⟩ | exact Or.inr ⟨by omega, Or.inl ⟨by omega, by omega⟩⟩ | exact Or.inr ⟨by omega, Or.inr ⟨by omega, by omega, by omega⟩⟩), rfl, rfl⟩)))))⟩ | exact ⟨0, 0, 0, Or.inr (Or.inl ⟨by omega, by omega, by omega⟩)⟩ | exact ⟨0, 0, 0, Or.inr (Or.inr (Or.inr (Or.inr (Or.inr (Or.inr (⟨by omega, by omega, by omega, by omega, by omega, by omega⟩))))))⟩ | omega) (by first | exact Ko_h390 | omega | exact Or.inl ⟨by omega, fillM_R zF (by first | exact Or.inl ⟨by omega, by omega⟩ | exact Or.inr ⟨by omega, Or.inl ⟨by omega, by omega⟩⟩ | exact Or.inr ⟨by omega, Or.inr ⟨by omega, by omega, by omega⟩⟩), by omega, by omega⟩ | exact Or.inr (Or.inr (Or.inl ⟨by omega, by omega, cutM_R zC (by first | exact Or.inl ⟨by omega, by omega⟩ | exact Or.inr ⟨by omega, Or.inl ⟨by omega, by omega⟩⟩ | exact Or.inr ⟨by omega, Or.inr ⟨by omega, by omega, by omega⟩⟩), by first | omega | exact cw9, by omega⟩)) | exact Or.inr (Or.inr (Or.inr (Or.inl ⟨by omega, by omega, by first | (rw [cw9]; exact fmE_R zW (by first | exact Or.inl ⟨by omega, by omega⟩ | exact Or.inr ⟨by omega, Or.inl ⟨by omega, by omega⟩⟩ | exact Or.inr ⟨by omega, Or.inr ⟨by omega, by omega, by omega⟩⟩)) | exact fmE_R zW (by first | exact Or.inl ⟨by omega, by omega⟩ | exact Or.inr ⟨by omega, Or.inl ⟨by omega, by omega⟩⟩ | exact Or.inr ⟨by omega, Or.inr ⟨by omega, by omega, by omega⟩⟩), by omega⟩))) | exact Or.inr (Or.inr (Or.inr (Or.inr (Or.inl ⟨by omega, by omega, joinM_R zJ (by first | exact Or.inl ⟨by omega, by omega⟩ | exact Or.inr ⟨by omega, Or.inl ⟨by omega, by omega⟩⟩ | exact Or.inr ⟨by omega, Or.inr ⟨by omega, by omega, by omega⟩⟩), fun _ => by omega, by omega⟩)))) | exact Or.inr (Or.inr (Or.inr (Or.inr (Or.inr (Or.inl ⟨by omega, by omega, sumM_R zS (by first | exact Or.inl ⟨by omega, by omega⟩ | exact Or.inr ⟨by omega, Or.inl ⟨by omega, by omega⟩⟩ | exact Or.inr ⟨by omega, Or.inr ⟨by omega, by omega, by omega⟩⟩), by first | omega | exact cw9, by omega⟩))))) | exact ⟨_, _, _, Or.inl ⟨by omega, fillM_R zF (by first | exact Or.inl ⟨by omega, by omega⟩ | exact Or.inr ⟨by omega, Or.inl ⟨by omega, by omega⟩⟩ | exact Or.inr ⟨by omega, Or.inr ⟨by omega, by omega, by omega⟩⟩), rfl, rfl⟩⟩ | exact ⟨_, _, _, Or.inr (Or.inr (Or.inl ⟨by omega, by omega, cutM_R zC (by first | exact Or.inl ⟨by omega, by omega⟩ | exact Or.inr ⟨by omega, Or.inl ⟨by omega, by omega⟩⟩ | exact Or.inr ⟨by omega, Or.inr ⟨by omega, by omega, by omega⟩⟩), rfl, rfl⟩))⟩ | exact ⟨_, _, _, Or.inr (Or.inr (Or.inr (Or.inl ⟨by omega, by omega, fmE_R zW (by first | exact Or.inl ⟨by omega, by omega⟩ | exact Or.inr ⟨by omega, Or.inl ⟨by omega, by omega⟩⟩ | exact Or.inr ⟨by omega, Or.inr ⟨by omega, by omega, by omega⟩⟩), rfl⟩)))⟩ | exact ⟨_, _, _, Or.inr (Or.inr (Or.inr (Or.inr (Or.inl ⟨by omega, by omega, joinM_R zJ (by first | exact Or.inl ⟨by omega, by omega⟩ | exact Or.inr ⟨by omega, Or.inl ⟨by omega, by omega⟩⟩ | exact Or.inr ⟨by omega, Or.inr ⟨by omega, by omega, by omega⟩⟩), fun q => absurd q (by omega), rfl⟩))))⟩ | exact ⟨_, _, _, Or.inr (Or.inr (Or.inr (Or.inr (Or.inr (Or.inl ⟨by omega, by omega, sumM_R zS (by first | exact Or.inl ⟨by omega, by omega⟩ | exact Or.inr ⟨by omega, Or.inl ⟨by omega, by omega⟩⟩ | exact Or.inr ⟨by omega, Or.inr ⟨by omega, by omega, by omega⟩⟩), rfl, rfl⟩)))))⟩ | exact ⟨0, 0, 0, Or.inr (Or.inl ⟨by omega, by omega, by omega⟩)⟩ | exact ⟨0, 0, 0, Or.inr (Or.inr (Or.inr (Or.inr (Or.inr (Or.inr (⟨by omega, by omega, by omega, by omega, by omega, by omega⟩))))))⟩ | omega) (by first | exact Ko_h390 | omega | exact Or.inl ⟨by omega, fillM_R zF (by first | exact Or.inl ⟨by omega, by omega⟩ | exact Or.inr ⟨by omega, Or.inl ⟨by omega, by omega⟩⟩ | exact Or.inr ⟨by omega, Or.inr ⟨by omega, by omega, by omega⟩⟩), by omega, by omega⟩ | exact Or.inr (Or.inr (Or.inl ⟨by omega, by omega, cutM_R zC (by first | exact Or.inl ⟨by omega, by omega⟩ | exact Or.inr ⟨by omega, Or.inl ⟨by omega, by omega⟩⟩ | exact Or.inr ⟨by omega, Or.inr ⟨by omega, by omega, by omega⟩⟩), by first | omega | exact cw9, by omega⟩)) | exact Or.inr (Or.inr (Or.inr (Or.inl ⟨by omega, by omega, by first | (rw [cw9]; exact fmE_R zW (by first | exact Or.inl ⟨by omega, by omega⟩ | exact Or.inr ⟨by omega, Or.inl ⟨by omega, by omega⟩⟩ | exact Or.inr ⟨by omega, Or.inr ⟨by omega, by omega, by omega⟩⟩)) | exact fmE_R zW (by first | exact Or.inl ⟨by omega, by omega⟩ | exact Or.inr ⟨by omega, Or.inl ⟨by omega, by omega⟩⟩ | exact Or.inr ⟨by omega, Or.inr ⟨by omega, by omega, by omega⟩⟩), by omega⟩))) | exact Or.inr (Or.inr (Or.inr (Or.inr (Or.inl ⟨by omega, by omega, joinM_R zJ (by first | exact Or.inl ⟨by omega, by omega⟩ | exact Or.inr ⟨by omega, Or.inl ⟨by omega, by omega⟩⟩ | exact Or.inr ⟨by omega, Or.inr ⟨by omega, by omega, by omega⟩⟩), fun _ => by omega, by omega⟩)))) | exact Or.inr (Or.inr (Or.inr (Or.inr (Or.inr (Or.inl ⟨by omega, by omega, sumM_R zS (by first | exact Or.inl ⟨by omega, by omega⟩ | exact Or.inr ⟨by omega, Or.inl ⟨by omega, by omega⟩⟩ | exact Or.inr ⟨by omega, Or.inr ⟨by omega, by omega, by omega⟩⟩), by first | omega | exact cw9, by omega⟩))))) | exact ⟨_, _, _, Or.inl ⟨by omega, fillM_R zF (by first | exact Or.inl ⟨by omega, by omega⟩ | exact Or.inr ⟨by omega, Or.inl ⟨by omega, by omega⟩⟩ | exact Or.inr ⟨by omega, Or.inr ⟨by omega, by omega, by omega⟩⟩), rfl, rfl⟩⟩ | exact ⟨_, _, _, Or.inr (Or.inr (Or.inl ⟨by omega, by omega, cutM_R zC (by first | exact Or.inl ⟨by omega, by omega⟩ | exact Or.inr ⟨by omega, Or.inl ⟨by omega, by omega⟩⟩ | exact Or.inr ⟨by omega, Or.inr ⟨by omega, by omega, by omega⟩⟩), rfl, rfl⟩))⟩ | exact ⟨_, _, _, Or.inr (Or.inr (Or.inr (Or.inl ⟨by omega, by omega, fmE_R zW (by first | exact Or.inl ⟨by omega, by omega⟩ | exact Or.inr ⟨by omega, Or.inl ⟨by omega, by omega⟩⟩ | exact Or.inr ⟨by omega, Or.inr ⟨by omega, by omega, by omega⟩⟩), rfl⟩)))⟩ | exact ⟨_, _, _, Or.inr (Or.inr (Or.inr (Or.inr (Or.inl ⟨by omega, by omega, joinM_R zJ (by first | exact Or.inl ⟨by omega, by omega⟩ | exact Or.inr ⟨by omega, Or.inl ⟨by omega, by omega⟩⟩ | exact Or.inr ⟨by omega, Or.inr ⟨by omega, by omega, by omega⟩⟩), fun q => absurd q (by omega), rfl⟩))))⟩ | exact ⟨_, _, _, Or.inr (Or.inr (Or.inr (Or.inr (Or.inr (Or.inl ⟨by omega, by omega, sumM_R zS (by first | exact Or.inl ⟨by omega, by omega⟩ | exact Or.inr ⟨by omega, Or.inl ⟨by omega, by omega⟩⟩ | exact Or.inr ⟨by omega, Or.inr ⟨by omega, by omega, by omega⟩⟩), rfl, rfl⟩)))))⟩ | exact ⟨0, 0, 0, Or.inr (Or.inl ⟨by omega, by omega, by omega⟩)⟩ | exact ⟨0, 0, 0, Or.inr (Or.inr (Or.inr (Or.inr (Or.inr (Or.inr (⟨by omega, by omega, by omega, by omega, by omega, by omega⟩))))))⟩ | omega) Tok_h390t396 Mq_h390 Wrd_h390 Wd9_h390)
            ·
              have gh397 : my_fr [(10, 7), (10, 8), (10, 27), (66, -1), (67, -1), (68, -1), (69, -1), (70, -1), (71, -1), (72, -1), (73, -1), (74, -1), (75, -1), (77, -1), (78, -1), (79, -1)] h h397 := my_fr.tr gh387 (frh397.mo rfl)
              have Wrd_h397 : Wrd h397 := Wrd_ag (my_ag.fr frh397 rfl) Wrd_h387
              have Wd9_h397 : Wd9 h397 := Wd9_ag (my_ag.fr frh397 rfl) Wd9_h387
              have Ko_h397 : Ko h h397 := Ko_ag (my_ag.fr frh397 rfl) Ko_h387
              have Mq_h397 : Mq h397 wv := Mq_ag (my_ag.fr frh397 rfl) Mq_h387t388
              show wp l rho (d + 4) 185 275 [(2, 151), (0, p88_0), (0, p88_1), (0, p88_2), (0, p88_3), (0, (36 + v10)), (9, 0), (9, 0)] [] h397 Q
              have ps410 : h387 151 7 = h353 151 7 := ((my_up_role fh387 is_151 is_167 rfl).trans ((my_fr.at frh379 is_151 rfl).trans (rfl : h353 151 7 = h353 151 7)))
              rw [ps410] at xp401
              have tE411 : sm h387 = sm h := sm_eq (fun j => my_fr.at gh387 is_153 rfl) (fun j => my_fr.at gh387 is_154 rfl) (fun j => my_fr.at gh387 is_155 rfl)
              rw [tE411] at xp402
              rw [ps410] at xp402
              rw [tE411] at xp403
              rw [ps410] at xp403
              have psR : h397 151 7 = (sN (sm h) ((h353 151 7))) := xp402
              have npsR : sm h397 = sm h := sm_eq (fun j => my_fr.at gh397 is_153 rfl) (fun j => my_fr.at gh397 is_154 rfl) (fun j => my_fr.at gh397 is_155 rfl)
              have ce412 : h397 151 7 = (h397 151 7) := (rfl : h397 151 7 = h397 151 7)
              have ce413 : h397 151 8 = 0 := w400
              have ce414 : h397 151 27 = h379 151 27 := ((my_fr.at frh397 is_151 rfl).trans ((my_up_role fh387 is_151 is_167 rfl).trans (rfl : h379 151 27 = h379 151 27)))
              have r167 : ∀ j : Int, h397 167 j = h387 167 j := fun j => ((my_fr.at frh397 is_167 rfl).trans (rfl : h387 167 j = h387 167 j))
              have r6 := r167 6
              have cw9 : h397 151 27 = h379 151 27 := by omega
              have c415 := (rfl : h397 151 7 = h397 151 7)
              have c416 := w400
              exact w_vret gz_185_275 gm_185 (k1 h397 (gh397) (by omega) (by omega) (by omega) (by first | exact Ko_h397 | omega | exact Or.inl ⟨by omega, fillM_R zF (by first | exact Or.inl ⟨by omega, by omega⟩ | exact Or.inr ⟨by omega, Or.inl ⟨by omega, by omega⟩⟩ | exact Or.inr ⟨by omega, Or.inr ⟨by omega, by omega, by omega⟩⟩), by omega, by omega⟩ | exact Or.inr (Or.inr (Or.inl ⟨by omega, by omega, cutM_R zC (by first | exact Or.inl ⟨by omega, by omega⟩ | exact Or.inr ⟨by omega, Or.inl ⟨by omega, by omega⟩⟩ | exact Or.inr ⟨by omega, Or.inr ⟨by omega, by omega, by omega⟩⟩), by first | omega | exact cw9, by omega⟩)) | exact Or.inr (Or.inr (Or.inr (Or.inl ⟨by omega, by omega, by first | (rw [cw9]; exact fmE_R zW (by first | exact Or.inl ⟨by omega, by omega⟩ | exact Or.inr ⟨by omega, Or.inl ⟨by omega, by omega⟩⟩ | exact Or.inr ⟨by omega, Or.inr ⟨by omega, by omega, by omega⟩⟩)) | exact fmE_R zW (by first | exact Or.inl ⟨by omega, by omega⟩ | exact Or.inr ⟨by omega, Or.inl ⟨by omega, by omega⟩⟩ | exact Or.inr ⟨by omega, Or.inr ⟨by omega, by omega, by omega⟩⟩), by omega⟩))) | exact Or.inr (Or.inr (Or.inr (Or.inr (Or.inl ⟨by omega, by omega, joinM_R zJ (by first | exact Or.inl ⟨by omega, by omega⟩ | exact Or.inr ⟨by omega, Or.inl ⟨by omega, by omega⟩⟩ | exact Or.inr ⟨by omega, Or.inr ⟨by omega, by omega, by omega⟩⟩), fun _ => by omega, by omega⟩)))) | exact Or.inr (Or.inr (Or.inr (Or.inr (Or.inr (Or.inl ⟨by omega, by omega, sumM_R zS (by first | exact Or.inl ⟨by omega, by omega⟩ | exact Or.inr ⟨by omega, Or.inl ⟨by omega, by omega⟩⟩ | exact Or.inr ⟨by omega, Or.inr ⟨by omega, by omega, by omega⟩⟩), by first | omega | exact cw9, by omega⟩))))) | exact ⟨_, _, _, Or.inl ⟨by omega, fillM_R zF (by first | exact Or.inl ⟨by omega, by omega⟩ | exact Or.inr ⟨by omega, Or.inl ⟨by omega, by omega⟩⟩ | exact Or.inr ⟨by omega, Or.inr ⟨by omega, by omega, by omega⟩⟩), rfl, rfl⟩⟩ | exact ⟨_, _, _, Or.inr (Or.inr (Or.inl ⟨by omega, by omega, cutM_R zC (by first | exact Or.inl ⟨by omega, by omega⟩ | exact Or.inr ⟨by omega, Or.inl ⟨by omega, by omega⟩⟩ | exact Or.inr ⟨by omega, Or.inr ⟨by omega, by omega, by omega⟩⟩), rfl, rfl⟩))⟩ | exact ⟨_, _, _, Or.inr (Or.inr (Or.inr (Or.inl ⟨by omega, by omega, fmE_R zW (by first | exact Or.inl ⟨by omega, by omega⟩ | exact Or.inr ⟨by omega, Or.inl ⟨by omega, by omega⟩⟩ | exact Or.inr ⟨by omega, Or.inr ⟨by omega, by omega, by omega⟩⟩), rfl⟩)))⟩ | exact ⟨_, _, _, Or.inr (Or.inr (Or.inr (Or.inr (Or.inl ⟨by omega, by omega, joinM_R zJ (by first | exact Or.inl ⟨by omega, by omega⟩ | exact Or.inr ⟨by omega, Or.inl ⟨by omega, by omega⟩⟩ | exact Or.inr ⟨by omega, Or.inr ⟨by omega, by omega, by omega⟩⟩), fun q => absurd q (by omega), rfl⟩))))⟩ | exact ⟨_, _, _, Or.inr (Or.inr (Or.inr (Or.inr (Or.inr (Or.inl ⟨by omega, by omega, sumM_R zS (by first | exact Or.inl ⟨by omega, by omega⟩ | exact Or.inr ⟨by omega, Or.inl ⟨by omega, by omega⟩⟩ | exact Or.inr ⟨by omega, Or.inr ⟨by omega, by omega, by omega⟩⟩), rfl, rfl⟩)))))⟩ | exact ⟨0, 0, 0, Or.inr (Or.inl ⟨by omega, by omega, by omega⟩)⟩ | exact ⟨0, 0, 0, Or.inr (Or.inr (Or.inr (Or.inr (Or.inr (Or.inr (⟨by omega, by omega, by omega, by omega, by omega, by omega⟩))))))⟩ | omega) (by first | exact Ko_h397 | omega | exact Or.inl ⟨by omega, fillM_R zF (by first | exact Or.inl ⟨by omega, by omega⟩ | exact Or.inr ⟨by omega, Or.inl ⟨by omega, by omega⟩⟩ | exact Or.inr ⟨by omega, Or.inr ⟨by omega, by omega, by omega⟩⟩), by omega, by omega⟩ | exact Or.inr (Or.inr (Or.inl ⟨by omega, by omega, cutM_R zC (by first | exact Or.inl ⟨by omega, by omega⟩ | exact Or.inr ⟨by omega, Or.inl ⟨by omega, by omega⟩⟩ | exact Or.inr ⟨by omega, Or.inr ⟨by omega, by omega, by omega⟩⟩), by first | omega | exact cw9, by omega⟩)) | exact Or.inr (Or.inr (Or.inr (Or.inl ⟨by omega, by omega, by first | (rw [cw9]; exact fmE_R zW (by first | exact Or.inl ⟨by omega, by omega⟩ | exact Or.inr ⟨by omega, Or.inl ⟨by omega, by omega⟩⟩ | exact Or.inr ⟨by omega, Or.inr ⟨by omega, by omega, by omega⟩⟩)) | exact fmE_R zW (by first | exact Or.inl ⟨by omega, by omega⟩ | exact Or.inr ⟨by omega, Or.inl ⟨by omega, by omega⟩⟩ | exact Or.inr ⟨by omega, Or.inr ⟨by omega, by omega, by omega⟩⟩), by omega⟩))) | exact Or.inr (Or.inr (Or.inr (Or.inr (Or.inl ⟨by omega, by omega, joinM_R zJ (by first | exact Or.inl ⟨by omega, by omega⟩ | exact Or.inr ⟨by omega, Or.inl ⟨by omega, by omega⟩⟩ | exact Or.inr ⟨by omega, Or.inr ⟨by omega, by omega, by omega⟩⟩), fun _ => by omega, by omega⟩)))) | exact Or.inr (Or.inr (Or.inr (Or.inr (Or.inr (Or.inl ⟨by omega, by omega, sumM_R zS (by first | exact Or.inl ⟨by omega, by omega⟩ | exact Or.inr ⟨by omega, Or.inl ⟨by omega, by omega⟩⟩ | exact Or.inr ⟨by omega, Or.inr ⟨by omega, by omega, by omega⟩⟩), by first | omega | exact cw9, by omega⟩))))) | exact ⟨_, _, _, Or.inl ⟨by omega, fillM_R zF (by first | exact Or.inl ⟨by omega, by omega⟩ | exact Or.inr ⟨by omega, Or.inl ⟨by omega, by omega⟩⟩ | exact Or.inr ⟨by omega, Or.inr ⟨by omega, by omega, by omega⟩⟩), rfl, rfl⟩⟩ | exact ⟨_, _, _, Or.inr (Or.inr (Or.inl ⟨by omega, by omega, cutM_R zC (by first | exact Or.inl ⟨by omega, by omega⟩ | exact Or.inr ⟨by omega, Or.inl ⟨by omega, by omega⟩⟩ | exact Or.inr ⟨by omega, Or.inr ⟨by omega, by omega, by omega⟩⟩), rfl, rfl⟩))⟩ | exact ⟨_, _, _, Or.inr (Or.inr (Or.inr (Or.inl ⟨by omega, by omega, fmE_R zW (by first | exact Or.inl ⟨by omega, by omega⟩ | exact Or.inr ⟨by omega, Or.inl ⟨by omega, by omega⟩⟩ | exact Or.inr ⟨by omega, Or.inr ⟨by omega, by omega, by omega⟩⟩), rfl⟩)))⟩ | exact ⟨_, _, _, Or.inr (Or.inr (Or.inr (Or.inr (Or.inl ⟨by omega, by omega, joinM_R zJ (by first | exact Or.inl ⟨by omega, by omega⟩ | exact Or.inr ⟨by omega, Or.inl ⟨by omega, by omega⟩⟩ | exact Or.inr ⟨by omega, Or.inr ⟨by omega, by omega, by omega⟩⟩), fun q => absurd q (by omega), rfl⟩))))⟩ | exact ⟨_, _, _, Or.inr (Or.inr (Or.inr (Or.inr (Or.inr (Or.inl ⟨by omega, by omega, sumM_R zS (by first | exact Or.inl ⟨by omega, by omega⟩ | exact Or.inr ⟨by omega, Or.inl ⟨by omega, by omega⟩⟩ | exact Or.inr ⟨by omega, Or.inr ⟨by omega, by omega, by omega⟩⟩), rfl, rfl⟩)))))⟩ | exact ⟨0, 0, 0, Or.inr (Or.inl ⟨by omega, by omega, by omega⟩)⟩ | exact ⟨0, 0, 0, Or.inr (Or.inr (Or.inr (Or.inr (Or.inr (Or.inr (⟨by omega, by omega, by omega, by omega, by omega, by omega⟩))))))⟩ | omega) (by first | exact Ko_h397 | omega | exact Or.inl ⟨by omega, fillM_R zF (by first | exact Or.inl ⟨by omega, by omega⟩ | exact Or.inr ⟨by omega, Or.inl ⟨by omega, by omega⟩⟩ | exact Or.inr ⟨by omega, Or.inr ⟨by omega, by omega, by omega⟩⟩), by omega, by omega⟩ | exact Or.inr (Or.inr (Or.inl ⟨by omega, by omega, cutM_R zC (by first | exact Or.inl ⟨by omega, by omega⟩ | exact Or.inr ⟨by omega, Or.inl ⟨by omega, by omega⟩⟩ | exact Or.inr ⟨by omega, Or.inr ⟨by omega, by omega, by omega⟩⟩), by first | omega | exact cw9, by omega⟩)) | exact Or.inr (Or.inr (Or.inr (Or.inl ⟨by omega, by omega, by first | (rw [cw9]; exact fmE_R zW (by first | exact Or.inl ⟨by omega, by omega⟩ | exact Or.inr ⟨by omega, Or.inl ⟨by omega, by omega⟩⟩ | exact Or.inr ⟨by omega, Or.inr ⟨by omega, by omega, by omega⟩⟩)) | exact fmE_R zW (by first | exact Or.inl ⟨by omega, by omega⟩ | exact Or.inr ⟨by omega, Or.inl ⟨by omega, by omega⟩⟩ | exact Or.inr ⟨by omega, Or.inr ⟨by omega, by omega, by omega⟩⟩), by omega⟩))) | exact Or.inr (Or.inr (Or.inr (Or.inr (Or.inl ⟨by omega, by omega, joinM_R zJ (by first | exact Or.inl ⟨by omega, by omega⟩ | exact Or.inr ⟨by omega, Or.inl ⟨by omega, by omega⟩⟩ | exact Or.inr ⟨by omega, Or.inr ⟨by omega, by omega, by omega⟩⟩), fun _ => by omega, by omega⟩)))) | exact Or.inr (Or.inr (Or.inr (Or.inr (Or.inr (Or.inl ⟨by omega, by omega, sumM_R zS (by first | exact Or.inl ⟨by omega, by omega⟩ | exact Or.inr ⟨by omega, Or.inl ⟨by omega, by omega⟩⟩ | exact Or.inr ⟨by omega, Or.inr ⟨by omega, by omega, by omega⟩⟩), by first | omega | exact cw9, by omega⟩))))) | exact ⟨_, _, _, Or.inl ⟨by omega, fillM_R zF (by first | exact Or.inl ⟨by omega, by omega⟩ | exact Or.inr ⟨by omega, Or.inl ⟨by omega, by omega⟩⟩ | exact Or.inr ⟨by omega, Or.inr ⟨by omega, by omega, by omega⟩⟩), rfl, rfl⟩⟩ | exact ⟨_, _, _, Or.inr (Or.inr (Or.inl ⟨by omega, by omega, cutM_R zC (by first | exact Or.inl ⟨by omega, by omega⟩ | exact Or.inr ⟨by omega, Or.inl ⟨by omega, by omega⟩⟩ | exact Or.inr ⟨by omega, Or.inr ⟨by omega, by omega, by omega⟩⟩), rfl, rfl⟩))⟩ | exact ⟨_, _, _, Or.inr (Or.inr (Or.inr (Or.inl ⟨by omega, by omega, fmE_R zW (by first | exact Or.inl ⟨by omega, by omega⟩ | exact Or.inr ⟨by omega, Or.inl ⟨by omega, by omega⟩⟩ | exact Or.inr ⟨by omega, Or.inr ⟨by omega, by omega, by omega⟩⟩), rfl⟩)))⟩ | exact ⟨_, _, _, Or.inr (Or.inr (Or.inr (Or.inr (Or.inl ⟨by omega, by omega, joinM_R zJ (by first | exact Or.inl ⟨by omega, by omega⟩ | exact Or.inr ⟨by omega, Or.inl ⟨by omega, by omega⟩⟩ | exact Or.inr ⟨by omega, Or.inr ⟨by omega, by omega, by omega⟩⟩), fun q => absurd q (by omega), rfl⟩))))⟩ | exact ⟨_, _, _, Or.inr (Or.inr (Or.inr (Or.inr (Or.inr (Or.inl ⟨by omega, by omega, sumM_R zS (by first | exact Or.inl ⟨by omega, by omega⟩ | exact Or.inr ⟨by omega, Or.inl ⟨by omega, by omega⟩⟩ | exact Or.inr ⟨by omega, Or.inr ⟨by omega, by omega, by omega⟩⟩), rfl, rfl⟩)))))⟩ | exact ⟨0, 0, 0, Or.inr (Or.inl ⟨by omega, by omega, by omega⟩)⟩ | exact ⟨0, 0, 0, Or.inr (Or.inr (Or.inr (Or.inr (Or.inr (Or.inr (⟨by omega, by omega, by omega, by omega, by omega, by omega⟩))))))⟩ | omega) Tok_h397t404 Mq_h397 Wrd_h397 Wd9_h397)
      ·
        refine w_aload_n gz_185_122 rfl ?_
        refine w_iload gz_185_123 rfl ?_
        have ce417 : h6 151 7 = (v3 + 1) := (my_up_self fh6)
        have ce418 : h6 151 27 = k151_27 := ((my_up_fld fh6 (by decide)).trans c151_27_88_0)
        have hi419 : 36 ≤ (36 + v10) := by omega
        have hi420 : (36 + v10) ≤ 41 := by omega
        refine w_inv (k := 2) (as := [(0, (36 + v10))]) (r := []) (x := 151) (ls0 := [(2, 151), (0, (36 + v10)), (9, 0), (9, 0)]) gz_185_125 gm_186 rfl is_151 rd_10 rfl rfl rfl rfl rfl (c_Model_readCut9_f0 (d := (d + 1)) (x1 := (36 + v10)) (wv := wv) (by omega) (by omega) (((my_up_fld fh6 (by decide)).trans ev1.symm).trans (by omega)) (by first | assumption | omega) (by first | assumption | omega) Tok_h6t8 Mq_h6 Wd9_h6 (by first | assumption | exact no_such_saying | exact Fp_told (by omega) (by omega) | omega | (subst_vars; omega) | omega) (fun h421 frh421 w422 w423 xp424 xp425 xp426 Tok_h421t427 Mq_h421t428 Wd9_h421t429 => ?_) (fun h430 frh430 w431 w432 w433 xp434 xp435 xp436 xp437 xp438 xp439 Tok_h430t440 Mq_h430t441 Wd9_h430t442 => ?_))
        ·
          have gh421 : my_fr [(10, 7), (10, 8), (10, 27), (66, -1), (67, -1), (68, -1), (69, -1), (70, -1), (71, -1), (72, -1), (73, -1), (74, -1), (75, -1), (77, -1), (78, -1), (79, -1)] h h421 := my_fr.tr gh6 (frh421.mo rfl)
          have Wrd_h421 : Wrd h421 := Wrd_ag (my_ag.fr frh421 rfl) Wrd_h6
          have Wd9_h421 : Wd9 h421 := Wd9_ag (my_ag.fr frh421 rfl) Wd9_h6
          show wp l rho (d + 4) 185 128 [(2, 151), (0, p88_0), (0, p88_1), (0, p88_2), (0, p88_3), (0, (36 + v10)), (9, 0), (9, 0)] [] h421 Q
          have ps443 : h6 151 7 = (sN (sm h) (h 151 7)) := ps7
          rw [ps443] at xp424
          have tE444 : sm h6 = sm h := sm_eq (fun j => my_fr.at gh6 is_153 rfl) (fun j => my_fr.at gh6 is_154 rfl) (fun j => my_fr.at gh6 is_155 rfl)
          rw [tE444] at xp425
          rw [ps443] at xp425
          have q27 : h6 151 27 = h 151 27 := by omega
          have q57 : h6 157 = h 157 := funext (fun j => my_fr.at gh6 is_157 rfl)
          have zC := xp425
          simp only [q27, q57] at zC
          have Ko_h421t445 : Ko h h421 := Ko_tr Ko_h6 xp426
          refine w_goto (t := 228) gz_185_128 rfl ?_
          refine w_aload_n gz_185_228 rfl ?_
          refine v_getI (j := 8) gz_185_229 rfl is_151 rd_10 rfl (fun v446 ev446 pv446 qv446 => ?_)
          have zv446 := ev446.trans (rfl : h421 151 8 = h421 151 8)
          refine w_ifne (t := 269) gz_185_232 rfl (fun u447 => ?_) (fun u447 => by exfalso; omega)
          refine w_aload_n gz_185_269 rfl ?_
          refine w_bipush gz_185_270 (by decide) ?_
          refine w_inv (k := 0) (as := [(0, 59)]) (r := []) (x := 151) (ls0 := [(2, 151), (0, 59)]) gz_185_272 gm_183 rfl is_151 rd_10 rfl rfl rfl rfl rfl (c_Model_takeSign9_f1 (d := (d + 2))  (v446) (ev446.symm) (by omega) (by omega) Tok_h421t427 (fun w448 w449 xp450 xp451 Tok_h421t452 => ?_))
          show wp l rho (d + 4) 185 275 [(2, 151), (0, p88_0), (0, p88_1), (0, p88_2), (0, p88_3), (0, (36 + v10)), (9, 0), (9, 0)] [] h421 Q
          have psR : h421 151 7 = h421 151 7 := (rfl : h421 151 7 = h421 151 7)
          have npsR : sm h421 = sm h := sm_eq (fun j => my_fr.at gh421 is_153 rfl) (fun j => my_fr.at gh421 is_154 rfl) (fun j => my_fr.at gh421 is_155 rfl)
          have ce453 : h421 151 8 = v446 := ev446.symm
          have ce454 : h421 151 27 = k151_27 := ((my_fr.at frh421 is_151 rfl).trans ((my_up_fld fh6 (by decide)).trans c151_27_88_0))
          have r167 : ∀ j : Int, h421 167 j = h88_0 167 j := fun j => ((my_fr.at frh421 is_167 rfl).trans ((my_up_role fh6 is_167 is_151 rfl).trans (rfl : h88_0 167 j = h88_0 167 j)))
          have r6 := r167 6
          have c455 := ev446.symm
          exact w_vret gz_185_275 gm_185 (k0 h421 (gh421) (by omega) (by omega) (by first | exact Ko_h421t445 | omega | exact Or.inl ⟨by omega, fillM_R zF (by first | exact Or.inl ⟨by omega, by omega⟩ | exact Or.inr ⟨by omega, Or.inl ⟨by omega, by omega⟩⟩ | exact Or.inr ⟨by omega, Or.inr ⟨by omega, by omega, by omega⟩⟩), by omega, by omega⟩ | exact Or.inr (Or.inr (Or.inl ⟨by omega, by omega, cutM_R zC (by first | exact Or.inl ⟨by omega, by omega⟩ | exact Or.inr ⟨by omega, Or.inl ⟨by omega, by omega⟩⟩ | exact Or.inr ⟨by omega, Or.inr ⟨by omega, by omega, by omega⟩⟩), by first | omega | exact cw9, by omega⟩)) | exact Or.inr (Or.inr (Or.inr (Or.inl ⟨by omega, by omega, by first | (rw [cw9]; exact fmE_R zW (by first | exact Or.inl ⟨by omega, by omega⟩ | exact Or.inr ⟨by omega, Or.inl ⟨by omega, by omega⟩⟩ | exact Or.inr ⟨by omega, Or.inr ⟨by omega, by omega, by omega⟩⟩)) | exact fmE_R zW (by first | exact Or.inl ⟨by omega, by omega⟩ | exact Or.inr ⟨by omega, Or.inl ⟨by omega, by omega⟩⟩ | exact Or.inr ⟨by omega, Or.inr ⟨by omega, by omega, by omega⟩⟩), by omega⟩))) | exact Or.inr (Or.inr (Or.inr (Or.inr (Or.inl ⟨by omega, by omega, joinM_R zJ (by first | exact Or.inl ⟨by omega, by omega⟩ | exact Or.inr ⟨by omega, Or.inl ⟨by omega, by omega⟩⟩ | exact Or.inr ⟨by omega, Or.inr ⟨by omega, by omega, by omega⟩⟩), fun _ => by omega, by omega⟩)))) | exact Or.inr (Or.inr (Or.inr (Or.inr (Or.inr (Or.inl ⟨by omega, by omega, sumM_R zS (by first | exact Or.inl ⟨by omega, by omega⟩ | exact Or.inr ⟨by omega, Or.inl ⟨by omega, by omega⟩⟩ | exact Or.inr ⟨by omega, Or.inr ⟨by omega, by omega, by omega⟩⟩), by first | omega | exact cw9, by omega⟩))))) | exact ⟨_, _, _, Or.inl ⟨by omega, fillM_R zF (by first | exact Or.inl ⟨by omega, by omega⟩ | exact Or.inr ⟨by omega, Or.inl ⟨by omega, by omega⟩⟩ | exact Or.inr ⟨by omega, Or.inr ⟨by omega, by omega, by omega⟩⟩), rfl, rfl⟩⟩ | exact ⟨_, _, _, Or.inr (Or.inr (Or.inl ⟨by omega, by omega, cutM_R zC (by first | exact Or.inl ⟨by omega, by omega⟩ | exact Or.inr ⟨by omega, Or.inl ⟨by omega, by omega⟩⟩ | exact Or.inr ⟨by omega, Or.inr ⟨by omega, by omega, by omega⟩⟩), rfl, rfl⟩))⟩ | exact ⟨_, _, _, Or.inr (Or.inr (Or.inr (Or.inl ⟨by omega, by omega, fmE_R zW (by first | exact Or.inl ⟨by omega, by omega⟩ | exact Or.inr ⟨by omega, Or.inl ⟨by omega, by omega⟩⟩ | exact Or.inr ⟨by omega, Or.inr ⟨by omega, by omega, by omega⟩⟩), rfl⟩)))⟩ | exact ⟨_, _, _, Or.inr (Or.inr (Or.inr (Or.inr (Or.inl ⟨by omega, by omega, joinM_R zJ (by first | exact Or.inl ⟨by omega, by omega⟩ | exact Or.inr ⟨by omega, Or.inl ⟨by omega, by omega⟩⟩ | exact Or.inr ⟨by omega, Or.inr ⟨by omega, by omega, by omega⟩⟩), fun q => absurd q (by omega), rfl⟩))))⟩ | exact ⟨_, _, _, Or.inr (Or.inr (Or.inr (Or.inr (Or.inr (Or.inl ⟨by omega, by omega, sumM_R zS (by first | exact Or.inl ⟨by omega, by omega⟩ | exact Or.inr ⟨by omega, Or.inl ⟨by omega, by omega⟩⟩ | exact Or.inr ⟨by omega, Or.inr ⟨by omega, by omega, by omega⟩⟩), rfl, rfl⟩)))))⟩ | exact ⟨0, 0, 0, Or.inr (Or.inl ⟨by omega, by omega, by omega⟩)⟩ | exact ⟨0, 0, 0, Or.inr (Or.inr (Or.inr (Or.inr (Or.inr (Or.inr (⟨by omega, by omega, by omega, by omega, by omega, by omega⟩))))))⟩ | omega) (by first | exact Ko_h421t445 | omega | exact Or.inl ⟨by omega, fillM_R zF (by first | exact Or.inl ⟨by omega, by omega⟩ | exact Or.inr ⟨by omega, Or.inl ⟨by omega, by omega⟩⟩ | exact Or.inr ⟨by omega, Or.inr ⟨by omega, by omega, by omega⟩⟩), by omega, by omega⟩ | exact Or.inr (Or.inr (Or.inl ⟨by omega, by omega, cutM_R zC (by first | exact Or.inl ⟨by omega, by omega⟩ | exact Or.inr ⟨by omega, Or.inl ⟨by omega, by omega⟩⟩ | exact Or.inr ⟨by omega, Or.inr ⟨by omega, by omega, by omega⟩⟩), by first | omega | exact cw9, by omega⟩)) | exact Or.inr (Or.inr (Or.inr (Or.inl ⟨by omega, by omega, by first | (rw [cw9]; exact fmE_R zW (by first | exact Or.inl ⟨by omega, by omega⟩ | exact Or.inr ⟨by omega, Or.inl ⟨by omega, by omega⟩⟩ | exact Or.inr ⟨by omega, Or.inr ⟨by omega, by omega, by omega⟩⟩)) | exact fmE_R zW (by first | exact Or.inl ⟨by omega, by omega⟩ | exact Or.inr ⟨by omega, Or.inl ⟨by omega, by omega⟩⟩ | exact Or.inr ⟨by omega, Or.inr ⟨by omega, by omega, by omega⟩⟩), by omega⟩))) | exact Or.inr (Or.inr (Or.inr (Or.inr (Or.inl ⟨by omega, by omega, joinM_R zJ (by first | exact Or.inl ⟨by omega, by omega⟩ | exact Or.inr ⟨by omega, Or.inl ⟨by omega, by omega⟩⟩ | exact Or.inr ⟨by omega, Or.inr ⟨by omega, by omega, by omega⟩⟩), fun _ => by omega, by omega⟩)))) | exact Or.inr (Or.inr (Or.inr (Or.inr (Or.inr (Or.inl ⟨by omega, by omega, sumM_R zS (by first | exact Or.inl ⟨by omega, by omega⟩ | exact Or.inr ⟨by omega, Or.inl ⟨by omega, by omega⟩⟩ | exact Or.inr ⟨by omega, Or.inr ⟨by omega, by omega, by omega⟩⟩), by first | omega | exact cw9, by omega⟩))))) | exact ⟨_, _, _, Or.inl ⟨by omega, fillM_R zF (by first | exact Or.inl ⟨by omega, by omega⟩ | exact Or.inr ⟨by omega, Or.inl ⟨by omega, by omega⟩⟩ | exact Or.inr ⟨by omega, Or.inr ⟨by omega, by omega, by omega⟩⟩), rfl, rfl⟩⟩ | exact ⟨_, _, _, Or.inr (Or.inr (Or.inl ⟨by omega, by omega, cutM_R zC (by first | exact Or.inl ⟨by omega, by omega⟩ | exact Or.inr ⟨by omega, Or.inl ⟨by omega, by omega⟩⟩ | exact Or.inr ⟨by omega, Or.inr ⟨by omega, by omega, by omega⟩⟩), rfl, rfl⟩))⟩ | exact ⟨_, _, _, Or.inr (Or.inr (Or.inr (Or.inl ⟨by omega, by omega, fmE_R zW (by first | exact Or.inl ⟨by omega, by omega⟩ | exact Or.inr ⟨by omega, Or.inl ⟨by omega, by omega⟩⟩ | exact Or.inr ⟨by omega, Or.inr ⟨by omega, by omega, by omega⟩⟩), rfl⟩)))⟩ | exact ⟨_, _, _, Or.inr (Or.inr (Or.inr (Or.inr (Or.inl ⟨by omega, by omega, joinM_R zJ (by first | exact Or.inl ⟨by omega, by omega⟩ | exact Or.inr ⟨by omega, Or.inl ⟨by omega, by omega⟩⟩ | exact Or.inr ⟨by omega, Or.inr ⟨by omega, by omega, by omega⟩⟩), fun q => absurd q (by omega), rfl⟩))))⟩ | exact ⟨_, _, _, Or.inr (Or.inr (Or.inr (Or.inr (Or.inr (Or.inl ⟨by omega, by omega, sumM_R zS (by first | exact Or.inl ⟨by omega, by omega⟩ | exact Or.inr ⟨by omega, Or.inl ⟨by omega, by omega⟩⟩ | exact Or.inr ⟨by omega, Or.inr ⟨by omega, by omega, by omega⟩⟩), rfl, rfl⟩)))))⟩ | exact ⟨0, 0, 0, Or.inr (Or.inl ⟨by omega, by omega, by omega⟩)⟩ | exact ⟨0, 0, 0, Or.inr (Or.inr (Or.inr (Or.inr (Or.inr (Or.inr (⟨by omega, by omega, by omega, by omega, by omega, by omega⟩))))))⟩ | omega) (by first | exact Ko_h421t445 | omega | exact Or.inl ⟨by omega, fillM_R zF (by first | exact Or.inl ⟨by omega, by omega⟩ | exact Or.inr ⟨by omega, Or.inl ⟨by omega, by omega⟩⟩ | exact Or.inr ⟨by omega, Or.inr ⟨by omega, by omega, by omega⟩⟩), by omega, by omega⟩ | exact Or.inr (Or.inr (Or.inl ⟨by omega, by omega, cutM_R zC (by first | exact Or.inl ⟨by omega, by omega⟩ | exact Or.inr ⟨by omega, Or.inl ⟨by omega, by omega⟩⟩ | exact Or.inr ⟨by omega, Or.inr ⟨by omega, by omega, by omega⟩⟩), by first | omega | exact cw9, by omega⟩)) | exact Or.inr (Or.inr (Or.inr (Or.inl ⟨by omega, by omega, by first | (rw [cw9]; exact fmE_R zW (by first | exact Or.inl ⟨by omega, by omega⟩ | exact Or.inr ⟨by omega, Or.inl ⟨by omega, by omega⟩⟩ | exact Or.inr ⟨by omega, Or.inr ⟨by omega, by omega, by omega⟩⟩)) | exact fmE_R zW (by first | exact Or.inl ⟨by omega, by omega⟩ | exact Or.inr ⟨by omega, Or.inl ⟨by omega, by omega⟩⟩ | exact Or.inr ⟨by omega, Or.inr ⟨by omega, by omega, by omega⟩⟩), by omega⟩))) | exact Or.inr (Or.inr (Or.inr (Or.inr (Or.inl ⟨by omega, by omega, joinM_R zJ (by first | exact Or.inl ⟨by omega, by omega⟩ | exact Or.inr ⟨by omega, Or.inl ⟨by omega, by omega⟩⟩ | exact Or.inr ⟨by omega, Or.inr ⟨by omega, by omega, by omega⟩⟩), fun _ => by omega, by omega⟩)))) | exact Or.inr (Or.inr (Or.inr (Or.inr (Or.inr (Or.inl ⟨by omega, by omega, sumM_R zS (by first | exact Or.inl ⟨by omega, by omega⟩ | exact Or.inr ⟨by omega, Or.inl ⟨by omega, by omega⟩⟩ | exact Or.inr ⟨by omega, Or.inr ⟨by omega, by omega, by omega⟩⟩), by first | omega | exact cw9, by omega⟩))))) | exact ⟨_, _, _, Or.inl ⟨by omega, fillM_R zF (by first | exact Or.inl ⟨by omega, by omega⟩ | exact Or.inr ⟨by omega, Or.inl ⟨by omega, by omega⟩⟩ | exact Or.inr ⟨by omega, Or.inr ⟨by omega, by omega, by omega⟩⟩), rfl, rfl⟩⟩ | exact ⟨_, _, _, Or.inr (Or.inr (Or.inl ⟨by omega, by omega, cutM_R zC (by first | exact Or.inl ⟨by omega, by omega⟩ | exact Or.inr ⟨by omega, Or.inl ⟨by omega, by omega⟩⟩ | exact Or.inr ⟨by omega, Or.inr ⟨by omega, by omega, by omega⟩⟩), rfl, rfl⟩))⟩ | exact ⟨_, _, _, Or.inr (Or.inr (Or.inr (Or.inl ⟨by omega, by omega, fmE_R zW (by first | exact Or.inl ⟨by omega, by omega⟩ | exact Or.inr ⟨by omega, Or.inl ⟨by omega, by omega⟩⟩ | exact Or.inr ⟨by omega, Or.inr ⟨by omega, by omega, by omega⟩⟩), rfl⟩)))⟩ | exact ⟨_, _, _, Or.inr (Or.inr (Or.inr (Or.inr (Or.inl ⟨by omega, by omega, joinM_R zJ (by first | exact Or.inl ⟨by omega, by omega⟩ | exact Or.inr ⟨by omega, Or.inl ⟨by omega, by omega⟩⟩ | exact Or.inr ⟨by omega, Or.inr ⟨by omega, by omega, by omega⟩⟩), fun q => absurd q (by omega), rfl⟩))))⟩ | exact ⟨_, _, _, Or.inr (Or.inr (Or.inr (Or.inr (Or.inr (Or.inl ⟨by omega, by omega, sumM_R zS (by first | exact Or.inl ⟨by omega, by omega⟩ | exact Or.inr ⟨by omega, Or.inl ⟨by omega, by omega⟩⟩ | exact Or.inr ⟨by omega, Or.inr ⟨by omega, by omega, by omega⟩⟩), rfl, rfl⟩)))))⟩ | exact ⟨0, 0, 0, Or.inr (Or.inl ⟨by omega, by omega, by omega⟩)⟩ | exact ⟨0, 0, 0, Or.inr (Or.inr (Or.inr (Or.inr (Or.inr (Or.inr (⟨by omega, by omega, by omega, by omega, by omega, by omega⟩))))))⟩ | omega) Tok_h421t452 Mq_h421t428 Wrd_h421 Wd9_h421t429)
        ·
          have gh430 : my_fr [(10, 7), (10, 8), (10, 27), (66, -1), (67, -1), (68, -1), (69, -1), (70, -1), (71, -1), (72, -1), (73, -1), (74, -1), (75, -1), (77, -1), (78, -1), (79, -1)] h h430 := my_fr.tr gh6 (frh430.mo rfl)
          have Wrd_h430 : Wrd h430 := Wrd_ag (my_ag.fr frh430 rfl) Wrd_h6
          have Wd9_h430 : Wd9 h430 := Wd9_ag (my_ag.fr frh430 rfl) Wd9_h6
          show wp l rho (d + 4) 185 128 [(2, 151), (0, p88_0), (0, p88_1), (0, p88_2), (0, p88_3), (0, (36 + v10)), (9, 0), (9, 0)] [] h430 Q
          have ps456 : h6 151 7 = (sN (sm h) (h 151 7)) := ps7
          rw [ps456] at xp436
          have tE457 : sm h6 = sm h := sm_eq (fun j => my_fr.at gh6 is_153 rfl) (fun j => my_fr.at gh6 is_154 rfl) (fun j => my_fr.at gh6 is_155 rfl)
          rw [tE457] at xp437
          rw [ps456] at xp437
          have q27 : h6 151 27 = h 151 27 := by omega
          have q57 : h6 157 = h 157 := funext (fun j => my_fr.at gh6 is_157 rfl)
          have zC := xp437
          simp only [q27, q57] at zC
          have pk := xp434
          have pk3 := xp435
          have kd := xp438
          have Ko_h430t458 : Ko h h430 := Ko_tr Ko_h6 xp439
          refine w_goto (t := 228) gz_185_128 rfl ?_
          refine w_aload_n gz_185_228 rfl ?_
          refine v_getI (j := 8) gz_185_229 rfl is_151 rd_10 rfl (fun v459 ev459 pv459 qv459 => ?_)
          have zv459 := ev459.trans w433
          refine w_ifne (t := 269) gz_185_232 rfl (fun u460 => by exfalso; omega) (fun u460 => ?_)
          refine w_iload_n gz_185_235 rfl ?_
          refine w_ifne (t := 252) gz_185_236 rfl (fun u461 => ?_) (fun u461 => by exfalso; omega)
          refine w_aload_n gz_185_252 rfl ?_
          refine w_iload gz_185_253 rfl ?_
          have d167 : ∀ j : Int, h430 167 j = h88_0 167 j := fun j => ((my_fr.at frh430 is_167 rfl).trans ((my_up_role fh6 is_167 is_151 rfl).trans (rfl : h88_0 167 j = h88_0 167 j)))
          have d6 := d167 6
          have mr0 := Mq_h430t441
          have ce462 : h430 151 27 = k151_27 := ((my_fr.at frh430 is_151 rfl).trans ((my_up_fld fh6 (by decide)).trans c151_27_88_0))
          refine w_inv (k := 1) (as := [(0, (36 + v10))]) (r := []) (x := 151) (ls0 := [(2, 151), (0, (36 + v10)), (9, 0)]) gz_185_255 gm_182 rfl is_151 rd_10 rfl rfl rfl rfl rfl (c_Model_pane2_f0 (d := (d + 3)) (x1 := (36 + v10)) (by omega) (by omega) (ev459.symm.trans (by omega)) (pk.1) (fun h463 frh463 w464 xp465 xp466 => ?_))
          have gh463 : my_fr [(10, 7), (10, 8), (10, 27), (66, -1), (67, -1), (68, -1), (69, -1), (70, -1), (71, -1), (72, -1), (73, -1), (74, -1), (75, -1), (77, -1), (78, -1), (79, -1)] h h463 := my_fr.tr gh430 (frh463.mo rfl)
          have Wrd_h463 : Wrd h463 := Wrd_ag (my_ag.fr frh463 rfl) Wrd_h430
          have Wd9_h463 : Wd9 h463 := Wd9_ag (my_ag.fr frh463 rfl) Wd9_h430t442
          have Tok_h463 : Tok h463 := Tok_ag (my_ag.fr frh463 rfl) Tok_h430t440
          have Ko_h463 : Ko h h463 := Ko_ag (my_ag.fr frh463 rfl) Ko_h430t458
          show wp l rho (d + 4) 185 258 [(2, 151), (0, p88_0), (0, p88_1), (0, p88_2), (0, p88_3), (0, (36 + v10)), (9, 0), (9, 0)] [] h463 Q
          have ag0 : my_ag M3F h430 h463 := my_ag.fr frh463 rfl
          have e27 := xp465
          have e67 : h463 167 6 = h430 167 6 := ag0.at mis_167 rfl
          have mc := ms_c e27
          try (have m3 := mc.2.2.1 kd; rw [← m3] at zW)
          try (have q58 : h430 157 = h 157 := funext (fun j => my_fr.at gh430 is_157 rfl); have j4 := mc.2.1 kd.1; rw [kd.2, q58] at j4)
          refine w_aload_n gz_185_258 rfl ?_
          refine w_getX (v := 167) gz_185_259 is_151 rd_10 rfl (by decide) rfl ?_
          refine w_bipush gz_185_262 (by decide) ?_
          refine w_dup2 gz_185_264 rfl rfl ?_
          refine w_iald gz_185_265 is_167 rd_66 (by omega) (by omega) (fun v468 ev468 pv468 qv468 => ?_)
          have zv468 := ev468.trans ((my_fr.at frh463 is_167 rfl).trans ((my_fr.at frh430 is_167 rfl).trans ev10.symm))
          refine w_iconst gz_185_266 (by decide) ?_
          refine w_iadd gz_185_267 ⟨by omega, by omega⟩ ?_
          have hi469 : 0 ≤ (v468 + 1) := by omega
          have hi470 : (v468 + 1) ≤ 6 := by omega
          refine w_iast gz_185_268 is_167 rd_66 (by omega) (by omega) (by omega) (by omega) (fun h471 fh471 => ?_)
          have gh471 : my_fr [(10, 7), (10, 8), (10, 27), (66, -1), (67, -1), (68, -1), (69, -1), (70, -1), (71, -1), (72, -1), (73, -1), (74, -1), (75, -1), (77, -1), (78, -1), (79, -1)] h h471 := my_fr.up gh463 is_167 fh471 rfl
          have Wrd_h471 : Wrd h471 := Wrd_ag (my_ag.up fh471 is_167 rfl) Wrd_h463
          have Wd9_h471 : Wd9 h471 := Wd9_ag (my_ag.up fh471 is_167 rfl) Wd9_h463
          have Tok_h471 : Tok h471 := Tok_ag (my_ag.up fh471 is_167 rfl) Tok_h463
          have Ko_h471 : Ko h h471 := Ko_7 (a := 167) hwv (by decide) (by omega) fh471 Ko_h463
          have Mq_h471t472 : Mq h471 wv := Mq_add mr0 (by omega) pk pk3 ag0 e27 fh471 (by omega) (by omega)
          have k6 := my_up_self fh471
          refine w_aload_n gz_185_269 rfl ?_
          refine w_bipush gz_185_270 (by decide) ?_
          have ce473 : h471 151 7 = (h430 151 7) := ((my_up_role fh471 is_151 is_167 rfl).trans ((my_fr.at frh463 is_151 rfl).trans (rfl : h430 151 7 = h430 151 7)))
          refine w_inv (k := 0) (as := [(0, 59)]) (r := []) (x := 151) (ls0 := [(2, 151), (0, 59)]) gz_185_272 gm_183 rfl is_151 rd_10 rfl rfl rfl rfl rfl (c_Model_takeSign9_f0 (d := (d + 2))  (((my_up_role fh471 is_151 is_167 rfl).trans ((my_fr.at frh463 is_151 rfl).trans ev459.symm)).trans (by omega)) Tok_h471 (fun h474 frh474 w475 w476 xp477 xp478 xp479 Tok_h474t480 => ?_) (fun h481 frh481 w482 w483 w484 xp485 xp486 xp487 Tok_h481t488 => ?_))
          ·
            have gh474 : my_fr [(10, 7), (10, 8), (10, 27), (66, -1), (67, -1), (68, -1), (69, -1), (70, -1), (71, -1), (72, -1), (73, -1), (74, -1), (75, -1), (77, -1), (78, -1), (79, -1)] h h474 := my_fr.tr gh471 (frh474.mo rfl)
            have Wrd_h474 : Wrd h474 := Wrd_ag (my_ag.fr frh474 rfl) Wrd_h471
            have Wd9_h474 : Wd9 h474 := Wd9_ag (my_ag.fr frh474 rfl) Wd9_h471
            have Ko_h474 : Ko h h474 := Ko_ag (my_ag.fr frh474 rfl) Ko_h471
            have Mq_h474 : Mq h474 wv := Mq_ag (my_ag.fr frh474 rfl) Mq_h471t472
            show wp l rho (d + 4) 185 275 [(2, 151), (0, p88_0), (0, p88_1), (0, p88_2), (0, p88_3), (0, (36 + v10)), (9, 0), (9, 0)] [] h474 Q
            have ps489 : h471 151 7 = h430 151 7 := ((my_up_role fh471 is_151 is_167 rfl).trans ((my_fr.at frh463 is_151 rfl).trans (rfl : h430 151 7 = h430 151 7)))
            rw [ps489] at xp477
            have tE490 : sm h471 = sm h := sm_eq (fun j => my_fr.at gh471 is_153 rfl) (fun j => my_fr.at gh471 is_154 rfl) (fun j => my_fr.at gh471 is_155 rfl)
            rw [tE490] at xp478
            rw [ps489] at xp478
            rw [tE490] at xp479
            rw [ps489] at xp479
            have psR : h474 151 7 = h474 151 7 := (rfl : h474 151 7 = h474 151 7)
            have npsR : sm h474 = sm h := sm_eq (fun j => my_fr.at gh474 is_153 rfl) (fun j => my_fr.at gh474 is_154 rfl) (fun j => my_fr.at gh474 is_155 rfl)
            have ce491 : h474 151 8 = (h474 151 8) := (rfl : h474 151 8 = h474 151 8)
            have ce492 : h474 151 27 = h463 151 27 := ((my_fr.at frh474 is_151 rfl).trans ((my_up_role fh471 is_151 is_167 rfl).trans (rfl : h463 151 27 = h463 151 27)))
            have r167 : ∀ j : Int, h474 167 j = h471 167 j := fun j => ((my_fr.at frh474 is_167 rfl).trans (rfl : h471 167 j = h471 167 j))
            have r6 := r167 6
            have cw9 : h474 151 27 = h463 151 27 := by omega
            have c493 := (rfl : h474 151 8 = h474 151 8)
            exact w_vret gz_185_275 gm_185 (k0 h474 (gh474) (by omega) (by omega) (by first | exact Ko_h474 | omega | exact Or.inl ⟨by omega, fillM_R zF (by first | exact Or.inl ⟨by omega, by omega⟩ | exact Or.inr ⟨by omega, Or.inl ⟨by omega, by omega⟩⟩ | exact Or.inr ⟨by omega, Or.inr ⟨by omega, by omega, by omega⟩⟩), by omega, by omega⟩ | exact Or.inr (Or.inr (Or.inl ⟨by omega, by omega, cutM_R zC (by first | exact Or.inl ⟨by omega, by omega⟩ | exact Or.inr ⟨by omega, Or.inl ⟨by omega, by omega⟩⟩ | exact Or.inr ⟨by omega, Or.inr ⟨by omega, by omega, by omega⟩⟩), by first | omega | exact cw9, by omega⟩)) | exact Or.inr (Or.inr (Or.inr (Or.inl ⟨by omega, by omega, by first | (rw [cw9]; exact fmE_R zW (by first | exact Or.inl ⟨by omega, by omega⟩ | exact Or.inr ⟨by omega, Or.inl ⟨by omega, by omega⟩⟩ | exact Or.inr ⟨by omega, Or.inr ⟨by omega, by omega, by omega⟩⟩)) | exact fmE_R zW (by first | exact Or.inl ⟨by omega, by omega⟩ | exact Or.inr ⟨by omega, Or.inl ⟨by omega, by omega⟩⟩ | exact Or.inr ⟨by omega, Or.inr ⟨by omega, by omega, by omega⟩⟩), by omega⟩))) | exact Or.inr (Or.inr (Or.inr (Or.inr (Or.inl ⟨by omega, by omega, joinM_R zJ (by first | exact Or.inl ⟨by omega, by omega⟩ | exact Or.inr ⟨by omega, Or.inl ⟨by omega, by omega⟩⟩ | exact Or.inr ⟨by omega, Or.inr ⟨by omega, by omega, by omega⟩⟩), fun _ => by omega, by omega⟩)))) | exact Or.inr (Or.inr (Or.inr (Or.inr (Or.inr (Or.inl ⟨by omega, by omega, sumM_R zS (by first | exact Or.inl ⟨by omega, by omega⟩ | exact Or.inr ⟨by omega, Or.inl ⟨by omega, by omega⟩⟩ | exact Or.inr ⟨by omega, Or.inr ⟨by omega, by omega, by omega⟩⟩), by first | omega | exact cw9, by omega⟩))))) | exact ⟨_, _, _, Or.inl ⟨by omega, fillM_R zF (by first | exact Or.inl ⟨by omega, by omega⟩ | exact Or.inr ⟨by omega, Or.inl ⟨by omega, by omega⟩⟩ | exact Or.inr ⟨by omega, Or.inr ⟨by omega, by omega, by omega⟩⟩), rfl, rfl⟩⟩ | exact ⟨_, _, _, Or.inr (Or.inr (Or.inl ⟨by omega, by omega, cutM_R zC (by first | exact Or.inl ⟨by omega, by omega⟩ | exact Or.inr ⟨by omega, Or.inl ⟨by omega, by omega⟩⟩ | exact Or.inr ⟨by omega, Or.inr ⟨by omega, by omega, by omega⟩⟩), rfl, rfl⟩))⟩ | exact ⟨_, _, _, Or.inr (Or.inr (Or.inr (Or.inl ⟨by omega, by omega, fmE_R zW (by first | exact Or.inl ⟨by omega, by omega⟩ | exact Or.inr ⟨by omega, Or.inl ⟨by omega, by omega⟩⟩ | exact Or.inr ⟨by omega, Or.inr ⟨by omega, by omega, by omega⟩⟩), rfl⟩)))⟩ | exact ⟨_, _, _, Or.inr (Or.inr (Or.inr (Or.inr (Or.inl ⟨by omega, by omega, joinM_R zJ (by first | exact Or.inl ⟨by omega, by omega⟩ | exact Or.inr ⟨by omega, Or.inl ⟨by omega, by omega⟩⟩ | exact Or.inr ⟨by omega, Or.inr ⟨by omega, by omega, by omega⟩⟩), fun q => absurd q (by omega), rfl⟩))))⟩ | exact ⟨_, _, _, Or.inr (Or.inr (Or.inr (Or.inr (Or.inr (Or.inl ⟨by omega, by omega, sumM_R zS (by first | exact Or.inl ⟨by omega, by omega⟩ | exact Or.inr ⟨by omega, Or.inl ⟨by omega, by omega⟩⟩ | exact Or.inr ⟨by omega, Or.inr ⟨by omega, by omega, by omega⟩⟩), rfl, rfl⟩)))))⟩ | exact ⟨0, 0, 0, Or.inr (Or.inl ⟨by omega, by omega, by omega⟩)⟩ | exact ⟨0, 0, 0, Or.inr (Or.inr (Or.inr (Or.inr (Or.inr (Or.inr (⟨by omega, by omega, by omega, by omega, by omega, by omega⟩))))))⟩ | omega) (by first | exact Ko_h474 | omega | exact Or.inl ⟨by omega, fillM_R zF (by first | exact Or.inl ⟨by omega, by omega⟩ | exact Or.inr ⟨by omega, Or.inl ⟨by omega, by omega⟩⟩ | exact Or.inr ⟨by omega, Or.inr ⟨by omega, by omega, by omega⟩⟩), by omega, by omega⟩ | exact Or.inr (Or.inr (Or.inl ⟨by omega, by omega, cutM_R zC (by first | exact Or.inl ⟨by omega, by omega⟩ | exact Or.inr ⟨by omega, Or.inl ⟨by omega, by omega⟩⟩ | exact Or.inr ⟨by omega, Or.inr ⟨by omega, by omega, by omega⟩⟩), by first | omega | exact cw9, by omega⟩)) | exact Or.inr (Or.inr (Or.inr (Or.inl ⟨by omega, by omega, by first | (rw [cw9]; exact fmE_R zW (by first | exact Or.inl ⟨by omega, by omega⟩ | exact Or.inr ⟨by omega, Or.inl ⟨by omega, by omega⟩⟩ | exact Or.inr ⟨by omega, Or.inr ⟨by omega, by omega, by omega⟩⟩)) | exact fmE_R zW (by first | exact Or.inl ⟨by omega, by omega⟩ | exact Or.inr ⟨by omega, Or.inl ⟨by omega, by omega⟩⟩ | exact Or.inr ⟨by omega, Or.inr ⟨by omega, by omega, by omega⟩⟩), by omega⟩))) | exact Or.inr (Or.inr (Or.inr (Or.inr (Or.inl ⟨by omega, by omega, joinM_R zJ (by first | exact Or.inl ⟨by omega, by omega⟩ | exact Or.inr ⟨by omega, Or.inl ⟨by omega, by omega⟩⟩ | exact Or.inr ⟨by omega, Or.inr ⟨by omega, by omega, by omega⟩⟩), fun _ => by omega, by omega⟩)))) | exact Or.inr (Or.inr (Or.inr (Or.inr (Or.inr (Or.inl ⟨by omega, by omega, sumM_R zS (by first | exact Or.inl ⟨by omega, by omega⟩ | exact Or.inr ⟨by omega, Or.inl ⟨by omega, by omega⟩⟩ | exact Or.inr ⟨by omega, Or.inr ⟨by omega, by omega, by omega⟩⟩), by first | omega | exact cw9, by omega⟩))))) | exact ⟨_, _, _, Or.inl ⟨by omega, fillM_R zF (by first | exact Or.inl ⟨by omega, by omega⟩ | exact Or.inr ⟨by omega, Or.inl ⟨by omega, by omega⟩⟩ | exact Or.inr ⟨by omega, Or.inr ⟨by omega, by omega, by omega⟩⟩), rfl, rfl⟩⟩ | exact ⟨_, _, _, Or.inr (Or.inr (Or.inl ⟨by omega, by omega, cutM_R zC (by first | exact Or.inl ⟨by omega, by omega⟩ | exact Or.inr ⟨by omega, Or.inl ⟨by omega, by omega⟩⟩ | exact Or.inr ⟨by omega, Or.inr ⟨by omega, by omega, by omega⟩⟩), rfl, rfl⟩))⟩ | exact ⟨_, _, _, Or.inr (Or.inr (Or.inr (Or.inl ⟨by omega, by omega, fmE_R zW (by first | exact Or.inl ⟨by omega, by omega⟩ | exact Or.inr ⟨by omega, Or.inl ⟨by omega, by omega⟩⟩ | exact Or.inr ⟨by omega, Or.inr ⟨by omega, by omega, by omega⟩⟩), rfl⟩)))⟩ | exact ⟨_, _, _, Or.inr (Or.inr (Or.inr (Or.inr (Or.inl ⟨by omega, by omega, joinM_R zJ (by first | exact Or.inl ⟨by omega, by omega⟩ | exact Or.inr ⟨by omega, Or.inl ⟨by omega, by omega⟩⟩ | exact Or.inr ⟨by omega, Or.inr ⟨by omega, by omega, by omega⟩⟩), fun q => absurd q (by omega), rfl⟩))))⟩ | exact ⟨_, _, _, Or.inr (Or.inr (Or.inr (Or.inr (Or.inr (Or.inl ⟨by omega, by omega, sumM_R zS (by first | exact Or.inl ⟨by omega, by omega⟩ | exact Or.inr ⟨by omega, Or.inl ⟨by omega, by omega⟩⟩ | exact Or.inr ⟨by omega, Or.inr ⟨by omega, by omega, by omega⟩⟩), rfl, rfl⟩)))))⟩ | exact ⟨0, 0, 0, Or.inr (Or.inl ⟨by omega, by omega, by omega⟩)⟩ | exact ⟨0, 0, 0, Or.inr (Or.inr (Or.inr (Or.inr (Or.inr (Or.inr (⟨by omega, by omega, by omega, by omega, by omega, by omega⟩))))))⟩ | omega) (by first | exact Ko_h474 | omega | exact Or.inl ⟨by omega, fillM_R zF (by first | exact Or.inl ⟨by omega, by omega⟩ | exact Or.inr ⟨by omega, Or.inl ⟨by omega, by omega⟩⟩ | exact Or.inr ⟨by omega, Or.inr ⟨by omega, by omega, by omega⟩⟩), by omega, by omega⟩ | exact Or.inr (Or.inr (Or.inl ⟨by omega, by omega, cutM_R zC (by first | exact Or.inl ⟨by omega, by omega⟩ | exact Or.inr ⟨by omega, Or.inl ⟨by omega, by omega⟩⟩ | exact Or.inr ⟨by omega, Or.inr ⟨by omega, by omega, by omega⟩⟩), by first | omega | exact cw9, by omega⟩)) | exact Or.inr (Or.inr (Or.inr (Or.inl ⟨by omega, by omega, by first | (rw [cw9]; exact fmE_R zW (by first | exact Or.inl ⟨by omega, by omega⟩ | exact Or.inr ⟨by omega, Or.inl ⟨by omega, by omega⟩⟩ | exact Or.inr ⟨by omega, Or.inr ⟨by omega, by omega, by omega⟩⟩)) | exact fmE_R zW (by first | exact Or.inl ⟨by omega, by omega⟩ | exact Or.inr ⟨by omega, Or.inl ⟨by omega, by omega⟩⟩ | exact Or.inr ⟨by omega, Or.inr ⟨by omega, by omega, by omega⟩⟩), by omega⟩))) | exact Or.inr (Or.inr (Or.inr (Or.inr (Or.inl ⟨by omega, by omega, joinM_R zJ (by first | exact Or.inl ⟨by omega, by omega⟩ | exact Or.inr ⟨by omega, Or.inl ⟨by omega, by omega⟩⟩ | exact Or.inr ⟨by omega, Or.inr ⟨by omega, by omega, by omega⟩⟩), fun _ => by omega, by omega⟩)))) | exact Or.inr (Or.inr (Or.inr (Or.inr (Or.inr (Or.inl ⟨by omega, by omega, sumM_R zS (by first | exact Or.inl ⟨by omega, by omega⟩ | exact Or.inr ⟨by omega, Or.inl ⟨by omega, by omega⟩⟩ | exact Or.inr ⟨by omega, Or.inr ⟨by omega, by omega, by omega⟩⟩), by first | omega | exact cw9, by omega⟩))))) | exact ⟨_, _, _, Or.inl ⟨by omega, fillM_R zF (by first | exact Or.inl ⟨by omega, by omega⟩ | exact Or.inr ⟨by omega, Or.inl ⟨by omega, by omega⟩⟩ | exact Or.inr ⟨by omega, Or.inr ⟨by omega, by omega, by omega⟩⟩), rfl, rfl⟩⟩ | exact ⟨_, _, _, Or.inr (Or.inr (Or.inl ⟨by omega, by omega, cutM_R zC (by first | exact Or.inl ⟨by omega, by omega⟩ | exact Or.inr ⟨by omega, Or.inl ⟨by omega, by omega⟩⟩ | exact Or.inr ⟨by omega, Or.inr ⟨by omega, by omega, by omega⟩⟩), rfl, rfl⟩))⟩ | exact ⟨_, _, _, Or.inr (Or.inr (Or.inr (Or.inl ⟨by omega, by omega, fmE_R zW (by first | exact Or.inl ⟨by omega, by omega⟩ | exact Or.inr ⟨by omega, Or.inl ⟨by omega, by omega⟩⟩ | exact Or.inr ⟨by omega, Or.inr ⟨by omega, by omega, by omega⟩⟩), rfl⟩)))⟩ | exact ⟨_, _, _, Or.inr (Or.inr (Or.inr (Or.inr (Or.inl ⟨by omega, by omega, joinM_R zJ (by first | exact Or.inl ⟨by omega, by omega⟩ | exact Or.inr ⟨by omega, Or.inl ⟨by omega, by omega⟩⟩ | exact Or.inr ⟨by omega, Or.inr ⟨by omega, by omega, by omega⟩⟩), fun q => absurd q (by omega), rfl⟩))))⟩ | exact ⟨_, _, _, Or.inr (Or.inr (Or.inr (Or.inr (Or.inr (Or.inl ⟨by omega, by omega, sumM_R zS (by first | exact Or.inl ⟨by omega, by omega⟩ | exact Or.inr ⟨by omega, Or.inl ⟨by omega, by omega⟩⟩ | exact Or.inr ⟨by omega, Or.inr ⟨by omega, by omega, by omega⟩⟩), rfl, rfl⟩)))))⟩ | exact ⟨0, 0, 0, Or.inr (Or.inl ⟨by omega, by omega, by omega⟩)⟩ | exact ⟨0, 0, 0, Or.inr (Or.inr (Or.inr (Or.inr (Or.inr (Or.inr (⟨by omega, by omega, by omega, by omega, by omega, by omega⟩))))))⟩ | omega) Tok_h474t480 Mq_h474 Wrd_h474 Wd9_h474)
          ·
            have gh481 : my_fr [(10, 7), (10, 8), (10, 27), (66, -1), (67, -1), (68, -1), (69, -1), (70, -1), (71, -1), (72, -1), (73, -1), (74, -1), (75, -1), (77, -1), (78, -1), (79, -1)] h h481 := my_fr.tr gh471 (frh481.mo rfl)
            have Wrd_h481 : Wrd h481 := Wrd_ag (my_ag.fr frh481 rfl) Wrd_h471
            have Wd9_h481 : Wd9 h481 := Wd9_ag (my_ag.fr frh481 rfl) Wd9_h471
            have Ko_h481 : Ko h h481 := Ko_ag (my_ag.fr frh481 rfl) Ko_h471
            have Mq_h481 : Mq h481 wv := Mq_ag (my_ag.fr frh481 rfl) Mq_h471t472
            show wp l rho (d + 4) 185 275 [(2, 151), (0, p88_0), (0, p88_1), (0, p88_2), (0, p88_3), (0, (36 + v10)), (9, 0), (9, 0)] [] h481 Q
            have ps494 : h471 151 7 = h430 151 7 := ((my_up_role fh471 is_151 is_167 rfl).trans ((my_fr.at frh463 is_151 rfl).trans (rfl : h430 151 7 = h430 151 7)))
            rw [ps494] at xp485
            have tE495 : sm h471 = sm h := sm_eq (fun j => my_fr.at gh471 is_153 rfl) (fun j => my_fr.at gh471 is_154 rfl) (fun j => my_fr.at gh471 is_155 rfl)
            rw [tE495] at xp486
            rw [ps494] at xp486
            rw [tE495] at xp487
            rw [ps494] at xp487
            have psR : h481 151 7 = (sN (sm h) ((h430 151 7))) := xp486
            have npsR : sm h481 = sm h := sm_eq (fun j => my_fr.at gh481 is_153 rfl) (fun j => my_fr.at gh481 is_154 rfl) (fun j => my_fr.at gh481 is_155 rfl)
            have ce496 : h481 151 7 = (h481 151 7) := (rfl : h481 151 7 = h481 151 7)
            have ce497 : h481 151 8 = 0 := w484
            have ce498 : h481 151 27 = h463 151 27 := ((my_fr.at frh481 is_151 rfl).trans ((my_up_role fh471 is_151 is_167 rfl).trans (rfl : h463 151 27 = h463 151 27)))
            have r167 : ∀ j : Int, h481 167 j = h471 167 j := fun j => ((my_fr.at frh481 is_167 rfl).trans (rfl : h471 167 j = h471 167 j))
            have r6 := r167 6
            have cw9 : h481 151 27 = h463 151 27 := by omega
            have c499 := (rfl : h481 151 7 = h481 151 7)
            have c500 := w484
            exact w_vret gz_185_275 gm_185 (k1 h481 (gh481) (by omega) (by omega) (by omega) (by first | exact Ko_h481 | omega | exact Or.inl ⟨by omega, fillM_R zF (by first | exact Or.inl ⟨by omega, by omega⟩ | exact Or.inr ⟨by omega, Or.inl ⟨by omega, by omega⟩⟩ | exact Or.inr ⟨by omega, Or.inr ⟨by omega, by omega, by omega⟩⟩), by omega, by omega⟩ | exact Or.inr (Or.inr (Or.inl ⟨by omega, by omega, cutM_R zC (by first | exact Or.inl ⟨by omega, by omega⟩ | exact Or.inr ⟨by omega, Or.inl ⟨by omega, by omega⟩⟩ | exact Or.inr ⟨by omega, Or.inr ⟨by omega, by omega, by omega⟩⟩), by first | omega | exact cw9, by omega⟩)) | exact Or.inr (Or.inr (Or.inr (Or.inl ⟨by omega, by omega, by first | (rw [cw9]; exact fmE_R zW (by first | exact Or.inl ⟨by omega, by omega⟩ | exact Or.inr ⟨by omega, Or.inl ⟨by omega, by omega⟩⟩ | exact Or.inr ⟨by omega, Or.inr ⟨by omega, by omega, by omega⟩⟩)) | exact fmE_R zW (by first | exact Or.inl ⟨by omega, by omega⟩ | exact Or.inr ⟨by omega, Or.inl ⟨by omega, by omega⟩⟩ | exact Or.inr ⟨by omega, Or.inr ⟨by omega, by omega, by omega⟩⟩), by omega⟩))) | exact Or.inr (Or.inr (Or.inr (Or.inr (Or.inl ⟨by omega, by omega, joinM_R zJ (by first | exact Or.inl ⟨by omega, by omega⟩ | exact Or.inr ⟨by omega, Or.inl ⟨by omega, by omega⟩⟩ | exact Or.inr ⟨by omega, Or.inr ⟨by omega, by omega, by omega⟩⟩), fun _ => by omega, by omega⟩)))) | exact Or.inr (Or.inr (Or.inr (Or.inr (Or.inr (Or.inl ⟨by omega, by omega, sumM_R zS (by first | exact Or.inl ⟨by omega, by omega⟩ | exact Or.inr ⟨by omega, Or.inl ⟨by omega, by omega⟩⟩ | exact Or.inr ⟨by omega, Or.inr ⟨by omega, by omega, by omega⟩⟩), by first | omega | exact cw9, by omega⟩))))) | exact ⟨_, _, _, Or.inl ⟨by omega, fillM_R zF (by first | exact Or.inl ⟨by omega, by omega⟩ | exact Or.inr ⟨by omega, Or.inl ⟨by omega, by omega⟩⟩ | exact Or.inr ⟨by omega, Or.inr ⟨by omega, by omega, by omega⟩⟩), rfl, rfl⟩⟩ | exact ⟨_, _, _, Or.inr (Or.inr (Or.inl ⟨by omega, by omega, cutM_R zC (by first | exact Or.inl ⟨by omega, by omega⟩ | exact Or.inr ⟨by omega, Or.inl ⟨by omega, by omega⟩⟩ | exact Or.inr ⟨by omega, Or.inr ⟨by omega, by omega, by omega⟩⟩), rfl, rfl⟩))⟩ | exact ⟨_, _, _, Or.inr (Or.inr (Or.inr (Or.inl ⟨by omega, by omega, fmE_R zW (by first | exact Or.inl ⟨by omega, by omega⟩ | exact Or.inr ⟨by omega, Or.inl ⟨by omega, by omega⟩⟩ | exact Or.inr ⟨by omega, Or.inr ⟨by omega, by omega, by omega⟩⟩), rfl⟩)))⟩ | exact ⟨_, _, _, Or.inr (Or.inr (Or.inr (Or.inr (Or.inl ⟨by omega, by omega, joinM_R zJ (by first | exact Or.inl ⟨by omega, by omega⟩ | exact Or.inr ⟨by omega, Or.inl ⟨by omega, by omega⟩⟩ | exact Or.inr ⟨by omega, Or.inr ⟨by omega, by omega, by omega⟩⟩), fun q => absurd q (by omega), rfl⟩))))⟩ | exact ⟨_, _, _, Or.inr (Or.inr (Or.inr (Or.inr (Or.inr (Or.inl ⟨by omega, by omega, sumM_R zS (by first | exact Or.inl ⟨by omega, by omega⟩ | exact Or.inr ⟨by omega, Or.inl ⟨by omega, by omega⟩⟩ | exact Or.inr ⟨by omega, Or.inr ⟨by omega, by omega, by omega⟩⟩), rfl, rfl⟩)))))⟩ | exact ⟨0, 0, 0, Or.inr (Or.inl ⟨by omega, by omega, by omega⟩)⟩ | exact ⟨0, 0, 0, Or.inr (Or.inr (Or.inr (Or.inr (Or.inr (Or.inr (⟨by omega, by omega, by omega, by omega, by omega, by omega⟩))))))⟩ | omega) (by first | exact Ko_h481 | omega | exact Or.inl ⟨by omega, fillM_R zF (by first | exact Or.inl ⟨by omega, by omega⟩ | exact Or.inr ⟨by omega, Or.inl ⟨by omega, by omega⟩⟩ | exact Or.inr ⟨by omega, Or.inr ⟨by omega, by omega, by omega⟩⟩), by omega, by omega⟩ | exact Or.inr (Or.inr (Or.inl ⟨by omega, by omega, cutM_R zC (by first | exact Or.inl ⟨by omega, by omega⟩ | exact Or.inr ⟨by omega, Or.inl ⟨by omega, by omega⟩⟩ | exact Or.inr ⟨by omega, Or.inr ⟨by omega, by omega, by omega⟩⟩), by first | omega | exact cw9, by omega⟩)) | exact Or.inr (Or.inr (Or.inr (Or.inl ⟨by omega, by omega, by first | (rw [cw9]; exact fmE_R zW (by first | exact Or.inl ⟨by omega, by omega⟩ | exact Or.inr ⟨by omega, Or.inl ⟨by omega, by omega⟩⟩ | exact Or.inr ⟨by omega, Or.inr ⟨by omega, by omega, by omega⟩⟩)) | exact fmE_R zW (by first | exact Or.inl ⟨by omega, by omega⟩ | exact Or.inr ⟨by omega, Or.inl ⟨by omega, by omega⟩⟩ | exact Or.inr ⟨by omega, Or.inr ⟨by omega, by omega, by omega⟩⟩), by omega⟩))) | exact Or.inr (Or.inr (Or.inr (Or.inr (Or.inl ⟨by omega, by omega, joinM_R zJ (by first | exact Or.inl ⟨by omega, by omega⟩ | exact Or.inr ⟨by omega, Or.inl ⟨by omega, by omega⟩⟩ | exact Or.inr ⟨by omega, Or.inr ⟨by omega, by omega, by omega⟩⟩), fun _ => by omega, by omega⟩)))) | exact Or.inr (Or.inr (Or.inr (Or.inr (Or.inr (Or.inl ⟨by omega, by omega, sumM_R zS (by first | exact Or.inl ⟨by omega, by omega⟩ | exact Or.inr ⟨by omega, Or.inl ⟨by omega, by omega⟩⟩ | exact Or.inr ⟨by omega, Or.inr ⟨by omega, by omega, by omega⟩⟩), by first | omega | exact cw9, by omega⟩))))) | exact ⟨_, _, _, Or.inl ⟨by omega, fillM_R zF (by first | exact Or.inl ⟨by omega, by omega⟩ | exact Or.inr ⟨by omega, Or.inl ⟨by omega, by omega⟩⟩ | exact Or.inr ⟨by omega, Or.inr ⟨by omega, by omega, by omega⟩⟩), rfl, rfl⟩⟩ | exact ⟨_, _, _, Or.inr (Or.inr (Or.inl ⟨by omega, by omega, cutM_R zC (by first | exact Or.inl ⟨by omega, by omega⟩ | exact Or.inr ⟨by omega, Or.inl ⟨by omega, by omega⟩⟩ | exact Or.inr ⟨by omega, Or.inr ⟨by omega, by omega, by omega⟩⟩), rfl, rfl⟩))⟩ | exact ⟨_, _, _, Or.inr (Or.inr (Or.inr (Or.inl ⟨by omega, by omega, fmE_R zW (by first | exact Or.inl ⟨by omega, by omega⟩ | exact Or.inr ⟨by omega, Or.inl ⟨by omega, by omega⟩⟩ | exact Or.inr ⟨by omega, Or.inr ⟨by omega, by omega, by omega⟩⟩), rfl⟩)))⟩ | exact ⟨_, _, _, Or.inr (Or.inr (Or.inr (Or.inr (Or.inl ⟨by omega, by omega, joinM_R zJ (by first | exact Or.inl ⟨by omega, by omega⟩ | exact Or.inr ⟨by omega, Or.inl ⟨by omega, by omega⟩⟩ | exact Or.inr ⟨by omega, Or.inr ⟨by omega, by omega, by omega⟩⟩), fun q => absurd q (by omega), rfl⟩))))⟩ | exact ⟨_, _, _, Or.inr (Or.inr (Or.inr (Or.inr (Or.inr (Or.inl ⟨by omega, by omega, sumM_R zS (by first | exact Or.inl ⟨by omega, by omega⟩ | exact Or.inr ⟨by omega, Or.inl ⟨by omega, by omega⟩⟩ | exact Or.inr ⟨by omega, Or.inr ⟨by omega, by omega, by omega⟩⟩), rfl, rfl⟩)))))⟩ | exact ⟨0, 0, 0, Or.inr (Or.inl ⟨by omega, by omega, by omega⟩)⟩ | exact ⟨0, 0, 0, Or.inr (Or.inr (Or.inr (Or.inr (Or.inr (Or.inr (⟨by omega, by omega, by omega, by omega, by omega, by omega⟩))))))⟩ | omega) (by first | exact Ko_h481 | omega | exact Or.inl ⟨by omega, fillM_R zF (by first | exact Or.inl ⟨by omega, by omega⟩ | exact Or.inr ⟨by omega, Or.inl ⟨by omega, by omega⟩⟩ | exact Or.inr ⟨by omega, Or.inr ⟨by omega, by omega, by omega⟩⟩), by omega, by omega⟩ | exact Or.inr (Or.inr (Or.inl ⟨by omega, by omega, cutM_R zC (by first | exact Or.inl ⟨by omega, by omega⟩ | exact Or.inr ⟨by omega, Or.inl ⟨by omega, by omega⟩⟩ | exact Or.inr ⟨by omega, Or.inr ⟨by omega, by omega, by omega⟩⟩), by first | omega | exact cw9, by omega⟩)) | exact Or.inr (Or.inr (Or.inr (Or.inl ⟨by omega, by omega, by first | (rw [cw9]; exact fmE_R zW (by first | exact Or.inl ⟨by omega, by omega⟩ | exact Or.inr ⟨by omega, Or.inl ⟨by omega, by omega⟩⟩ | exact Or.inr ⟨by omega, Or.inr ⟨by omega, by omega, by omega⟩⟩)) | exact fmE_R zW (by first | exact Or.inl ⟨by omega, by omega⟩ | exact Or.inr ⟨by omega, Or.inl ⟨by omega, by omega⟩⟩ | exact Or.inr ⟨by omega, Or.inr ⟨by omega, by omega, by omega⟩⟩), by omega⟩))) | exact Or.inr (Or.inr (Or.inr (Or.inr (Or.inl ⟨by omega, by omega, joinM_R zJ (by first | exact Or.inl ⟨by omega, by omega⟩ | exact Or.inr ⟨by omega, Or.inl ⟨by omega, by omega⟩⟩ | exact Or.inr ⟨by omega, Or.inr ⟨by omega, by omega, by omega⟩⟩), fun _ => by omega, by omega⟩)))) | exact Or.inr (Or.inr (Or.inr (Or.inr (Or.inr (Or.inl ⟨by omega, by omega, sumM_R zS (by first | exact Or.inl ⟨by omega, by omega⟩ | exact Or.inr ⟨by omega, Or.inl ⟨by omega, by omega⟩⟩ | exact Or.inr ⟨by omega, Or.inr ⟨by omega, by omega, by omega⟩⟩), by first | omega | exact cw9, by omega⟩))))) | exact ⟨_, _, _, Or.inl ⟨by omega, fillM_R zF (by first | exact Or.inl ⟨by omega, by omega⟩ | exact Or.inr ⟨by omega, Or.inl ⟨by omega, by omega⟩⟩ | exact Or.inr ⟨by omega, Or.inr ⟨by omega, by omega, by omega⟩⟩), rfl, rfl⟩⟩ | exact ⟨_, _, _, Or.inr (Or.inr (Or.inl ⟨by omega, by omega, cutM_R zC (by first | exact Or.inl ⟨by omega, by omega⟩ | exact Or.inr ⟨by omega, Or.inl ⟨by omega, by omega⟩⟩ | exact Or.inr ⟨by omega, Or.inr ⟨by omega, by omega, by omega⟩⟩), rfl, rfl⟩))⟩ | exact ⟨_, _, _, Or.inr (Or.inr (Or.inr (Or.inl ⟨by omega, by omega, fmE_R zW (by first | exact Or.inl ⟨by omega, by omega⟩ | exact Or.inr ⟨by omega, Or.inl ⟨by omega, by omega⟩⟩ | exact Or.inr ⟨by omega, Or.inr ⟨by omega, by omega, by omega⟩⟩), rfl⟩)))⟩ | exact ⟨_, _, _, Or.inr (Or.inr (Or.inr (Or.inr (Or.inl ⟨by omega, by omega, joinM_R zJ (by first | exact Or.inl ⟨by omega, by omega⟩ | exact Or.inr ⟨by omega, Or.inl ⟨by omega, by omega⟩⟩ | exact Or.inr ⟨by omega, Or.inr ⟨by omega, by omega, by omega⟩⟩), fun q => absurd q (by omega), rfl⟩))))⟩ | exact ⟨_, _, _, Or.inr (Or.inr (Or.inr (Or.inr (Or.inr (Or.inl ⟨by omega, by omega, sumM_R zS (by first | exact Or.inl ⟨by omega, by omega⟩ | exact Or.inr ⟨by omega, Or.inl ⟨by omega, by omega⟩⟩ | exact Or.inr ⟨by omega, Or.inr ⟨by omega, by omega, by omega⟩⟩), rfl, rfl⟩)))))⟩ | exact ⟨0, 0, 0, Or.inr (Or.inl ⟨by omega, by omega, by omega⟩)⟩ | exact ⟨0, 0, 0, Or.inr (Or.inr (Or.inr (Or.inr (Or.inr (Or.inr (⟨by omega, by omega, by omega, by omega, by omega, by omega⟩))))))⟩ | omega) Tok_h481t488 Mq_h481 Wrd_h481 Wd9_h481)
    ·
      have psR : h88_0 151 7 = h 151 7 := am_88_0
      have npsR : sm h88_0 = sm h := sm_eq (fun j => my_fr.at gh_88_0 is_153 rfl) (fun j => my_fr.at gh_88_0 is_154 rfl) (fun j => my_fr.at gh_88_0 is_155 rfl)
      have ce501 : h88_0 151 7 = k151_7 := c151_7_88_0
      have ce502 : h88_0 151 8 = v1 := ev1.symm
      have ce503 : h88_0 151 27 = k151_27 := c151_27_88_0
      have r167 : ∀ j : Int, h88_0 167 j = h88_0 167 j := fun _ => rfl
      have r6 := r167 6
      have c504 := ev1.symm
      exact w_vret gz_185_95 gm_185 (k0 h88_0 (gh_88_0) (by omega) (by omega) (by first | exact n_Ko_88_0 | omega | exact Or.inl ⟨by omega, fillM_R zF (by first | exact Or.inl ⟨by omega, by omega⟩ | exact Or.inr ⟨by omega, Or.inl ⟨by omega, by omega⟩⟩ | exact Or.inr ⟨by omega, Or.inr ⟨by omega, by omega, by omega⟩⟩), by omega, by omega⟩ | exact Or.inr (Or.inr (Or.inl ⟨by omega, by omega, cutM_R zC (by first | exact Or.inl ⟨by omega, by omega⟩ | exact Or.inr ⟨by omega, Or.inl ⟨by omega, by omega⟩⟩ | exact Or.inr ⟨by omega, Or.inr ⟨by omega, by omega, by omega⟩⟩), by first | omega | exact cw9, by omega⟩)) | exact Or.inr (Or.inr (Or.inr (Or.inl ⟨by omega, by omega, by first | (rw [cw9]; exact fmE_R zW (by first | exact Or.inl ⟨by omega, by omega⟩ | exact Or.inr ⟨by omega, Or.inl ⟨by omega, by omega⟩⟩ | exact Or.inr ⟨by omega, Or.inr ⟨by omega, by omega, by omega⟩⟩)) | exact fmE_R zW (by first | exact Or.inl ⟨by omega, by omega⟩ | exact Or.inr ⟨by omega, Or.inl ⟨by omega, by omega⟩⟩ | exact Or.inr ⟨by omega, Or.inr ⟨by omega, by omega, by omega⟩⟩), by omega⟩))) | exact Or.inr (Or.inr (Or.inr (Or.inr (Or.inl ⟨by omega, by omega, joinM_R zJ (by first | exact Or.inl ⟨by omega, by omega⟩ | exact Or.inr ⟨by omega, Or.inl ⟨by omega, by omega⟩⟩ | exact Or.inr ⟨by omega, Or.inr ⟨by omega, by omega, by omega⟩⟩), fun _ => by omega, by omega⟩)))) | exact Or.inr (Or.inr (Or.inr (Or.inr (Or.inr (Or.inl ⟨by omega, by omega, sumM_R zS (by first | exact Or.inl ⟨by omega, by omega⟩ | exact Or.inr ⟨by omega, Or.inl ⟨by omega, by omega⟩⟩ | exact Or.inr ⟨by omega, Or.inr ⟨by omega, by omega, by omega⟩⟩), by first | omega | exact cw9, by omega⟩))))) | exact ⟨_, _, _, Or.inl ⟨by omega, fillM_R zF (by first | exact Or.inl ⟨by omega, by omega⟩ | exact Or.inr ⟨by omega, Or.inl ⟨by omega, by omega⟩⟩ | exact Or.inr ⟨by omega, Or.inr ⟨by omega, by omega, by omega⟩⟩), rfl, rfl⟩⟩ | exact ⟨_, _, _, Or.inr (Or.inr (Or.inl ⟨by omega, by omega, cutM_R zC (by first | exact Or.inl ⟨by omega, by omega⟩ | exact Or.inr ⟨by omega, Or.inl ⟨by omega, by omega⟩⟩ | exact Or.inr ⟨by omega, Or.inr ⟨by omega, by omega, by omega⟩⟩), rfl, rfl⟩))⟩ | exact ⟨_, _, _, Or.inr (Or.inr (Or.inr (Or.inl ⟨by omega, by omega, fmE_R zW (by first | exact Or.inl ⟨by omega, by omega⟩ | exact Or.inr ⟨by omega, Or.inl ⟨by omega, by omega⟩⟩ | exact Or.inr ⟨by omega, Or.inr ⟨by omega, by omega, by omega⟩⟩), rfl⟩)))⟩ | exact ⟨_, _, _, Or.inr (Or.inr (Or.inr (Or.inr (Or.inl ⟨by omega, by omega, joinM_R zJ (by first | exact Or.inl ⟨by omega, by omega⟩ | exact Or.inr ⟨by omega, Or.inl ⟨by omega, by omega⟩⟩ | exact Or.inr ⟨by omega, Or.inr ⟨by omega, by omega, by omega⟩⟩), fun q => absurd q (by omega), rfl⟩))))⟩ | exact ⟨_, _, _, Or.inr (Or.inr (Or.inr (Or.inr (Or.inr (Or.inl ⟨by omega, by omega, sumM_R zS (by first | exact Or.inl ⟨by omega, by omega⟩ | exact Or.inr ⟨by omega, Or.inl ⟨by omega, by omega⟩⟩ | exact Or.inr ⟨by omega, Or.inr ⟨by omega, by omega, by omega⟩⟩), rfl, rfl⟩)))))⟩ | exact ⟨0, 0, 0, Or.inr (Or.inl ⟨by omega, by omega, by omega⟩)⟩ | exact ⟨0, 0, 0, Or.inr (Or.inr (Or.inr (Or.inr (Or.inr (Or.inr (⟨by omega, by omega, by omega, by omega, by omega, by omega⟩))))))⟩ | omega) (by first | exact n_Ko_88_0 | omega | exact Or.inl ⟨by omega, fillM_R zF (by first | exact Or.inl ⟨by omega, by omega⟩ | exact Or.inr ⟨by omega, Or.inl ⟨by omega, by omega⟩⟩ | exact Or.inr ⟨by omega, Or.inr ⟨by omega, by omega, by omega⟩⟩), by omega, by omega⟩ | exact Or.inr (Or.inr (Or.inl ⟨by omega, by omega, cutM_R zC (by first | exact Or.inl ⟨by omega, by omega⟩ | exact Or.inr ⟨by omega, Or.inl ⟨by omega, by omega⟩⟩ | exact Or.inr ⟨by omega, Or.inr ⟨by omega, by omega, by omega⟩⟩), by first | omega | exact cw9, by omega⟩)) | exact Or.inr (Or.inr (Or.inr (Or.inl ⟨by omega, by omega, by first | (rw [cw9]; exact fmE_R zW (by first | exact Or.inl ⟨by omega, by omega⟩ | exact Or.inr ⟨by omega, Or.inl ⟨by omega, by omega⟩⟩ | exact Or.inr ⟨by omega, Or.inr ⟨by omega, by omega, by omega⟩⟩)) | exact fmE_R zW (by first | exact Or.inl ⟨by omega, by omega⟩ | exact Or.inr ⟨by omega, Or.inl ⟨by omega, by omega⟩⟩ | exact Or.inr ⟨by omega, Or.inr ⟨by omega, by omega, by omega⟩⟩), by omega⟩))) | exact Or.inr (Or.inr (Or.inr (Or.inr (Or.inl ⟨by omega, by omega, joinM_R zJ (by first | exact Or.inl ⟨by omega, by omega⟩ | exact Or.inr ⟨by omega, Or.inl ⟨by omega, by omega⟩⟩ | exact Or.inr ⟨by omega, Or.inr ⟨by omega, by omega, by omega⟩⟩), fun _ => by omega, by omega⟩)))) | exact Or.inr (Or.inr (Or.inr (Or.inr (Or.inr (Or.inl ⟨by omega, by omega, sumM_R zS (by first | exact Or.inl ⟨by omega, by omega⟩ | exact Or.inr ⟨by omega, Or.inl ⟨by omega, by omega⟩⟩ | exact Or.inr ⟨by omega, Or.inr ⟨by omega, by omega, by omega⟩⟩), by first | omega | exact cw9, by omega⟩))))) | exact ⟨_, _, _, Or.inl ⟨by omega, fillM_R zF (by first | exact Or.inl ⟨by omega, by omega⟩ | exact Or.inr ⟨by omega, Or.inl ⟨by omega, by omega⟩⟩ | exact Or.inr ⟨by omega, Or.inr ⟨by omega, by omega, by omega⟩⟩), rfl, rfl⟩⟩ | exact ⟨_, _, _, Or.inr (Or.inr (Or.inl ⟨by omega, by omega, cutM_R zC (by first | exact Or.inl ⟨by omega, by omega⟩ | exact Or.inr ⟨by omega, Or.inl ⟨by omega, by omega⟩⟩ | exact Or.inr ⟨by omega, Or.inr ⟨by omega, by omega, by omega⟩⟩), rfl, rfl⟩))⟩ | exact ⟨_, _, _, Or.inr (Or.inr (Or.inr (Or.inl ⟨by omega, by omega, fmE_R zW (by first | exact Or.inl ⟨by omega, by omega⟩ | exact Or.inr ⟨by omega, Or.inl ⟨by omega, by omega⟩⟩ | exact Or.inr ⟨by omega, Or.inr ⟨by omega, by omega, by omega⟩⟩), rfl⟩)))⟩ | exact ⟨_, _, _, Or.inr (Or.inr (Or.inr (Or.inr (Or.inl ⟨by omega, by omega, joinM_R zJ (by first | exact Or.inl ⟨by omega, by omega⟩ | exact Or.inr ⟨by omega, Or.inl ⟨by omega, by omega⟩⟩ | exact Or.inr ⟨by omega, Or.inr ⟨by omega, by omega, by omega⟩⟩), fun q => absurd q (by omega), rfl⟩))))⟩ | exact ⟨_, _, _, Or.inr (Or.inr (Or.inr (Or.inr (Or.inr (Or.inl ⟨by omega, by omega, sumM_R zS (by first | exact Or.inl ⟨by omega, by omega⟩ | exact Or.inr ⟨by omega, Or.inl ⟨by omega, by omega⟩⟩ | exact Or.inr ⟨by omega, Or.inr ⟨by omega, by omega, by omega⟩⟩), rfl, rfl⟩)))))⟩ | exact ⟨0, 0, 0, Or.inr (Or.inl ⟨by omega, by omega, by omega⟩)⟩ | exact ⟨0, 0, 0, Or.inr (Or.inr (Or.inr (Or.inr (Or.inr (Or.inr (⟨by omega, by omega, by omega, by omega, by omega, by omega⟩))))))⟩ | omega) (by first | exact n_Ko_88_0 | omega | exact Or.inl ⟨by omega, fillM_R zF (by first | exact Or.inl ⟨by omega, by omega⟩ | exact Or.inr ⟨by omega, Or.inl ⟨by omega, by omega⟩⟩ | exact Or.inr ⟨by omega, Or.inr ⟨by omega, by omega, by omega⟩⟩), by omega, by omega⟩ | exact Or.inr (Or.inr (Or.inl ⟨by omega, by omega, cutM_R zC (by first | exact Or.inl ⟨by omega, by omega⟩ | exact Or.inr ⟨by omega, Or.inl ⟨by omega, by omega⟩⟩ | exact Or.inr ⟨by omega, Or.inr ⟨by omega, by omega, by omega⟩⟩), by first | omega | exact cw9, by omega⟩)) | exact Or.inr (Or.inr (Or.inr (Or.inl ⟨by omega, by omega, by first | (rw [cw9]; exact fmE_R zW (by first | exact Or.inl ⟨by omega, by omega⟩ | exact Or.inr ⟨by omega, Or.inl ⟨by omega, by omega⟩⟩ | exact Or.inr ⟨by omega, Or.inr ⟨by omega, by omega, by omega⟩⟩)) | exact fmE_R zW (by first | exact Or.inl ⟨by omega, by omega⟩ | exact Or.inr ⟨by omega, Or.inl ⟨by omega, by omega⟩⟩ | exact Or.inr ⟨by omega, Or.inr ⟨by omega, by omega, by omega⟩⟩), by omega⟩))) | exact Or.inr (Or.inr (Or.inr (Or.inr (Or.inl ⟨by omega, by omega, joinM_R zJ (by first | exact Or.inl ⟨by omega, by omega⟩ | exact Or.inr ⟨by omega, Or.inl ⟨by omega, by omega⟩⟩ | exact Or.inr ⟨by omega, Or.inr ⟨by omega, by omega, by omega⟩⟩), fun _ => by omega, by omega⟩)))) | exact Or.inr (Or.inr (Or.inr (Or.inr (Or.inr (Or.inl ⟨by omega, by omega, sumM_R zS (by first | exact Or.inl ⟨by omega, by omega⟩ | exact Or.inr ⟨by omega, Or.inl ⟨by omega, by omega⟩⟩ | exact Or.inr ⟨by omega, Or.inr ⟨by omega, by omega, by omega⟩⟩), by first | omega | exact cw9, by omega⟩))))) | exact ⟨_, _, _, Or.inl ⟨by omega, fillM_R zF (by first | exact Or.inl ⟨by omega, by omega⟩ | exact Or.inr ⟨by omega, Or.inl ⟨by omega, by omega⟩⟩ | exact Or.inr ⟨by omega, Or.inr ⟨by omega, by omega, by omega⟩⟩), rfl, rfl⟩⟩ | exact ⟨_, _, _, Or.inr (Or.inr (Or.inl ⟨by omega, by omega, cutM_R zC (by first | exact Or.inl ⟨by omega, by omega⟩ | exact Or.inr ⟨by omega, Or.inl ⟨by omega, by omega⟩⟩ | exact Or.inr ⟨by omega, Or.inr ⟨by omega, by omega, by omega⟩⟩), rfl, rfl⟩))⟩ | exact ⟨_, _, _, Or.inr (Or.inr (Or.inr (Or.inl ⟨by omega, by omega, fmE_R zW (by first | exact Or.inl ⟨by omega, by omega⟩ | exact Or.inr ⟨by omega, Or.inl ⟨by omega, by omega⟩⟩ | exact Or.inr ⟨by omega, Or.inr ⟨by omega, by omega, by omega⟩⟩), rfl⟩)))⟩ | exact ⟨_, _, _, Or.inr (Or.inr (Or.inr (Or.inr (Or.inl ⟨by omega, by omega, joinM_R zJ (by first | exact Or.inl ⟨by omega, by omega⟩ | exact Or.inr ⟨by omega, Or.inl ⟨by omega, by omega⟩⟩ | exact Or.inr ⟨by omega, Or.inr ⟨by omega, by omega, by omega⟩⟩), fun q => absurd q (by omega), rfl⟩))))⟩ | exact ⟨_, _, _, Or.inr (Or.inr (Or.inr (Or.inr (Or.inr (Or.inl ⟨by omega, by omega, sumM_R zS (by first | exact Or.inl ⟨by omega, by omega⟩ | exact Or.inr ⟨by omega, Or.inl ⟨by omega, by omega⟩⟩ | exact Or.inr ⟨by omega, Or.inr ⟨by omega, by omega, by omega⟩⟩), rfl, rfl⟩)))))⟩ | exact ⟨0, 0, 0, Or.inr (Or.inl ⟨by omega, by omega, by omega⟩)⟩ | exact ⟨0, 0, 0, Or.inr (Or.inr (Or.inr (Or.inr (Or.inr (Or.inr (⟨by omega, by omega, by omega, by omega, by omega, by omega⟩))))))⟩ | omega) n_Tok_88_0 n_Mq_88_0 n_Wrd_88_0 n_Wd9_88_0)
  refine w_aload_n gz_185_0 rfl ?_
  refine w_iconst gz_185_1 (by decide) ?_
  refine w_inv (k := 0) (as := [(0, 3)]) (r := []) (x := 151) (ls0 := [(2, 151), (0, 3)]) gz_185_2 gm_177 rfl is_151 rd_10 rfl rfl rfl rfl rfl (c_Model_isWord9_f0 (d := (d + 3)) (x1 := 3) (by omega) (by omega) (cf.trans (by omega)) n_Wd9 (fun w505 xp506 => ?_) (fun w507 xp508 xp509 xp510 xp511 => ?_))
  ·
    show wp l rho (d + 4) 185 5 [(2, 151), (9, 0), (9, 0), (9, 0), (9, 0), (9, 0), (9, 0), (9, 0)] [(0, 0)] h Q
    rw [show wm 3 = 4904 from by decide] at xp506
    refine w_istore_n (ls' := [(2, 151), (0, 0), (9, 0), (9, 0), (9, 0), (9, 0), (9, 0), (9, 0)]) gz_185_5 gm_185 rfl rfl rfl ?_
    refine w_aload_n gz_185_6 rfl ?_
    refine w_bipush gz_185_7 (by decide) ?_
    refine w_inv (k := 0) (as := [(0, 7)]) (r := []) (x := 151) (ls0 := [(2, 151), (0, 7)]) gz_185_9 gm_177 rfl is_151 rd_10 rfl rfl rfl rfl rfl (c_Model_isWord9_f0 (d := (d + 3)) (x1 := 7) (by omega) (by omega) (cf.trans (by omega)) n_Wd9 (fun w512 xp513 => ?_) (fun w514 xp515 xp516 xp517 xp518 => ?_))
    ·
      show wp l rho (d + 4) 185 12 [(2, 151), (0, 0), (9, 0), (9, 0), (9, 0), (9, 0), (9, 0), (9, 0)] [(0, 0)] h Q
      rw [show wm 7 = 8422 from by decide] at xp513
      refine w_istore_n (ls' := [(2, 151), (0, 0), (0, 0), (9, 0), (9, 0), (9, 0), (9, 0), (9, 0)]) gz_185_12 gm_185 rfl rfl rfl ?_
      refine w_aload_n gz_185_13 rfl ?_
      refine w_bipush gz_185_14 (by decide) ?_
      refine w_inv (k := 0) (as := [(0, 8)]) (r := []) (x := 151) (ls0 := [(2, 151), (0, 8)]) gz_185_16 gm_177 rfl is_151 rd_10 rfl rfl rfl rfl rfl (c_Model_isWord9_f0 (d := (d + 3)) (x1 := 8) (by omega) (by omega) (cf.trans (by omega)) n_Wd9 (fun w519 xp520 => ?_) (fun w521 xp522 xp523 xp524 xp525 => ?_))
      ·
        show wp l rho (d + 4) 185 19 [(2, 151), (0, 0), (0, 0), (9, 0), (9, 0), (9, 0), (9, 0), (9, 0)] [(0, 0)] h Q
        rw [show wm 8 = 527412 from by decide] at xp520
        refine w_istore_n (ls' := [(2, 151), (0, 0), (0, 0), (0, 0), (9, 0), (9, 0), (9, 0), (9, 0)]) gz_185_19 gm_185 rfl rfl rfl ?_
        refine w_aload_n gz_185_20 rfl ?_
        refine w_bipush gz_185_21 (by decide) ?_
        refine w_inv (k := 0) (as := [(0, 11)]) (r := []) (x := 151) (ls0 := [(2, 151), (0, 11)]) gz_185_23 gm_177 rfl is_151 rd_10 rfl rfl rfl rfl rfl (c_Model_isWord9_f0 (d := (d + 3)) (x1 := 11) (by omega) (by omega) (cf.trans (by omega)) n_Wd9 (fun w526 xp527 => ?_) (fun w528 xp529 xp530 xp531 xp532 => ?_))
        ·
          show wp l rho (d + 4) 185 26 [(2, 151), (0, 0), (0, 0), (0, 0), (9, 0), (9, 0), (9, 0), (9, 0)] [(0, 0)] h Q
          rw [show wm 11 = 26801 from by decide] at xp527
          refine w_istore (ls' := [(2, 151), (0, 0), (0, 0), (0, 0), (0, 0), (9, 0), (9, 0), (9, 0)]) gz_185_26 gm_185 rfl rfl rfl ?_
          refine w_iload_n gz_185_28 rfl ?_
          refine w_ifne (t := 62) gz_185_29 rfl (fun u533 => by exfalso; omega) (fun u533 => ?_)
          refine w_iload_n gz_185_32 rfl ?_
          refine w_ifne (t := 62) gz_185_33 rfl (fun u534 => by exfalso; omega) (fun u534 => ?_)
          refine w_iload_n gz_185_36 rfl ?_
          refine w_ifne (t := 62) gz_185_37 rfl (fun u535 => by exfalso; omega) (fun u535 => ?_)
          refine w_iload gz_185_40 rfl ?_
          refine w_ifne (t := 62) gz_185_42 rfl (fun u536 => by exfalso; omega) (fun u536 => ?_)
          refine w_aload_n gz_185_45 rfl ?_
          refine w_bipush gz_185_46 (by decide) ?_
          refine w_inv (k := 0) (as := [(0, 10)]) (r := []) (x := 151) (ls0 := [(2, 151), (0, 10)]) gz_185_48 gm_177 rfl is_151 rd_10 rfl rfl rfl rfl rfl (c_Model_isWord9_f0 (d := (d + 3)) (x1 := 10) (by omega) (by omega) (cf.trans (by omega)) n_Wd9 (fun w537 xp538 => ?_) (fun w539 xp540 xp541 xp542 xp543 => ?_))
          ·
            show wp l rho (d + 4) 185 51 [(2, 151), (0, 0), (0, 0), (0, 0), (0, 0), (9, 0), (9, 0), (9, 0)] [(0, 0)] h Q
            rw [show wm 10 = 316695 from by decide] at xp538
            refine w_ifne (t := 62) gz_185_51 rfl (fun u544 => by exfalso; omega) (fun u544 => ?_)
            refine w_aload_n gz_185_54 rfl ?_
            refine w_iconst gz_185_55 (by decide) ?_
            refine w_inv (k := 0) (as := [(0, 1)]) (r := []) (x := 151) (ls0 := [(2, 151), (0, 1)]) gz_185_56 gm_178 rfl is_151 rd_10 rfl rfl rfl rfl rfl ?_
            refine w_aload_n gz_178_0 rfl ?_
            refine v_getI (j := 8) gz_178_1 rfl is_151 rd_10 rfl (fun v545 ev545 pv545 qv545 => ?_)
            have zv545 := ev545.trans cf
            refine w_ifne (t := 25) gz_178_4 rfl (fun u546 => by exfalso; omega) (fun u546 => ?_)
            refine w_aload_n gz_178_7 rfl ?_
            refine w_iload_n gz_178_8 rfl ?_
            refine w_bipush gz_178_9 (by decide) ?_
            refine w_aload_n gz_178_11 rfl ?_
            refine w_getX (v := 154) gz_178_12 is_151 rd_10 rfl (by decide) rfl ?_
            refine w_aload_n gz_178_15 rfl ?_
            refine v_getI (j := 7) gz_178_16 rfl is_151 rd_10 rfl (fun v548 ev548 pv548 qv548 => ?_)
            have zv548 := ev548.trans ek151_7.symm
            refine w_iald gz_178_19 is_154 rd_53 (by omega) (by omega) (fun v549 ev549 pv549 qv549 => ?_)
            have nz550 : v549 = sP (sm h) (h 151 7) := by
              have q := ev549
              rw [show (v548 : Int) = h 151 7 from by omega] at q
              exact q
            refine w_imul gz_178_20 ⟨by omega, by omega⟩ ?_
            refine w_iadd gz_178_21 ⟨by omega, by omega⟩ ?_
            refine v_putI (j := 8) gz_178_22 rfl is_151 rd_10 rfl (by omega) (by omega) rfl (fun h551 fh551 => ?_)
            have gh551 : my_fr [(10, 7), (10, 8), (10, 27), (66, -1), (67, -1), (68, -1), (69, -1), (70, -1), (71, -1), (72, -1), (73, -1), (74, -1), (75, -1), (77, -1), (78, -1), (79, -1)] h h551 := my_fr.up my_fr.rf is_151 fh551 rfl
            have Tok_h551 : Tok h551 := Tok_ag (my_ag.up fh551 is_151 rfl) n_Tok
            have Mq_h551 : Mq h551 wv := Mq_ag (my_ag.up fh551 is_151 rfl) n_Mq
            have Wrd_h551 : Wrd h551 := Wrd_ag (my_ag.up fh551 is_151 rfl) n_Wrd
            have Wd9_h551 : Wd9 h551 := Wd9_ag (my_ag.up fh551 is_151 rfl) n_Wd9
            have Ko_h551 : Ko h h551 := Ko_ag (my_ag.up fh551 is_151 rfl) (Ko_rf)
            refine w_vret gz_178_25 gm_178 ?_
            show wp l rho (d + 4) 185 59 [(2, 151), (0, 0), (0, 0), (0, 0), (0, 0), (9, 0), (9, 0), (9, 0)] [] h551 Q
            refine w_goto (t := 88) gz_185_59 rfl ?_
            have psJ : h551 151 7 = h 151 7 := ((my_up_fld fh551 (by decide)).trans (rfl : h 151 7 = h 151 7))
            have npsJ : sm h551 = sm h := sm_eq (fun j => my_fr.at gh551 is_153 rfl) (fun j => my_fr.at gh551 is_154 rfl) (fun j => my_fr.at gh551 is_155 rfl)
            have ce552 : h551 151 7 = v548 := ((my_up_fld fh551 (by decide)).trans ev548.symm)
            have ce553 : h551 151 8 = (1 + (16 * v549)) := (my_up_self fh551)
            have ce554 : h551 151 27 = k151_27 := ((my_up_fld fh551 (by decide)).trans ek151_27.symm)
            have j167 : ∀ j : Int, h551 167 j = h 167 j := fun j => ((my_up_role fh551 is_167 is_151 rfl).trans (rfl : h 167 j = h 167 j))
            have j6 := j167 6
            exact J88_0 (0) (0) (0) (0) ((1 + (16 * v549))) h551 (gh551) (by omega) (by omega) (by omega) (by omega) (by omega) (by omega) (by omega) (by omega) (by omega) (by omega) (((my_up_fld fh551 (by decide)).trans ek151_27.symm).trans (by omega)) (((my_up_fld fh551 (by decide)).trans ek151_33.symm).trans (by omega)) (((my_up_fld fh551 (by decide)).trans ev548.symm).trans (by omega)) ((my_up_self fh551).trans (by omega)) Tok_h551 Mq_h551 Wrd_h551 Wd9_h551 Ko_h551 (by first | (intro q; exfalso; omega) | (intro _; assumption) | omega) (by first | (intro q; exfalso; omega) | (intro _ q; omega) | (intro _ q; exfalso; have w := Wrd_h551; unfold Wrd at w; omega) | omega) (by omega) (by omega) (by omega) (by first | (intro q; exfalso; omega) | (intro q; omega) | omega) (by first | (intro q; exfalso; omega) | (intro q; omega) | omega)
          ·
            show wp l rho (d + 4) 185 51 [(2, 151), (0, 0), (0, 0), (0, 0), (0, 0), (9, 0), (9, 0), (9, 0)] [(0, 1)] h Q
            rw [show wm 10 = 316695 from by decide] at xp543
            refine w_ifne (t := 62) gz_185_51 rfl (fun u555 => ?_) (fun u555 => by exfalso; omega)
            refine w_aload_n gz_185_62 rfl ?_
            refine w_bipush gz_185_63 (by decide) ?_
            refine w_inv (k := 0) (as := [(0, 10)]) (r := []) (x := 151) (ls0 := [(2, 151), (0, 10)]) gz_185_65 gm_177 rfl is_151 rd_10 rfl rfl rfl rfl rfl (c_Model_isWord9_f0 (d := (d + 3)) (x1 := 10) (by omega) (by omega) (cf.trans (by omega)) n_Wd9 (fun w556 xp557 => ?_) (fun w558 xp559 xp560 xp561 xp562 => ?_))
            ·
              show wp l rho (d + 4) 185 68 [(2, 151), (0, 0), (0, 0), (0, 0), (0, 0), (9, 0), (9, 0), (9, 0)] [(0, 0)] h Q
              rw [show wm 10 = 316695 from by decide] at xp557
              refine w_ifne (t := 88) gz_185_68 rfl (fun u563 => by exfalso; omega) (fun u563 => ?_)
              refine w_aload_n gz_185_71 rfl ?_
              refine w_getX (v := 167) gz_185_72 is_151 rd_10 rfl (by decide) rfl ?_
              refine w_bipush gz_185_75 (by decide) ?_
              refine w_iald gz_185_77 is_167 rd_66 (by omega) (by omega) (fun v565 ev565 pv565 qv565 => ?_)
              refine w_bipush gz_185_78 (by decide) ?_
              refine w_icne (t := 88) gz_185_80 rfl (fun u566 => ?_) (fun u566 => ?_)
              ·
                have psJ : h 151 7 = h 151 7 := (rfl : h 151 7 = h 151 7)
                have npsJ : sm h = sm h := rfl
                have ce567 : h 151 7 = k151_7 := ek151_7.symm
                have ce568 : h 151 8 = 0 := cf
                have ce569 : h 151 27 = k151_27 := ek151_27.symm
                have j167 : ∀ j : Int, h 167 j = h 167 j := fun _ => rfl
                have j6 := j167 6
                exact J88_0 (0) (0) (0) (0) (0) h (my_fr.rf) (by omega) (by omega) (by omega) (by omega) (by omega) (by omega) (by omega) (by omega) (by omega) (by omega) (ek151_27.symm.trans (by omega)) (ek151_33.symm.trans (by omega)) (ek151_7.symm.trans (by omega)) (cf.trans (by omega)) n_Tok n_Mq n_Wrd n_Wd9 (Ko_rf) (by first | (intro q; exfalso; omega) | (intro _; assumption) | omega) (by first | (intro q; exfalso; omega) | (intro _ q; omega) | (intro _ q; exfalso; have w := n_Wrd; unfold Wrd at w; omega) | omega) (by omega) (by omega) (by omega) (by first | (intro q; exfalso; omega) | (intro q; omega) | omega) (by first | (intro q; exfalso; omega) | (intro q; omega) | omega)
              ·
                refine w_aload_n gz_185_83 rfl ?_
                refine w_iconst gz_185_84 (by decide) ?_
                refine w_inv (k := 0) (as := [(0, 5)]) (r := []) (x := 151) (ls0 := [(2, 151), (0, 5)]) gz_185_85 gm_178 rfl is_151 rd_10 rfl rfl rfl rfl rfl ?_
                refine w_aload_n gz_178_0 rfl ?_
                refine v_getI (j := 8) gz_178_1 rfl is_151 rd_10 rfl (fun v570 ev570 pv570 qv570 => ?_)
                have zv570 := ev570.trans cf
                refine w_ifne (t := 25) gz_178_4 rfl (fun u571 => by exfalso; omega) (fun u571 => ?_)
                refine w_aload_n gz_178_7 rfl ?_
                refine w_iload_n gz_178_8 rfl ?_
                refine w_bipush gz_178_9 (by decide) ?_
                refine w_aload_n gz_178_11 rfl ?_
                refine w_getX (v := 154) gz_178_12 is_151 rd_10 rfl (by decide) rfl ?_
                refine w_aload_n gz_178_15 rfl ?_
                refine v_getI (j := 7) gz_178_16 rfl is_151 rd_10 rfl (fun v573 ev573 pv573 qv573 => ?_)
                have zv573 := ev573.trans ek151_7.symm
                refine w_iald gz_178_19 is_154 rd_53 (by omega) (by omega) (fun v574 ev574 pv574 qv574 => ?_)
                have nz575 : v574 = sP (sm h) (h 151 7) := by
                  have q := ev574
                  rw [show (v573 : Int) = h 151 7 from by omega] at q
                  exact q
                refine w_imul gz_178_20 ⟨by omega, by omega⟩ ?_
                refine w_iadd gz_178_21 ⟨by omega, by omega⟩ ?_
                refine v_putI (j := 8) gz_178_22 rfl is_151 rd_10 rfl (by omega) (by omega) rfl (fun h576 fh576 => ?_)
                have gh576 : my_fr [(10, 7), (10, 8), (10, 27), (66, -1), (67, -1), (68, -1), (69, -1), (70, -1), (71, -1), (72, -1), (73, -1), (74, -1), (75, -1), (77, -1), (78, -1), (79, -1)] h h576 := my_fr.up my_fr.rf is_151 fh576 rfl
                have Tok_h576 : Tok h576 := Tok_ag (my_ag.up fh576 is_151 rfl) n_Tok
                have Mq_h576 : Mq h576 wv := Mq_ag (my_ag.up fh576 is_151 rfl) n_Mq
                have Wrd_h576 : Wrd h576 := Wrd_ag (my_ag.up fh576 is_151 rfl) n_Wrd
                have Wd9_h576 : Wd9 h576 := Wd9_ag (my_ag.up fh576 is_151 rfl) n_Wd9
                have Ko_h576 : Ko h h576 := Ko_ag (my_ag.up fh576 is_151 rfl) (Ko_rf)
                refine w_vret gz_178_25 gm_178 ?_
                show wp l rho (d + 4) 185 88 [(2, 151), (0, 0), (0, 0), (0, 0), (0, 0), (9, 0), (9, 0), (9, 0)] [] h576 Q
                have psJ : h576 151 7 = h 151 7 := ((my_up_fld fh576 (by decide)).trans (rfl : h 151 7 = h 151 7))
                have npsJ : sm h576 = sm h := sm_eq (fun j => my_fr.at gh576 is_153 rfl) (fun j => my_fr.at gh576 is_154 rfl) (fun j => my_fr.at gh576 is_155 rfl)
                have ce577 : h576 151 7 = v573 := ((my_up_fld fh576 (by decide)).trans ev573.symm)
                have ce578 : h576 151 8 = (5 + (16 * v574)) := (my_up_self fh576)
                have ce579 : h576 151 27 = k151_27 := ((my_up_fld fh576 (by decide)).trans ek151_27.symm)
                have j167 : ∀ j : Int, h576 167 j = h 167 j := fun j => ((my_up_role fh576 is_167 is_151 rfl).trans (rfl : h 167 j = h 167 j))
                have j6 := j167 6
                exact J88_0 (0) (0) (0) (0) ((5 + (16 * v574))) h576 (gh576) (by omega) (by omega) (by omega) (by omega) (by omega) (by omega) (by omega) (by omega) (by omega) (by omega) (((my_up_fld fh576 (by decide)).trans ek151_27.symm).trans (by omega)) (((my_up_fld fh576 (by decide)).trans ek151_33.symm).trans (by omega)) (((my_up_fld fh576 (by decide)).trans ev573.symm).trans (by omega)) ((my_up_self fh576).trans (by omega)) Tok_h576 Mq_h576 Wrd_h576 Wd9_h576 Ko_h576 (by first | (intro q; exfalso; omega) | (intro _; assumption) | omega) (by first | (intro q; exfalso; omega) | (intro _ q; omega) | (intro _ q; exfalso; have w := Wrd_h576; unfold Wrd at w; omega) | omega) (by omega) (by omega) (by omega) (by first | (intro q; exfalso; omega) | (intro q; omega) | omega) (by first | (intro q; exfalso; omega) | (intro q; omega) | omega)
            ·
              show wp l rho (d + 4) 185 68 [(2, 151), (0, 0), (0, 0), (0, 0), (0, 0), (9, 0), (9, 0), (9, 0)] [(0, 1)] h Q
              rw [show wm 10 = 316695 from by decide] at xp562
              refine w_ifne (t := 88) gz_185_68 rfl (fun u580 => ?_) (fun u580 => by exfalso; omega)
              have psJ : h 151 7 = h 151 7 := (rfl : h 151 7 = h 151 7)
              have npsJ : sm h = sm h := rfl
              have ce581 : h 151 7 = k151_7 := ek151_7.symm
              have ce582 : h 151 8 = 0 := cf
              have ce583 : h 151 27 = k151_27 := ek151_27.symm
              have j167 : ∀ j : Int, h 167 j = h 167 j := fun _ => rfl
              have j6 := j167 6
              exact J88_0 (0) (0) (0) (0) (0) h (my_fr.rf) (by omega) (by omega) (by omega) (by omega) (by omega) (by omega) (by omega) (by omega) (by omega) (by omega) (ek151_27.symm.trans (by omega)) (ek151_33.symm.trans (by omega)) (ek151_7.symm.trans (by omega)) (cf.trans (by omega)) n_Tok n_Mq n_Wrd n_Wd9 (Ko_rf) (by first | (intro q; exfalso; omega) | (intro _; assumption) | omega) (by first | (intro q; exfalso; omega) | (intro _ q; omega) | (intro _ q; exfalso; have w := n_Wrd; unfold Wrd at w; omega) | omega) (by omega) (by omega) (by omega) (by first | (intro q; exfalso; omega) | (intro q; omega) | omega) (by first | (intro q; exfalso; omega) | (intro q; omega) | omega)
        ·
          show wp l rho (d + 4) 185 26 [(2, 151), (0, 0), (0, 0), (0, 0), (9, 0), (9, 0), (9, 0), (9, 0)] [(0, 1)] h Q
          rw [show wm 11 = 26801 from by decide] at xp532
          refine w_istore (ls' := [(2, 151), (0, 0), (0, 0), (0, 0), (0, 1), (9, 0), (9, 0), (9, 0)]) gz_185_26 gm_185 rfl rfl rfl ?_
          refine w_iload_n gz_185_28 rfl ?_
          refine w_ifne (t := 62) gz_185_29 rfl (fun u584 => by exfalso; omega) (fun u584 => ?_)
          refine w_iload_n gz_185_32 rfl ?_
          refine w_ifne (t := 62) gz_185_33 rfl (fun u585 => by exfalso; omega) (fun u585 => ?_)
          refine w_iload_n gz_185_36 rfl ?_
          refine w_ifne (t := 62) gz_185_37 rfl (fun u586 => by exfalso; omega) (fun u586 => ?_)
          refine w_iload gz_185_40 rfl ?_
          refine w_ifne (t := 62) gz_185_42 rfl (fun u587 => ?_) (fun u587 => by exfalso; omega)
          refine w_aload_n gz_185_62 rfl ?_
          refine w_bipush gz_185_63 (by decide) ?_
          refine w_inv (k := 0) (as := [(0, 10)]) (r := []) (x := 151) (ls0 := [(2, 151), (0, 10)]) gz_185_65 gm_177 rfl is_151 rd_10 rfl rfl rfl rfl rfl (c_Model_isWord9_f0 (d := (d + 3)) (x1 := 10) (by omega) (by omega) (cf.trans (by omega)) n_Wd9 (fun w588 xp589 => ?_) (fun w590 xp591 xp592 xp593 xp594 => ?_))
          ·
            show wp l rho (d + 4) 185 68 [(2, 151), (0, 0), (0, 0), (0, 0), (0, 1), (9, 0), (9, 0), (9, 0)] [(0, 0)] h Q
            rw [show wm 10 = 316695 from by decide] at xp589
            refine w_ifne (t := 88) gz_185_68 rfl (fun u595 => by exfalso; omega) (fun u595 => ?_)
            refine w_aload_n gz_185_71 rfl ?_
            refine w_getX (v := 167) gz_185_72 is_151 rd_10 rfl (by decide) rfl ?_
            refine w_bipush gz_185_75 (by decide) ?_
            refine w_iald gz_185_77 is_167 rd_66 (by omega) (by omega) (fun v597 ev597 pv597 qv597 => ?_)
            refine w_bipush gz_185_78 (by decide) ?_
            refine w_icne (t := 88) gz_185_80 rfl (fun u598 => ?_) (fun u598 => ?_)
            ·
              have psJ : h 151 7 = h 151 7 := (rfl : h 151 7 = h 151 7)
              have npsJ : sm h = sm h := rfl
              have ce599 : h 151 7 = k151_7 := ek151_7.symm
              have ce600 : h 151 8 = 0 := cf
              have ce601 : h 151 27 = k151_27 := ek151_27.symm
              have j167 : ∀ j : Int, h 167 j = h 167 j := fun _ => rfl
              have j6 := j167 6
              exact J88_0 (0) (0) (0) (1) (0) h (my_fr.rf) (by omega) (by omega) (by omega) (by omega) (by omega) (by omega) (by omega) (by omega) (by omega) (by omega) (ek151_27.symm.trans (by omega)) (ek151_33.symm.trans (by omega)) (ek151_7.symm.trans (by omega)) (cf.trans (by omega)) n_Tok n_Mq n_Wrd n_Wd9 (Ko_rf) (by first | (intro q; exfalso; omega) | (intro _; assumption) | omega) (by first | (intro q; exfalso; omega) | (intro _ q; omega) | (intro _ q; exfalso; have w := n_Wrd; unfold Wrd at w; omega) | omega) (by omega) (by omega) (by omega) (by first | (intro q; exfalso; omega) | (intro q; omega) | omega) (by first | (intro q; exfalso; omega) | (intro q; omega) | omega)
            ·
              refine w_aload_n gz_185_83 rfl ?_
              refine w_iconst gz_185_84 (by decide) ?_
              refine w_inv (k := 0) (as := [(0, 5)]) (r := []) (x := 151) (ls0 := [(2, 151), (0, 5)]) gz_185_85 gm_178 rfl is_151 rd_10 rfl rfl rfl rfl rfl ?_
              refine w_aload_n gz_178_0 rfl ?_
              refine v_getI (j := 8) gz_178_1 rfl is_151 rd_10 rfl (fun v602 ev602 pv602 qv602 => ?_)
              have zv602 := ev602.trans cf
              refine w_ifne (t := 25) gz_178_4 rfl (fun u603 => by exfalso; omega) (fun u603 => ?_)
              refine w_aload_n gz_178_7 rfl ?_
              refine w_iload_n gz_178_8 rfl ?_
              refine w_bipush gz_178_9 (by decide) ?_
              refine w_aload_n gz_178_11 rfl ?_
              refine w_getX (v := 154) gz_178_12 is_151 rd_10 rfl (by decide) rfl ?_
              refine w_aload_n gz_178_15 rfl ?_
              refine v_getI (j := 7) gz_178_16 rfl is_151 rd_10 rfl (fun v605 ev605 pv605 qv605 => ?_)
              have zv605 := ev605.trans ek151_7.symm
              refine w_iald gz_178_19 is_154 rd_53 (by omega) (by omega) (fun v606 ev606 pv606 qv606 => ?_)
              have nz607 : v606 = sP (sm h) (h 151 7) := by
                have q := ev606
                rw [show (v605 : Int) = h 151 7 from by omega] at q
                exact q
              refine w_imul gz_178_20 ⟨by omega, by omega⟩ ?_
              refine w_iadd gz_178_21 ⟨by omega, by omega⟩ ?_
              refine v_putI (j := 8) gz_178_22 rfl is_151 rd_10 rfl (by omega) (by omega) rfl (fun h608 fh608 => ?_)
              have gh608 : my_fr [(10, 7), (10, 8), (10, 27), (66, -1), (67, -1), (68, -1), (69, -1), (70, -1), (71, -1), (72, -1), (73, -1), (74, -1), (75, -1), (77, -1), (78, -1), (79, -1)] h h608 := my_fr.up my_fr.rf is_151 fh608 rfl
              have Tok_h608 : Tok h608 := Tok_ag (my_ag.up fh608 is_151 rfl) n_Tok
              have Mq_h608 : Mq h608 wv := Mq_ag (my_ag.up fh608 is_151 rfl) n_Mq
              have Wrd_h608 : Wrd h608 := Wrd_ag (my_ag.up fh608 is_151 rfl) n_Wrd
              have Wd9_h608 : Wd9 h608 := Wd9_ag (my_ag.up fh608 is_151 rfl) n_Wd9
              have Ko_h608 : Ko h h608 := Ko_ag (my_ag.up fh608 is_151 rfl) (Ko_rf)
              refine w_vret gz_178_25 gm_178 ?_
              show wp l rho (d + 4) 185 88 [(2, 151), (0, 0), (0, 0), (0, 0), (0, 1), (9, 0), (9, 0), (9, 0)] [] h608 Q
              have psJ : h608 151 7 = h 151 7 := ((my_up_fld fh608 (by decide)).trans (rfl : h 151 7 = h 151 7))
              have npsJ : sm h608 = sm h := sm_eq (fun j => my_fr.at gh608 is_153 rfl) (fun j => my_fr.at gh608 is_154 rfl) (fun j => my_fr.at gh608 is_155 rfl)
              have ce609 : h608 151 7 = v605 := ((my_up_fld fh608 (by decide)).trans ev605.symm)
              have ce610 : h608 151 8 = (5 + (16 * v606)) := (my_up_self fh608)
              have ce611 : h608 151 27 = k151_27 := ((my_up_fld fh608 (by decide)).trans ek151_27.symm)
              have j167 : ∀ j : Int, h608 167 j = h 167 j := fun j => ((my_up_role fh608 is_167 is_151 rfl).trans (rfl : h 167 j = h 167 j))
              have j6 := j167 6
              exact J88_0 (0) (0) (0) (1) ((5 + (16 * v606))) h608 (gh608) (by omega) (by omega) (by omega) (by omega) (by omega) (by omega) (by omega) (by omega) (by omega) (by omega) (((my_up_fld fh608 (by decide)).trans ek151_27.symm).trans (by omega)) (((my_up_fld fh608 (by decide)).trans ek151_33.symm).trans (by omega)) (((my_up_fld fh608 (by decide)).trans ev605.symm).trans (by omega)) ((my_up_self fh608).trans (by omega)) Tok_h608 Mq_h608 Wrd_h608 Wd9_h608 Ko_h608 (by first | (intro q; exfalso; omega) | (intro _; assumption) | omega) (by first | (intro q; exfalso; omega) | (intro _ q; omega) | (intro _ q; exfalso; have w := Wrd_h608; unfold Wrd at w; omega) | omega) (by omega) (by omega) (by omega) (by first | (intro q; exfalso; omega) | (intro q; omega) | omega) (by first | (intro q; exfalso; omega) | (intro q; omega) | omega)
          ·
            show wp l rho (d + 4) 185 68 [(2, 151), (0, 0), (0, 0), (0, 0), (0, 1), (9, 0), (9, 0), (9, 0)] [(0, 1)] h Q
            rw [show wm 10 = 316695 from by decide] at xp594
            refine w_ifne (t := 88) gz_185_68 rfl (fun u612 => ?_) (fun u612 => by exfalso; omega)
            have psJ : h 151 7 = h 151 7 := (rfl : h 151 7 = h 151 7)
            have npsJ : sm h = sm h := rfl
            have ce613 : h 151 7 = k151_7 := ek151_7.symm
            have ce614 : h 151 8 = 0 := cf
            have ce615 : h 151 27 = k151_27 := ek151_27.symm
            have j167 : ∀ j : Int, h 167 j = h 167 j := fun _ => rfl
            have j6 := j167 6
            exact J88_0 (0) (0) (0) (1) (0) h (my_fr.rf) (by omega) (by omega) (by omega) (by omega) (by omega) (by omega) (by omega) (by omega) (by omega) (by omega) (ek151_27.symm.trans (by omega)) (ek151_33.symm.trans (by omega)) (ek151_7.symm.trans (by omega)) (cf.trans (by omega)) n_Tok n_Mq n_Wrd n_Wd9 (Ko_rf) (by first | (intro q; exfalso; omega) | (intro _; assumption) | omega) (by first | (intro q; exfalso; omega) | (intro _ q; omega) | (intro _ q; exfalso; have w := n_Wrd; unfold Wrd at w; omega) | omega) (by omega) (by omega) (by omega) (by first | (intro q; exfalso; omega) | (intro q; omega) | omega) (by first | (intro q; exfalso; omega) | (intro q; omega) | omega)
      ·
        show wp l rho (d + 4) 185 19 [(2, 151), (0, 0), (0, 0), (9, 0), (9, 0), (9, 0), (9, 0), (9, 0)] [(0, 1)] h Q
        rw [show wm 8 = 527412 from by decide] at xp525
        refine w_istore_n (ls' := [(2, 151), (0, 0), (0, 0), (0, 1), (9, 0), (9, 0), (9, 0), (9, 0)]) gz_185_19 gm_185 rfl rfl rfl ?_
        refine w_aload_n gz_185_20 rfl ?_
        refine w_bipush gz_185_21 (by decide) ?_
        refine w_inv (k := 0) (as := [(0, 11)]) (r := []) (x := 151) (ls0 := [(2, 151), (0, 11)]) gz_185_23 gm_177 rfl is_151 rd_10 rfl rfl rfl rfl rfl (c_Model_isWord9_f0 (d := (d + 3)) (x1 := 11) (by omega) (by omega) (cf.trans (by omega)) n_Wd9 (fun w616 xp617 => ?_) (fun w618 xp619 xp620 xp621 xp622 => ?_))
        ·
          show wp l rho (d + 4) 185 26 [(2, 151), (0, 0), (0, 0), (0, 1), (9, 0), (9, 0), (9, 0), (9, 0)] [(0, 0)] h Q
          rw [show wm 11 = 26801 from by decide] at xp617
          refine w_istore (ls' := [(2, 151), (0, 0), (0, 0), (0, 1), (0, 0), (9, 0), (9, 0), (9, 0)]) gz_185_26 gm_185 rfl rfl rfl ?_
          refine w_iload_n gz_185_28 rfl ?_
          refine w_ifne (t := 62) gz_185_29 rfl (fun u623 => by exfalso; omega) (fun u623 => ?_)
          refine w_iload_n gz_185_32 rfl ?_
          refine w_ifne (t := 62) gz_185_33 rfl (fun u624 => by exfalso; omega) (fun u624 => ?_)
          refine w_iload_n gz_185_36 rfl ?_
          refine w_ifne (t := 62) gz_185_37 rfl (fun u625 => ?_) (fun u625 => by exfalso; omega)
          refine w_aload_n gz_185_62 rfl ?_
          refine w_bipush gz_185_63 (by decide) ?_
          refine w_inv (k := 0) (as := [(0, 10)]) (r := []) (x := 151) (ls0 := [(2, 151), (0, 10)]) gz_185_65 gm_177 rfl is_151 rd_10 rfl rfl rfl rfl rfl (c_Model_isWord9_f0 (d := (d + 3)) (x1 := 10) (by omega) (by omega) (cf.trans (by omega)) n_Wd9 (fun w626 xp627 => ?_) (fun w628 xp629 xp630 xp631 xp632 => ?_))
          ·
            show wp l rho (d + 4) 185 68 [(2, 151), (0, 0), (0, 0), (0, 1), (0, 0), (9, 0), (9, 0), (9, 0)] [(0, 0)] h Q
            rw [show wm 10 = 316695 from by decide] at xp627
            refine w_ifne (t := 88) gz_185_68 rfl (fun u633 => by exfalso; omega) (fun u633 => ?_)
            refine w_aload_n gz_185_71 rfl ?_
            refine w_getX (v := 167) gz_185_72 is_151 rd_10 rfl (by decide) rfl ?_
            refine w_bipush gz_185_75 (by decide) ?_
            refine w_iald gz_185_77 is_167 rd_66 (by omega) (by omega) (fun v635 ev635 pv635 qv635 => ?_)
            refine w_bipush gz_185_78 (by decide) ?_
            refine w_icne (t := 88) gz_185_80 rfl (fun u636 => ?_) (fun u636 => ?_)
            ·
              have psJ : h 151 7 = h 151 7 := (rfl : h 151 7 = h 151 7)
              have npsJ : sm h = sm h := rfl
              have ce637 : h 151 7 = k151_7 := ek151_7.symm
              have ce638 : h 151 8 = 0 := cf
              have ce639 : h 151 27 = k151_27 := ek151_27.symm
              have j167 : ∀ j : Int, h 167 j = h 167 j := fun _ => rfl
              have j6 := j167 6
              exact J88_0 (0) (0) (1) (0) (0) h (my_fr.rf) (by omega) (by omega) (by omega) (by omega) (by omega) (by omega) (by omega) (by omega) (by omega) (by omega) (ek151_27.symm.trans (by omega)) (ek151_33.symm.trans (by omega)) (ek151_7.symm.trans (by omega)) (cf.trans (by omega)) n_Tok n_Mq n_Wrd n_Wd9 (Ko_rf) (by first | (intro q; exfalso; omega) | (intro _; assumption) | omega) (by first | (intro q; exfalso; omega) | (intro _ q; omega) | (intro _ q; exfalso; have w := n_Wrd; unfold Wrd at w; omega) | omega) (by omega) (by omega) (by omega) (by first | (intro q; exfalso; omega) | (intro q; omega) | omega) (by first | (intro q; exfalso; omega) | (intro q; omega) | omega)
            ·
              refine w_aload_n gz_185_83 rfl ?_
              refine w_iconst gz_185_84 (by decide) ?_
              refine w_inv (k := 0) (as := [(0, 5)]) (r := []) (x := 151) (ls0 := [(2, 151), (0, 5)]) gz_185_85 gm_178 rfl is_151 rd_10 rfl rfl rfl rfl rfl ?_
              refine w_aload_n gz_178_0 rfl ?_
              refine v_getI (j := 8) gz_178_1 rfl is_151 rd_10 rfl (fun v640 ev640 pv640 qv640 => ?_)
              have zv640 := ev640.trans cf
              refine w_ifne (t := 25) gz_178_4 rfl (fun u641 => by exfalso; omega) (fun u641 => ?_)
              refine w_aload_n gz_178_7 rfl ?_
              refine w_iload_n gz_178_8 rfl ?_
              refine w_bipush gz_178_9 (by decide) ?_
              refine w_aload_n gz_178_11 rfl ?_
              refine w_getX (v := 154) gz_178_12 is_151 rd_10 rfl (by decide) rfl ?_
              refine w_aload_n gz_178_15 rfl ?_
              refine v_getI (j := 7) gz_178_16 rfl is_151 rd_10 rfl (fun v643 ev643 pv643 qv643 => ?_)
              have zv643 := ev643.trans ek151_7.symm
              refine w_iald gz_178_19 is_154 rd_53 (by omega) (by omega) (fun v644 ev644 pv644 qv644 => ?_)
              have nz645 : v644 = sP (sm h) (h 151 7) := by
                have q := ev644
                rw [show (v643 : Int) = h 151 7 from by omega] at q
                exact q
              refine w_imul gz_178_20 ⟨by omega, by omega⟩ ?_
              refine w_iadd gz_178_21 ⟨by omega, by omega⟩ ?_
              refine v_putI (j := 8) gz_178_22 rfl is_151 rd_10 rfl (by omega) (by omega) rfl (fun h646 fh646 => ?_)
              have gh646 : my_fr [(10, 7), (10, 8), (10, 27), (66, -1), (67, -1), (68, -1), (69, -1), (70, -1), (71, -1), (72, -1), (73, -1), (74, -1), (75, -1), (77, -1), (78, -1), (79, -1)] h h646 := my_fr.up my_fr.rf is_151 fh646 rfl
              have Tok_h646 : Tok h646 := Tok_ag (my_ag.up fh646 is_151 rfl) n_Tok
              have Mq_h646 : Mq h646 wv := Mq_ag (my_ag.up fh646 is_151 rfl) n_Mq
              have Wrd_h646 : Wrd h646 := Wrd_ag (my_ag.up fh646 is_151 rfl) n_Wrd
              have Wd9_h646 : Wd9 h646 := Wd9_ag (my_ag.up fh646 is_151 rfl) n_Wd9
              have Ko_h646 : Ko h h646 := Ko_ag (my_ag.up fh646 is_151 rfl) (Ko_rf)
              refine w_vret gz_178_25 gm_178 ?_
              show wp l rho (d + 4) 185 88 [(2, 151), (0, 0), (0, 0), (0, 1), (0, 0), (9, 0), (9, 0), (9, 0)] [] h646 Q
              have psJ : h646 151 7 = h 151 7 := ((my_up_fld fh646 (by decide)).trans (rfl : h 151 7 = h 151 7))
              have npsJ : sm h646 = sm h := sm_eq (fun j => my_fr.at gh646 is_153 rfl) (fun j => my_fr.at gh646 is_154 rfl) (fun j => my_fr.at gh646 is_155 rfl)
              have ce647 : h646 151 7 = v643 := ((my_up_fld fh646 (by decide)).trans ev643.symm)
              have ce648 : h646 151 8 = (5 + (16 * v644)) := (my_up_self fh646)
              have ce649 : h646 151 27 = k151_27 := ((my_up_fld fh646 (by decide)).trans ek151_27.symm)
              have j167 : ∀ j : Int, h646 167 j = h 167 j := fun j => ((my_up_role fh646 is_167 is_151 rfl).trans (rfl : h 167 j = h 167 j))
              have j6 := j167 6
              exact J88_0 (0) (0) (1) (0) ((5 + (16 * v644))) h646 (gh646) (by omega) (by omega) (by omega) (by omega) (by omega) (by omega) (by omega) (by omega) (by omega) (by omega) (((my_up_fld fh646 (by decide)).trans ek151_27.symm).trans (by omega)) (((my_up_fld fh646 (by decide)).trans ek151_33.symm).trans (by omega)) (((my_up_fld fh646 (by decide)).trans ev643.symm).trans (by omega)) ((my_up_self fh646).trans (by omega)) Tok_h646 Mq_h646 Wrd_h646 Wd9_h646 Ko_h646 (by first | (intro q; exfalso; omega) | (intro _; assumption) | omega) (by first | (intro q; exfalso; omega) | (intro _ q; omega) | (intro _ q; exfalso; have w := Wrd_h646; unfold Wrd at w; omega) | omega) (by omega) (by omega) (by omega) (by first | (intro q; exfalso; omega) | (intro q; omega) | omega) (by first | (intro q; exfalso; omega) | (intro q; omega) | omega)
          ·
            show wp l rho (d + 4) 185 68 [(2, 151), (0, 0), (0, 0), (0, 1), (0, 0), (9, 0), (9, 0), (9, 0)] [(0, 1)] h Q
            rw [show wm 10 = 316695 from by decide] at xp632
            refine w_ifne (t := 88) gz_185_68 rfl (fun u650 => ?_) (fun u650 => by exfalso; omega)
            have psJ : h 151 7 = h 151 7 := (rfl : h 151 7 = h 151 7)
            have npsJ : sm h = sm h := rfl
            have ce651 : h 151 7 = k151_7 := ek151_7.symm
            have ce652 : h 151 8 = 0 := cf
            have ce653 : h 151 27 = k151_27 := ek151_27.symm
            have j167 : ∀ j : Int, h 167 j = h 167 j := fun _ => rfl
            have j6 := j167 6
            exact J88_0 (0) (0) (1) (0) (0) h (my_fr.rf) (by omega) (by omega) (by omega) (by omega) (by omega) (by omega) (by omega) (by omega) (by omega) (by omega) (ek151_27.symm.trans (by omega)) (ek151_33.symm.trans (by omega)) (ek151_7.symm.trans (by omega)) (cf.trans (by omega)) n_Tok n_Mq n_Wrd n_Wd9 (Ko_rf) (by first | (intro q; exfalso; omega) | (intro _; assumption) | omega) (by first | (intro q; exfalso; omega) | (intro _ q; omega) | (intro _ q; exfalso; have w := n_Wrd; unfold Wrd at w; omega) | omega) (by omega) (by omega) (by omega) (by first | (intro q; exfalso; omega) | (intro q; omega) | omega) (by first | (intro q; exfalso; omega) | (intro q; omega) | omega)
        ·
          show wp l rho (d + 4) 185 26 [(2, 151), (0, 0), (0, 0), (0, 1), (9, 0), (9, 0), (9, 0), (9, 0)] [(0, 1)] h Q
          rw [show wm 11 = 26801 from by decide] at xp622
          refine w_istore (ls' := [(2, 151), (0, 0), (0, 0), (0, 1), (0, 1), (9, 0), (9, 0), (9, 0)]) gz_185_26 gm_185 rfl rfl rfl ?_
          refine w_iload_n gz_185_28 rfl ?_
          refine w_ifne (t := 62) gz_185_29 rfl (fun u654 => by exfalso; omega) (fun u654 => ?_)
          refine w_iload_n gz_185_32 rfl ?_
          refine w_ifne (t := 62) gz_185_33 rfl (fun u655 => by exfalso; omega) (fun u655 => ?_)
          refine w_iload_n gz_185_36 rfl ?_
          refine w_ifne (t := 62) gz_185_37 rfl (fun u656 => ?_) (fun u656 => by exfalso; omega)
          refine w_aload_n gz_185_62 rfl ?_
          refine w_bipush gz_185_63 (by decide) ?_
          refine w_inv (k := 0) (as := [(0, 10)]) (r := []) (x := 151) (ls0 := [(2, 151), (0, 10)]) gz_185_65 gm_177 rfl is_151 rd_10 rfl rfl rfl rfl rfl (c_Model_isWord9_f0 (d := (d + 3)) (x1 := 10) (by omega) (by omega) (cf.trans (by omega)) n_Wd9 (fun w657 xp658 => ?_) (fun w659 xp660 xp661 xp662 xp663 => ?_))
          ·
            show wp l rho (d + 4) 185 68 [(2, 151), (0, 0), (0, 0), (0, 1), (0, 1), (9, 0), (9, 0), (9, 0)] [(0, 0)] h Q
            rw [show wm 10 = 316695 from by decide] at xp658
            refine w_ifne (t := 88) gz_185_68 rfl (fun u664 => by exfalso; omega) (fun u664 => ?_)
            refine w_aload_n gz_185_71 rfl ?_
            refine w_getX (v := 167) gz_185_72 is_151 rd_10 rfl (by decide) rfl ?_
            refine w_bipush gz_185_75 (by decide) ?_
            refine w_iald gz_185_77 is_167 rd_66 (by omega) (by omega) (fun v666 ev666 pv666 qv666 => ?_)
            refine w_bipush gz_185_78 (by decide) ?_
            refine w_icne (t := 88) gz_185_80 rfl (fun u667 => ?_) (fun u667 => ?_)
            ·
              have psJ : h 151 7 = h 151 7 := (rfl : h 151 7 = h 151 7)
              have npsJ : sm h = sm h := rfl
              have ce668 : h 151 7 = k151_7 := ek151_7.symm
              have ce669 : h 151 8 = 0 := cf
              have ce670 : h 151 27 = k151_27 := ek151_27.symm
              have j167 : ∀ j : Int, h 167 j = h 167 j := fun _ => rfl
              have j6 := j167 6
              exact J88_0 (0) (0) (1) (1) (0) h (my_fr.rf) (by omega) (by omega) (by omega) (by omega) (by omega) (by omega) (by omega) (by omega) (by omega) (by omega) (ek151_27.symm.trans (by omega)) (ek151_33.symm.trans (by omega)) (ek151_7.symm.trans (by omega)) (cf.trans (by omega)) n_Tok n_Mq n_Wrd n_Wd9 (Ko_rf) (by first | (intro q; exfalso; omega) | (intro _; assumption) | omega) (by first | (intro q; exfalso; omega) | (intro _ q; omega) | (intro _ q; exfalso; have w := n_Wrd; unfold Wrd at w; omega) | omega) (by omega) (by omega) (by omega) (by first | (intro q; exfalso; omega) | (intro q; omega) | omega) (by first | (intro q; exfalso; omega) | (intro q; omega) | omega)
            ·
              refine w_aload_n gz_185_83 rfl ?_
              refine w_iconst gz_185_84 (by decide) ?_
              refine w_inv (k := 0) (as := [(0, 5)]) (r := []) (x := 151) (ls0 := [(2, 151), (0, 5)]) gz_185_85 gm_178 rfl is_151 rd_10 rfl rfl rfl rfl rfl ?_
              refine w_aload_n gz_178_0 rfl ?_
              refine v_getI (j := 8) gz_178_1 rfl is_151 rd_10 rfl (fun v671 ev671 pv671 qv671 => ?_)
              have zv671 := ev671.trans cf
              refine w_ifne (t := 25) gz_178_4 rfl (fun u672 => by exfalso; omega) (fun u672 => ?_)
              refine w_aload_n gz_178_7 rfl ?_
              refine w_iload_n gz_178_8 rfl ?_
              refine w_bipush gz_178_9 (by decide) ?_
              refine w_aload_n gz_178_11 rfl ?_
              refine w_getX (v := 154) gz_178_12 is_151 rd_10 rfl (by decide) rfl ?_
              refine w_aload_n gz_178_15 rfl ?_
              refine v_getI (j := 7) gz_178_16 rfl is_151 rd_10 rfl (fun v674 ev674 pv674 qv674 => ?_)
              have zv674 := ev674.trans ek151_7.symm
              refine w_iald gz_178_19 is_154 rd_53 (by omega) (by omega) (fun v675 ev675 pv675 qv675 => ?_)
              have nz676 : v675 = sP (sm h) (h 151 7) := by
                have q := ev675
                rw [show (v674 : Int) = h 151 7 from by omega] at q
                exact q
              refine w_imul gz_178_20 ⟨by omega, by omega⟩ ?_
              refine w_iadd gz_178_21 ⟨by omega, by omega⟩ ?_
              refine v_putI (j := 8) gz_178_22 rfl is_151 rd_10 rfl (by omega) (by omega) rfl (fun h677 fh677 => ?_)
              have gh677 : my_fr [(10, 7), (10, 8), (10, 27), (66, -1), (67, -1), (68, -1), (69, -1), (70, -1), (71, -1), (72, -1), (73, -1), (74, -1), (75, -1), (77, -1), (78, -1), (79, -1)] h h677 := my_fr.up my_fr.rf is_151 fh677 rfl
              have Tok_h677 : Tok h677 := Tok_ag (my_ag.up fh677 is_151 rfl) n_Tok
              have Mq_h677 : Mq h677 wv := Mq_ag (my_ag.up fh677 is_151 rfl) n_Mq
              have Wrd_h677 : Wrd h677 := Wrd_ag (my_ag.up fh677 is_151 rfl) n_Wrd
              have Wd9_h677 : Wd9 h677 := Wd9_ag (my_ag.up fh677 is_151 rfl) n_Wd9
              have Ko_h677 : Ko h h677 := Ko_ag (my_ag.up fh677 is_151 rfl) (Ko_rf)
              refine w_vret gz_178_25 gm_178 ?_
              show wp l rho (d + 4) 185 88 [(2, 151), (0, 0), (0, 0), (0, 1), (0, 1), (9, 0), (9, 0), (9, 0)] [] h677 Q
              have psJ : h677 151 7 = h 151 7 := ((my_up_fld fh677 (by decide)).trans (rfl : h 151 7 = h 151 7))
              have npsJ : sm h677 = sm h := sm_eq (fun j => my_fr.at gh677 is_153 rfl) (fun j => my_fr.at gh677 is_154 rfl) (fun j => my_fr.at gh677 is_155 rfl)
              have ce678 : h677 151 7 = v674 := ((my_up_fld fh677 (by decide)).trans ev674.symm)
              have ce679 : h677 151 8 = (5 + (16 * v675)) := (my_up_self fh677)
              have ce680 : h677 151 27 = k151_27 := ((my_up_fld fh677 (by decide)).trans ek151_27.symm)
              have j167 : ∀ j : Int, h677 167 j = h 167 j := fun j => ((my_up_role fh677 is_167 is_151 rfl).trans (rfl : h 167 j = h 167 j))
              have j6 := j167 6
              exact J88_0 (0) (0) (1) (1) ((5 + (16 * v675))) h677 (gh677) (by omega) (by omega) (by omega) (by omega) (by omega) (by omega) (by omega) (by omega) (by omega) (by omega) (((my_up_fld fh677 (by decide)).trans ek151_27.symm).trans (by omega)) (((my_up_fld fh677 (by decide)).trans ek151_33.symm).trans (by omega)) (((my_up_fld fh677 (by decide)).trans ev674.symm).trans (by omega)) ((my_up_self fh677).trans (by omega)) Tok_h677 Mq_h677 Wrd_h677 Wd9_h677 Ko_h677 (by first | (intro q; exfalso; omega) | (intro _; assumption) | omega) (by first | (intro q; exfalso; omega) | (intro _ q; omega) | (intro _ q; exfalso; have w := Wrd_h677; unfold Wrd at w; omega) | omega) (by omega) (by omega) (by omega) (by first | (intro q; exfalso; omega) | (intro q; omega) | omega) (by first | (intro q; exfalso; omega) | (intro q; omega) | omega)
          ·
            show wp l rho (d + 4) 185 68 [(2, 151), (0, 0), (0, 0), (0, 1), (0, 1), (9, 0), (9, 0), (9, 0)] [(0, 1)] h Q
            rw [show wm 10 = 316695 from by decide] at xp663
            refine w_ifne (t := 88) gz_185_68 rfl (fun u681 => ?_) (fun u681 => by exfalso; omega)
            have psJ : h 151 7 = h 151 7 := (rfl : h 151 7 = h 151 7)
            have npsJ : sm h = sm h := rfl
            have ce682 : h 151 7 = k151_7 := ek151_7.symm
            have ce683 : h 151 8 = 0 := cf
            have ce684 : h 151 27 = k151_27 := ek151_27.symm
            have j167 : ∀ j : Int, h 167 j = h 167 j := fun _ => rfl
            have j6 := j167 6
            exact J88_0 (0) (0) (1) (1) (0) h (my_fr.rf) (by omega) (by omega) (by omega) (by omega) (by omega) (by omega) (by omega) (by omega) (by omega) (by omega) (ek151_27.symm.trans (by omega)) (ek151_33.symm.trans (by omega)) (ek151_7.symm.trans (by omega)) (cf.trans (by omega)) n_Tok n_Mq n_Wrd n_Wd9 (Ko_rf) (by first | (intro q; exfalso; omega) | (intro _; assumption) | omega) (by first | (intro q; exfalso; omega) | (intro _ q; omega) | (intro _ q; exfalso; have w := n_Wrd; unfold Wrd at w; omega) | omega) (by omega) (by omega) (by omega) (by first | (intro q; exfalso; omega) | (intro q; omega) | omega) (by first | (intro q; exfalso; omega) | (intro q; omega) | omega)
    ·
      show wp l rho (d + 4) 185 12 [(2, 151), (0, 0), (9, 0), (9, 0), (9, 0), (9, 0), (9, 0), (9, 0)] [(0, 1)] h Q
      rw [show wm 7 = 8422 from by decide] at xp518
      refine w_istore_n (ls' := [(2, 151), (0, 0), (0, 1), (9, 0), (9, 0), (9, 0), (9, 0), (9, 0)]) gz_185_12 gm_185 rfl rfl rfl ?_
      refine w_aload_n gz_185_13 rfl ?_
      refine w_bipush gz_185_14 (by decide) ?_
      refine w_inv (k := 0) (as := [(0, 8)]) (r := []) (x := 151) (ls0 := [(2, 151), (0, 8)]) gz_185_16 gm_177 rfl is_151 rd_10 rfl rfl rfl rfl rfl (c_Model_isWord9_f0 (d := (d + 3)) (x1 := 8) (by omega) (by omega) (cf.trans (by omega)) n_Wd9 (fun w685 xp686 => ?_) (fun w687 xp688 xp689 xp690 xp691 => ?_))
      ·
        show wp l rho (d + 4) 185 19 [(2, 151), (0, 0), (0, 1), (9, 0), (9, 0), (9, 0), (9, 0), (9, 0)] [(0, 0)] h Q
        rw [show wm 8 = 527412 from by decide] at xp686
        refine w_istore_n (ls' := [(2, 151), (0, 0), (0, 1), (0, 0), (9, 0), (9, 0), (9, 0), (9, 0)]) gz_185_19 gm_185 rfl rfl rfl ?_
        refine w_aload_n gz_185_20 rfl ?_
        refine w_bipush gz_185_21 (by decide) ?_
        refine w_inv (k := 0) (as := [(0, 11)]) (r := []) (x := 151) (ls0 := [(2, 151), (0, 11)]) gz_185_23 gm_177 rfl is_151 rd_10 rfl rfl rfl rfl rfl (c_Model_isWord9_f0 (d := (d + 3)) (x1 := 11) (by omega) (by omega) (cf.trans (by omega)) n_Wd9 (fun w692 xp693 => ?_) (fun w694 xp695 xp696 xp697 xp698 => ?_))
        ·
          show wp l rho (d + 4) 185 26 [(2, 151), (0, 0), (0, 1), (0, 0), (9, 0), (9, 0), (9, 0), (9, 0)] [(0, 0)] h Q
          rw [show wm 11 = 26801 from by decide] at xp693
          refine w_istore (ls' := [(2, 151), (0, 0), (0, 1), (0, 0), (0, 0), (9, 0), (9, 0), (9, 0)]) gz_185_26 gm_185 rfl rfl rfl ?_
          refine w_iload_n gz_185_28 rfl ?_
          refine w_ifne (t := 62) gz_185_29 rfl (fun u699 => by exfalso; omega) (fun u699 => ?_)
          refine w_iload_n gz_185_32 rfl ?_
          refine w_ifne (t := 62) gz_185_33 rfl (fun u700 => ?_) (fun u700 => by exfalso; omega)
          refine w_aload_n gz_185_62 rfl ?_
          refine w_bipush gz_185_63 (by decide) ?_
          refine w_inv (k := 0) (as := [(0, 10)]) (r := []) (x := 151) (ls0 := [(2, 151), (0, 10)]) gz_185_65 gm_177 rfl is_151 rd_10 rfl rfl rfl rfl rfl (c_Model_isWord9_f0 (d := (d + 3)) (x1 := 10) (by omega) (by omega) (cf.trans (by omega)) n_Wd9 (fun w701 xp702 => ?_) (fun w703 xp704 xp705 xp706 xp707 => ?_))
          ·
            show wp l rho (d + 4) 185 68 [(2, 151), (0, 0), (0, 1), (0, 0), (0, 0), (9, 0), (9, 0), (9, 0)] [(0, 0)] h Q
            rw [show wm 10 = 316695 from by decide] at xp702
            refine w_ifne (t := 88) gz_185_68 rfl (fun u708 => by exfalso; omega) (fun u708 => ?_)
            refine w_aload_n gz_185_71 rfl ?_
            refine w_getX (v := 167) gz_185_72 is_151 rd_10 rfl (by decide) rfl ?_
            refine w_bipush gz_185_75 (by decide) ?_
            refine w_iald gz_185_77 is_167 rd_66 (by omega) (by omega) (fun v710 ev710 pv710 qv710 => ?_)
            refine w_bipush gz_185_78 (by decide) ?_
            refine w_icne (t := 88) gz_185_80 rfl (fun u711 => ?_) (fun u711 => ?_)
            ·
              have psJ : h 151 7 = h 151 7 := (rfl : h 151 7 = h 151 7)
              have npsJ : sm h = sm h := rfl
              have ce712 : h 151 7 = k151_7 := ek151_7.symm
              have ce713 : h 151 8 = 0 := cf
              have ce714 : h 151 27 = k151_27 := ek151_27.symm
              have j167 : ∀ j : Int, h 167 j = h 167 j := fun _ => rfl
              have j6 := j167 6
              exact J88_0 (0) (1) (0) (0) (0) h (my_fr.rf) (by omega) (by omega) (by omega) (by omega) (by omega) (by omega) (by omega) (by omega) (by omega) (by omega) (ek151_27.symm.trans (by omega)) (ek151_33.symm.trans (by omega)) (ek151_7.symm.trans (by omega)) (cf.trans (by omega)) n_Tok n_Mq n_Wrd n_Wd9 (Ko_rf) (by first | (intro q; exfalso; omega) | (intro _; assumption) | omega) (by first | (intro q; exfalso; omega) | (intro _ q; omega) | (intro _ q; exfalso; have w := n_Wrd; unfold Wrd at w; omega) | omega) (by omega) (by omega) (by omega) (by first | (intro q; exfalso; omega) | (intro q; omega) | omega) (by first | (intro q; exfalso; omega) | (intro q; omega) | omega)
            ·
              refine w_aload_n gz_185_83 rfl ?_
              refine w_iconst gz_185_84 (by decide) ?_
              refine w_inv (k := 0) (as := [(0, 5)]) (r := []) (x := 151) (ls0 := [(2, 151), (0, 5)]) gz_185_85 gm_178 rfl is_151 rd_10 rfl rfl rfl rfl rfl ?_
              refine w_aload_n gz_178_0 rfl ?_
              refine v_getI (j := 8) gz_178_1 rfl is_151 rd_10 rfl (fun v715 ev715 pv715 qv715 => ?_)
              have zv715 := ev715.trans cf
              refine w_ifne (t := 25) gz_178_4 rfl (fun u716 => by exfalso; omega) (fun u716 => ?_)
              refine w_aload_n gz_178_7 rfl ?_
              refine w_iload_n gz_178_8 rfl ?_
              refine w_bipush gz_178_9 (by decide) ?_
              refine w_aload_n gz_178_11 rfl ?_
              refine w_getX (v := 154) gz_178_12 is_151 rd_10 rfl (by decide) rfl ?_
              refine w_aload_n gz_178_15 rfl ?_
              refine v_getI (j := 7) gz_178_16 rfl is_151 rd_10 rfl (fun v718 ev718 pv718 qv718 => ?_)
              have zv718 := ev718.trans ek151_7.symm
              refine w_iald gz_178_19 is_154 rd_53 (by omega) (by omega) (fun v719 ev719 pv719 qv719 => ?_)
              have nz720 : v719 = sP (sm h) (h 151 7) := by
                have q := ev719
                rw [show (v718 : Int) = h 151 7 from by omega] at q
                exact q
              refine w_imul gz_178_20 ⟨by omega, by omega⟩ ?_
              refine w_iadd gz_178_21 ⟨by omega, by omega⟩ ?_
              refine v_putI (j := 8) gz_178_22 rfl is_151 rd_10 rfl (by omega) (by omega) rfl (fun h721 fh721 => ?_)
              have gh721 : my_fr [(10, 7), (10, 8), (10, 27), (66, -1), (67, -1), (68, -1), (69, -1), (70, -1), (71, -1), (72, -1), (73, -1), (74, -1), (75, -1), (77, -1), (78, -1), (79, -1)] h h721 := my_fr.up my_fr.rf is_151 fh721 rfl
              have Tok_h721 : Tok h721 := Tok_ag (my_ag.up fh721 is_151 rfl) n_Tok
              have Mq_h721 : Mq h721 wv := Mq_ag (my_ag.up fh721 is_151 rfl) n_Mq
              have Wrd_h721 : Wrd h721 := Wrd_ag (my_ag.up fh721 is_151 rfl) n_Wrd
              have Wd9_h721 : Wd9 h721 := Wd9_ag (my_ag.up fh721 is_151 rfl) n_Wd9
              have Ko_h721 : Ko h h721 := Ko_ag (my_ag.up fh721 is_151 rfl) (Ko_rf)
              refine w_vret gz_178_25 gm_178 ?_
              show wp l rho (d + 4) 185 88 [(2, 151), (0, 0), (0, 1), (0, 0), (0, 0), (9, 0), (9, 0), (9, 0)] [] h721 Q
              have psJ : h721 151 7 = h 151 7 := ((my_up_fld fh721 (by decide)).trans (rfl : h 151 7 = h 151 7))
              have npsJ : sm h721 = sm h := sm_eq (fun j => my_fr.at gh721 is_153 rfl) (fun j => my_fr.at gh721 is_154 rfl) (fun j => my_fr.at gh721 is_155 rfl)
              have ce722 : h721 151 7 = v718 := ((my_up_fld fh721 (by decide)).trans ev718.symm)
              have ce723 : h721 151 8 = (5 + (16 * v719)) := (my_up_self fh721)
              have ce724 : h721 151 27 = k151_27 := ((my_up_fld fh721 (by decide)).trans ek151_27.symm)
              have j167 : ∀ j : Int, h721 167 j = h 167 j := fun j => ((my_up_role fh721 is_167 is_151 rfl).trans (rfl : h 167 j = h 167 j))
              have j6 := j167 6
              exact J88_0 (0) (1) (0) (0) ((5 + (16 * v719))) h721 (gh721) (by omega) (by omega) (by omega) (by omega) (by omega) (by omega) (by omega) (by omega) (by omega) (by omega) (((my_up_fld fh721 (by decide)).trans ek151_27.symm).trans (by omega)) (((my_up_fld fh721 (by decide)).trans ek151_33.symm).trans (by omega)) (((my_up_fld fh721 (by decide)).trans ev718.symm).trans (by omega)) ((my_up_self fh721).trans (by omega)) Tok_h721 Mq_h721 Wrd_h721 Wd9_h721 Ko_h721 (by first | (intro q; exfalso; omega) | (intro _; assumption) | omega) (by first | (intro q; exfalso; omega) | (intro _ q; omega) | (intro _ q; exfalso; have w := Wrd_h721; unfold Wrd at w; omega) | omega) (by omega) (by omega) (by omega) (by first | (intro q; exfalso; omega) | (intro q; omega) | omega) (by first | (intro q; exfalso; omega) | (intro q; omega) | omega)
          ·
            show wp l rho (d + 4) 185 68 [(2, 151), (0, 0), (0, 1), (0, 0), (0, 0), (9, 0), (9, 0), (9, 0)] [(0, 1)] h Q
            rw [show wm 10 = 316695 from by decide] at xp707
            refine w_ifne (t := 88) gz_185_68 rfl (fun u725 => ?_) (fun u725 => by exfalso; omega)
            have psJ : h 151 7 = h 151 7 := (rfl : h 151 7 = h 151 7)
            have npsJ : sm h = sm h := rfl
            have ce726 : h 151 7 = k151_7 := ek151_7.symm
            have ce727 : h 151 8 = 0 := cf
            have ce728 : h 151 27 = k151_27 := ek151_27.symm
            have j167 : ∀ j : Int, h 167 j = h 167 j := fun _ => rfl
            have j6 := j167 6
            exact J88_0 (0) (1) (0) (0) (0) h (my_fr.rf) (by omega) (by omega) (by omega) (by omega) (by omega) (by omega) (by omega) (by omega) (by omega) (by omega) (ek151_27.symm.trans (by omega)) (ek151_33.symm.trans (by omega)) (ek151_7.symm.trans (by omega)) (cf.trans (by omega)) n_Tok n_Mq n_Wrd n_Wd9 (Ko_rf) (by first | (intro q; exfalso; omega) | (intro _; assumption) | omega) (by first | (intro q; exfalso; omega) | (intro _ q; omega) | (intro _ q; exfalso; have w := n_Wrd; unfold Wrd at w; omega) | omega) (by omega) (by omega) (by omega) (by first | (intro q; exfalso; omega) | (intro q; omega) | omega) (by first | (intro q; exfalso; omega) | (intro q; omega) | omega)
        ·
          show wp l rho (d + 4) 185 26 [(2, 151), (0, 0), (0, 1), (0, 0), (9, 0), (9, 0), (9, 0), (9, 0)] [(0, 1)] h Q
          rw [show wm 11 = 26801 from by decide] at xp698
          refine w_istore (ls' := [(2, 151), (0, 0), (0, 1), (0, 0), (0, 1), (9, 0), (9, 0), (9, 0)]) gz_185_26 gm_185 rfl rfl rfl ?_
          refine w_iload_n gz_185_28 rfl ?_
          refine w_ifne (t := 62) gz_185_29 rfl (fun u729 => by exfalso; omega) (fun u729 => ?_)
          refine w_iload_n gz_185_32 rfl ?_
          refine w_ifne (t := 62) gz_185_33 rfl (fun u730 => ?_) (fun u730 => by exfalso; omega)
          refine w_aload_n gz_185_62 rfl ?_
          refine w_bipush gz_185_63 (by decide) ?_
          refine w_inv (k := 0) (as := [(0, 10)]) (r := []) (x := 151) (ls0 := [(2, 151), (0, 10)]) gz_185_65 gm_177 rfl is_151 rd_10 rfl rfl rfl rfl rfl (c_Model_isWord9_f0 (d := (d + 3)) (x1 := 10) (by omega) (by omega) (cf.trans (by omega)) n_Wd9 (fun w731 xp732 => ?_) (fun w733 xp734 xp735 xp736 xp737 => ?_))
          ·
            show wp l rho (d + 4) 185 68 [(2, 151), (0, 0), (0, 1), (0, 0), (0, 1), (9, 0), (9, 0), (9, 0)] [(0, 0)] h Q
            rw [show wm 10 = 316695 from by decide] at xp732
            refine w_ifne (t := 88) gz_185_68 rfl (fun u738 => by exfalso; omega) (fun u738 => ?_)
            refine w_aload_n gz_185_71 rfl ?_
            refine w_getX (v := 167) gz_185_72 is_151 rd_10 rfl (by decide) rfl ?_
            refine w_bipush gz_185_75 (by decide) ?_
            refine w_iald gz_185_77 is_167 rd_66 (by omega) (by omega) (fun v740 ev740 pv740 qv740 => ?_)
            refine w_bipush gz_185_78 (by decide) ?_
            refine w_icne (t := 88) gz_185_80 rfl (fun u741 => ?_) (fun u741 => ?_)
            ·
              have psJ : h 151 7 = h 151 7 := (rfl : h 151 7 = h 151 7)
              have npsJ : sm h = sm h := rfl
              have ce742 : h 151 7 = k151_7 := ek151_7.symm
              have ce743 : h 151 8 = 0 := cf
              have ce744 : h 151 27 = k151_27 := ek151_27.symm
              have j167 : ∀ j : Int, h 167 j = h 167 j := fun _ => rfl
              have j6 := j167 6
              exact J88_0 (0) (1) (0) (1) (0) h (my_fr.rf) (by omega) (by omega) (by omega) (by omega) (by omega) (by omega) (by omega) (by omega) (by omega) (by omega) (ek151_27.symm.trans (by omega)) (ek151_33.symm.trans (by omega)) (ek151_7.symm.trans (by omega)) (cf.trans (by omega)) n_Tok n_Mq n_Wrd n_Wd9 (Ko_rf) (by first | (intro q; exfalso; omega) | (intro _; assumption) | omega) (by first | (intro q; exfalso; omega) | (intro _ q; omega) | (intro _ q; exfalso; have w := n_Wrd; unfold Wrd at w; omega) | omega) (by omega) (by omega) (by omega) (by first | (intro q; exfalso; omega) | (intro q; omega) | omega) (by first | (intro q; exfalso; omega) | (intro q; omega) | omega)
            ·
              refine w_aload_n gz_185_83 rfl ?_
              refine w_iconst gz_185_84 (by decide) ?_
              refine w_inv (k := 0) (as := [(0, 5)]) (r := []) (x := 151) (ls0 := [(2, 151), (0, 5)]) gz_185_85 gm_178 rfl is_151 rd_10 rfl rfl rfl rfl rfl ?_
              refine w_aload_n gz_178_0 rfl ?_
              refine v_getI (j := 8) gz_178_1 rfl is_151 rd_10 rfl (fun v745 ev745 pv745 qv745 => ?_)
              have zv745 := ev745.trans cf
              refine w_ifne (t := 25) gz_178_4 rfl (fun u746 => by exfalso; omega) (fun u746 => ?_)
              refine w_aload_n gz_178_7 rfl ?_
              refine w_iload_n gz_178_8 rfl ?_
              refine w_bipush gz_178_9 (by decide) ?_
              refine w_aload_n gz_178_11 rfl ?_
              refine w_getX (v := 154) gz_178_12 is_151 rd_10 rfl (by decide) rfl ?_
              refine w_aload_n gz_178_15 rfl ?_
              refine v_getI (j := 7) gz_178_16 rfl is_151 rd_10 rfl (fun v748 ev748 pv748 qv748 => ?_)
              have zv748 := ev748.trans ek151_7.symm
              refine w_iald gz_178_19 is_154 rd_53 (by omega) (by omega) (fun v749 ev749 pv749 qv749 => ?_)
              have nz750 : v749 = sP (sm h) (h 151 7) := by
                have q := ev749
                rw [show (v748 : Int) = h 151 7 from by omega] at q
                exact q
              refine w_imul gz_178_20 ⟨by omega, by omega⟩ ?_
              refine w_iadd gz_178_21 ⟨by omega, by omega⟩ ?_
              refine v_putI (j := 8) gz_178_22 rfl is_151 rd_10 rfl (by omega) (by omega) rfl (fun h751 fh751 => ?_)
              have gh751 : my_fr [(10, 7), (10, 8), (10, 27), (66, -1), (67, -1), (68, -1), (69, -1), (70, -1), (71, -1), (72, -1), (73, -1), (74, -1), (75, -1), (77, -1), (78, -1), (79, -1)] h h751 := my_fr.up my_fr.rf is_151 fh751 rfl
              have Tok_h751 : Tok h751 := Tok_ag (my_ag.up fh751 is_151 rfl) n_Tok
              have Mq_h751 : Mq h751 wv := Mq_ag (my_ag.up fh751 is_151 rfl) n_Mq
              have Wrd_h751 : Wrd h751 := Wrd_ag (my_ag.up fh751 is_151 rfl) n_Wrd
              have Wd9_h751 : Wd9 h751 := Wd9_ag (my_ag.up fh751 is_151 rfl) n_Wd9
              have Ko_h751 : Ko h h751 := Ko_ag (my_ag.up fh751 is_151 rfl) (Ko_rf)
              refine w_vret gz_178_25 gm_178 ?_
              show wp l rho (d + 4) 185 88 [(2, 151), (0, 0), (0, 1), (0, 0), (0, 1), (9, 0), (9, 0), (9, 0)] [] h751 Q
              have psJ : h751 151 7 = h 151 7 := ((my_up_fld fh751 (by decide)).trans (rfl : h 151 7 = h 151 7))
              have npsJ : sm h751 = sm h := sm_eq (fun j => my_fr.at gh751 is_153 rfl) (fun j => my_fr.at gh751 is_154 rfl) (fun j => my_fr.at gh751 is_155 rfl)
              have ce752 : h751 151 7 = v748 := ((my_up_fld fh751 (by decide)).trans ev748.symm)
              have ce753 : h751 151 8 = (5 + (16 * v749)) := (my_up_self fh751)
              have ce754 : h751 151 27 = k151_27 := ((my_up_fld fh751 (by decide)).trans ek151_27.symm)
              have j167 : ∀ j : Int, h751 167 j = h 167 j := fun j => ((my_up_role fh751 is_167 is_151 rfl).trans (rfl : h 167 j = h 167 j))
              have j6 := j167 6
              exact J88_0 (0) (1) (0) (1) ((5 + (16 * v749))) h751 (gh751) (by omega) (by omega) (by omega) (by omega) (by omega) (by omega) (by omega) (by omega) (by omega) (by omega) (((my_up_fld fh751 (by decide)).trans ek151_27.symm).trans (by omega)) (((my_up_fld fh751 (by decide)).trans ek151_33.symm).trans (by omega)) (((my_up_fld fh751 (by decide)).trans ev748.symm).trans (by omega)) ((my_up_self fh751).trans (by omega)) Tok_h751 Mq_h751 Wrd_h751 Wd9_h751 Ko_h751 (by first | (intro q; exfalso; omega) | (intro _; assumption) | omega) (by first | (intro q; exfalso; omega) | (intro _ q; omega) | (intro _ q; exfalso; have w := Wrd_h751; unfold Wrd at w; omega) | omega) (by omega) (by omega) (by omega) (by first | (intro q; exfalso; omega) | (intro q; omega) | omega) (by first | (intro q; exfalso; omega) | (intro q; omega) | omega)
          ·
            show wp l rho (d + 4) 185 68 [(2, 151), (0, 0), (0, 1), (0, 0), (0, 1), (9, 0), (9, 0), (9, 0)] [(0, 1)] h Q
            rw [show wm 10 = 316695 from by decide] at xp737
            refine w_ifne (t := 88) gz_185_68 rfl (fun u755 => ?_) (fun u755 => by exfalso; omega)
            have psJ : h 151 7 = h 151 7 := (rfl : h 151 7 = h 151 7)
            have npsJ : sm h = sm h := rfl
            have ce756 : h 151 7 = k151_7 := ek151_7.symm
            have ce757 : h 151 8 = 0 := cf
            have ce758 : h 151 27 = k151_27 := ek151_27.symm
            have j167 : ∀ j : Int, h 167 j = h 167 j := fun _ => rfl
            have j6 := j167 6
            exact J88_0 (0) (1) (0) (1) (0) h (my_fr.rf) (by omega) (by omega) (by omega) (by omega) (by omega) (by omega) (by omega) (by omega) (by omega) (by omega) (ek151_27.symm.trans (by omega)) (ek151_33.symm.trans (by omega)) (ek151_7.symm.trans (by omega)) (cf.trans (by omega)) n_Tok n_Mq n_Wrd n_Wd9 (Ko_rf) (by first | (intro q; exfalso; omega) | (intro _; assumption) | omega) (by first | (intro q; exfalso; omega) | (intro _ q; omega) | (intro _ q; exfalso; have w := n_Wrd; unfold Wrd at w; omega) | omega) (by omega) (by omega) (by omega) (by first | (intro q; exfalso; omega) | (intro q; omega) | omega) (by first | (intro q; exfalso; omega) | (intro q; omega) | omega)
      ·
        show wp l rho (d + 4) 185 19 [(2, 151), (0, 0), (0, 1), (9, 0), (9, 0), (9, 0), (9, 0), (9, 0)] [(0, 1)] h Q
        rw [show wm 8 = 527412 from by decide] at xp691
        refine w_istore_n (ls' := [(2, 151), (0, 0), (0, 1), (0, 1), (9, 0), (9, 0), (9, 0), (9, 0)]) gz_185_19 gm_185 rfl rfl rfl ?_
        refine w_aload_n gz_185_20 rfl ?_
        refine w_bipush gz_185_21 (by decide) ?_
        refine w_inv (k := 0) (as := [(0, 11)]) (r := []) (x := 151) (ls0 := [(2, 151), (0, 11)]) gz_185_23 gm_177 rfl is_151 rd_10 rfl rfl rfl rfl rfl (c_Model_isWord9_f0 (d := (d + 3)) (x1 := 11) (by omega) (by omega) (cf.trans (by omega)) n_Wd9 (fun w759 xp760 => ?_) (fun w761 xp762 xp763 xp764 xp765 => ?_))
        ·
          show wp l rho (d + 4) 185 26 [(2, 151), (0, 0), (0, 1), (0, 1), (9, 0), (9, 0), (9, 0), (9, 0)] [(0, 0)] h Q
          rw [show wm 11 = 26801 from by decide] at xp760
          refine w_istore (ls' := [(2, 151), (0, 0), (0, 1), (0, 1), (0, 0), (9, 0), (9, 0), (9, 0)]) gz_185_26 gm_185 rfl rfl rfl ?_
          refine w_iload_n gz_185_28 rfl ?_
          refine w_ifne (t := 62) gz_185_29 rfl (fun u766 => by exfalso; omega) (fun u766 => ?_)
          refine w_iload_n gz_185_32 rfl ?_
          refine w_ifne (t := 62) gz_185_33 rfl (fun u767 => ?_) (fun u767 => by exfalso; omega)
          refine w_aload_n gz_185_62 rfl ?_
          refine w_bipush gz_185_63 (by decide) ?_
          refine w_inv (k := 0) (as := [(0, 10)]) (r := []) (x := 151) (ls0 := [(2, 151), (0, 10)]) gz_185_65 gm_177 rfl is_151 rd_10 rfl rfl rfl rfl rfl (c_Model_isWord9_f0 (d := (d + 3)) (x1 := 10) (by omega) (by omega) (cf.trans (by omega)) n_Wd9 (fun w768 xp769 => ?_) (fun w770 xp771 xp772 xp773 xp774 => ?_))
          ·
            show wp l rho (d + 4) 185 68 [(2, 151), (0, 0), (0, 1), (0, 1), (0, 0), (9, 0), (9, 0), (9, 0)] [(0, 0)] h Q
            rw [show wm 10 = 316695 from by decide] at xp769
            refine w_ifne (t := 88) gz_185_68 rfl (fun u775 => by exfalso; omega) (fun u775 => ?_)
            refine w_aload_n gz_185_71 rfl ?_
            refine w_getX (v := 167) gz_185_72 is_151 rd_10 rfl (by decide) rfl ?_
            refine w_bipush gz_185_75 (by decide) ?_
            refine w_iald gz_185_77 is_167 rd_66 (by omega) (by omega) (fun v777 ev777 pv777 qv777 => ?_)
            refine w_bipush gz_185_78 (by decide) ?_
            refine w_icne (t := 88) gz_185_80 rfl (fun u778 => ?_) (fun u778 => ?_)
            ·
              have psJ : h 151 7 = h 151 7 := (rfl : h 151 7 = h 151 7)
              have npsJ : sm h = sm h := rfl
              have ce779 : h 151 7 = k151_7 := ek151_7.symm
              have ce780 : h 151 8 = 0 := cf
              have ce781 : h 151 27 = k151_27 := ek151_27.symm
              have j167 : ∀ j : Int, h 167 j = h 167 j := fun _ => rfl
              have j6 := j167 6
              exact J88_0 (0) (1) (1) (0) (0) h (my_fr.rf) (by omega) (by omega) (by omega) (by omega) (by omega) (by omega) (by omega) (by omega) (by omega) (by omega) (ek151_27.symm.trans (by omega)) (ek151_33.symm.trans (by omega)) (ek151_7.symm.trans (by omega)) (cf.trans (by omega)) n_Tok n_Mq n_Wrd n_Wd9 (Ko_rf) (by first | (intro q; exfalso; omega) | (intro _; assumption) | omega) (by first | (intro q; exfalso; omega) | (intro _ q; omega) | (intro _ q; exfalso; have w := n_Wrd; unfold Wrd at w; omega) | omega) (by omega) (by omega) (by omega) (by first | (intro q; exfalso; omega) | (intro q; omega) | omega) (by first | (intro q; exfalso; omega) | (intro q; omega) | omega)
            ·
              refine w_aload_n gz_185_83 rfl ?_
              refine w_iconst gz_185_84 (by decide) ?_
              refine w_inv (k := 0) (as := [(0, 5)]) (r := []) (x := 151) (ls0 := [(2, 151), (0, 5)]) gz_185_85 gm_178 rfl is_151 rd_10 rfl rfl rfl rfl rfl ?_
              refine w_aload_n gz_178_0 rfl ?_
              refine v_getI (j := 8) gz_178_1 rfl is_151 rd_10 rfl (fun v782 ev782 pv782 qv782 => ?_)
              have zv782 := ev782.trans cf
              refine w_ifne (t := 25) gz_178_4 rfl (fun u783 => by exfalso; omega) (fun u783 => ?_)
              refine w_aload_n gz_178_7 rfl ?_
              refine w_iload_n gz_178_8 rfl ?_
              refine w_bipush gz_178_9 (by decide) ?_
              refine w_aload_n gz_178_11 rfl ?_
              refine w_getX (v := 154) gz_178_12 is_151 rd_10 rfl (by decide) rfl ?_
              refine w_aload_n gz_178_15 rfl ?_
              refine v_getI (j := 7) gz_178_16 rfl is_151 rd_10 rfl (fun v785 ev785 pv785 qv785 => ?_)
              have zv785 := ev785.trans ek151_7.symm
              refine w_iald gz_178_19 is_154 rd_53 (by omega) (by omega) (fun v786 ev786 pv786 qv786 => ?_)
              have nz787 : v786 = sP (sm h) (h 151 7) := by
                have q := ev786
                rw [show (v785 : Int) = h 151 7 from by omega] at q
                exact q
              refine w_imul gz_178_20 ⟨by omega, by omega⟩ ?_
              refine w_iadd gz_178_21 ⟨by omega, by omega⟩ ?_
              refine v_putI (j := 8) gz_178_22 rfl is_151 rd_10 rfl (by omega) (by omega) rfl (fun h788 fh788 => ?_)
              have gh788 : my_fr [(10, 7), (10, 8), (10, 27), (66, -1), (67, -1), (68, -1), (69, -1), (70, -1), (71, -1), (72, -1), (73, -1), (74, -1), (75, -1), (77, -1), (78, -1), (79, -1)] h h788 := my_fr.up my_fr.rf is_151 fh788 rfl
              have Tok_h788 : Tok h788 := Tok_ag (my_ag.up fh788 is_151 rfl) n_Tok
              have Mq_h788 : Mq h788 wv := Mq_ag (my_ag.up fh788 is_151 rfl) n_Mq
              have Wrd_h788 : Wrd h788 := Wrd_ag (my_ag.up fh788 is_151 rfl) n_Wrd
              have Wd9_h788 : Wd9 h788 := Wd9_ag (my_ag.up fh788 is_151 rfl) n_Wd9
              have Ko_h788 : Ko h h788 := Ko_ag (my_ag.up fh788 is_151 rfl) (Ko_rf)
              refine w_vret gz_178_25 gm_178 ?_
              show wp l rho (d + 4) 185 88 [(2, 151), (0, 0), (0, 1), (0, 1), (0, 0), (9, 0), (9, 0), (9, 0)] [] h788 Q
              have psJ : h788 151 7 = h 151 7 := ((my_up_fld fh788 (by decide)).trans (rfl : h 151 7 = h 151 7))
              have npsJ : sm h788 = sm h := sm_eq (fun j => my_fr.at gh788 is_153 rfl) (fun j => my_fr.at gh788 is_154 rfl) (fun j => my_fr.at gh788 is_155 rfl)
              have ce789 : h788 151 7 = v785 := ((my_up_fld fh788 (by decide)).trans ev785.symm)
              have ce790 : h788 151 8 = (5 + (16 * v786)) := (my_up_self fh788)
              have ce791 : h788 151 27 = k151_27 := ((my_up_fld fh788 (by decide)).trans ek151_27.symm)
              have j167 : ∀ j : Int, h788 167 j = h 167 j := fun j => ((my_up_role fh788 is_167 is_151 rfl).trans (rfl : h 167 j = h 167 j))
              have j6 := j167 6
              exact J88_0 (0) (1) (1) (0) ((5 + (16 * v786))) h788 (gh788) (by omega) (by omega) (by omega) (by omega) (by omega) (by omega) (by omega) (by omega) (by omega) (by omega) (((my_up_fld fh788 (by decide)).trans ek151_27.symm).trans (by omega)) (((my_up_fld fh788 (by decide)).trans ek151_33.symm).trans (by omega)) (((my_up_fld fh788 (by decide)).trans ev785.symm).trans (by omega)) ((my_up_self fh788).trans (by omega)) Tok_h788 Mq_h788 Wrd_h788 Wd9_h788 Ko_h788 (by first | (intro q; exfalso; omega) | (intro _; assumption) | omega) (by first | (intro q; exfalso; omega) | (intro _ q; omega) | (intro _ q; exfalso; have w := Wrd_h788; unfold Wrd at w; omega) | omega) (by omega) (by omega) (by omega) (by first | (intro q; exfalso; omega) | (intro q; omega) | omega) (by first | (intro q; exfalso; omega) | (intro q; omega) | omega)
          ·
            show wp l rho (d + 4) 185 68 [(2, 151), (0, 0), (0, 1), (0, 1), (0, 0), (9, 0), (9, 0), (9, 0)] [(0, 1)] h Q
            rw [show wm 10 = 316695 from by decide] at xp774
            refine w_ifne (t := 88) gz_185_68 rfl (fun u792 => ?_) (fun u792 => by exfalso; omega)
            have psJ : h 151 7 = h 151 7 := (rfl : h 151 7 = h 151 7)
            have npsJ : sm h = sm h := rfl
            have ce793 : h 151 7 = k151_7 := ek151_7.symm
            have ce794 : h 151 8 = 0 := cf
            have ce795 : h 151 27 = k151_27 := ek151_27.symm
            have j167 : ∀ j : Int, h 167 j = h 167 j := fun _ => rfl
            have j6 := j167 6
            exact J88_0 (0) (1) (1) (0) (0) h (my_fr.rf) (by omega) (by omega) (by omega) (by omega) (by omega) (by omega) (by omega) (by omega) (by omega) (by omega) (ek151_27.symm.trans (by omega)) (ek151_33.symm.trans (by omega)) (ek151_7.symm.trans (by omega)) (cf.trans (by omega)) n_Tok n_Mq n_Wrd n_Wd9 (Ko_rf) (by first | (intro q; exfalso; omega) | (intro _; assumption) | omega) (by first | (intro q; exfalso; omega) | (intro _ q; omega) | (intro _ q; exfalso; have w := n_Wrd; unfold Wrd at w; omega) | omega) (by omega) (by omega) (by omega) (by first | (intro q; exfalso; omega) | (intro q; omega) | omega) (by first | (intro q; exfalso; omega) | (intro q; omega) | omega)
        ·
          show wp l rho (d + 4) 185 26 [(2, 151), (0, 0), (0, 1), (0, 1), (9, 0), (9, 0), (9, 0), (9, 0)] [(0, 1)] h Q
          rw [show wm 11 = 26801 from by decide] at xp765
          refine w_istore (ls' := [(2, 151), (0, 0), (0, 1), (0, 1), (0, 1), (9, 0), (9, 0), (9, 0)]) gz_185_26 gm_185 rfl rfl rfl ?_
          refine w_iload_n gz_185_28 rfl ?_
          refine w_ifne (t := 62) gz_185_29 rfl (fun u796 => by exfalso; omega) (fun u796 => ?_)
          refine w_iload_n gz_185_32 rfl ?_
          refine w_ifne (t := 62) gz_185_33 rfl (fun u797 => ?_) (fun u797 => by exfalso; omega)
          refine w_aload_n gz_185_62 rfl ?_
          refine w_bipush gz_185_63 (by decide) ?_
          refine w_inv (k := 0) (as := [(0, 10)]) (r := []) (x := 151) (ls0 := [(2, 151), (0, 10)]) gz_185_65 gm_177 rfl is_151 rd_10 rfl rfl rfl rfl rfl (c_Model_isWord9_f0 (d := (d + 3)) (x1 := 10) (by omega) (by omega) (cf.trans (by omega)) n_Wd9 (fun w798 xp799 => ?_) (fun w800 xp801 xp802 xp803 xp804 => ?_))
          ·
            show wp l rho (d + 4) 185 68 [(2, 151), (0, 0), (0, 1), (0, 1), (0, 1), (9, 0), (9, 0), (9, 0)] [(0, 0)] h Q
            rw [show wm 10 = 316695 from by decide] at xp799
            refine w_ifne (t := 88) gz_185_68 rfl (fun u805 => by exfalso; omega) (fun u805 => ?_)
            refine w_aload_n gz_185_71 rfl ?_
            refine w_getX (v := 167) gz_185_72 is_151 rd_10 rfl (by decide) rfl ?_
            refine w_bipush gz_185_75 (by decide) ?_
            refine w_iald gz_185_77 is_167 rd_66 (by omega) (by omega) (fun v807 ev807 pv807 qv807 => ?_)
            refine w_bipush gz_185_78 (by decide) ?_
            refine w_icne (t := 88) gz_185_80 rfl (fun u808 => ?_) (fun u808 => ?_)
            ·
              have psJ : h 151 7 = h 151 7 := (rfl : h 151 7 = h 151 7)
              have npsJ : sm h = sm h := rfl
              have ce809 : h 151 7 = k151_7 := ek151_7.symm
              have ce810 : h 151 8 = 0 := cf
              have ce811 : h 151 27 = k151_27 := ek151_27.symm
              have j167 : ∀ j : Int, h 167 j = h 167 j := fun _ => rfl
              have j6 := j167 6
              exact J88_0 (0) (1) (1) (1) (0) h (my_fr.rf) (by omega) (by omega) (by omega) (by omega) (by omega) (by omega) (by omega) (by omega) (by omega) (by omega) (ek151_27.symm.trans (by omega)) (ek151_33.symm.trans (by omega)) (ek151_7.symm.trans (by omega)) (cf.trans (by omega)) n_Tok n_Mq n_Wrd n_Wd9 (Ko_rf) (by first | (intro q; exfalso; omega) | (intro _; assumption) | omega) (by first | (intro q; exfalso; omega) | (intro _ q; omega) | (intro _ q; exfalso; have w := n_Wrd; unfold Wrd at w; omega) | omega) (by omega) (by omega) (by omega) (by first | (intro q; exfalso; omega) | (intro q; omega) | omega) (by first | (intro q; exfalso; omega) | (intro q; omega) | omega)
            ·
              refine w_aload_n gz_185_83 rfl ?_
              refine w_iconst gz_185_84 (by decide) ?_
              refine w_inv (k := 0) (as := [(0, 5)]) (r := []) (x := 151) (ls0 := [(2, 151), (0, 5)]) gz_185_85 gm_178 rfl is_151 rd_10 rfl rfl rfl rfl rfl ?_
              refine w_aload_n gz_178_0 rfl ?_
              refine v_getI (j := 8) gz_178_1 rfl is_151 rd_10 rfl (fun v812 ev812 pv812 qv812 => ?_)
              have zv812 := ev812.trans cf
              refine w_ifne (t := 25) gz_178_4 rfl (fun u813 => by exfalso; omega) (fun u813 => ?_)
              refine w_aload_n gz_178_7 rfl ?_
              refine w_iload_n gz_178_8 rfl ?_
              refine w_bipush gz_178_9 (by decide) ?_
              refine w_aload_n gz_178_11 rfl ?_
              refine w_getX (v := 154) gz_178_12 is_151 rd_10 rfl (by decide) rfl ?_
              refine w_aload_n gz_178_15 rfl ?_
              refine v_getI (j := 7) gz_178_16 rfl is_151 rd_10 rfl (fun v815 ev815 pv815 qv815 => ?_)
              have zv815 := ev815.trans ek151_7.symm
              refine w_iald gz_178_19 is_154 rd_53 (by omega) (by omega) (fun v816 ev816 pv816 qv816 => ?_)
              have nz817 : v816 = sP (sm h) (h 151 7) := by
                have q := ev816
                rw [show (v815 : Int) = h 151 7 from by omega] at q
                exact q
              refine w_imul gz_178_20 ⟨by omega, by omega⟩ ?_
              refine w_iadd gz_178_21 ⟨by omega, by omega⟩ ?_
              refine v_putI (j := 8) gz_178_22 rfl is_151 rd_10 rfl (by omega) (by omega) rfl (fun h818 fh818 => ?_)
              have gh818 : my_fr [(10, 7), (10, 8), (10, 27), (66, -1), (67, -1), (68, -1), (69, -1), (70, -1), (71, -1), (72, -1), (73, -1), (74, -1), (75, -1), (77, -1), (78, -1), (79, -1)] h h818 := my_fr.up my_fr.rf is_151 fh818 rfl
              have Tok_h818 : Tok h818 := Tok_ag (my_ag.up fh818 is_151 rfl) n_Tok
              have Mq_h818 : Mq h818 wv := Mq_ag (my_ag.up fh818 is_151 rfl) n_Mq
              have Wrd_h818 : Wrd h818 := Wrd_ag (my_ag.up fh818 is_151 rfl) n_Wrd
              have Wd9_h818 : Wd9 h818 := Wd9_ag (my_ag.up fh818 is_151 rfl) n_Wd9
              have Ko_h818 : Ko h h818 := Ko_ag (my_ag.up fh818 is_151 rfl) (Ko_rf)
              refine w_vret gz_178_25 gm_178 ?_
              show wp l rho (d + 4) 185 88 [(2, 151), (0, 0), (0, 1), (0, 1), (0, 1), (9, 0), (9, 0), (9, 0)] [] h818 Q
              have psJ : h818 151 7 = h 151 7 := ((my_up_fld fh818 (by decide)).trans (rfl : h 151 7 = h 151 7))
              have npsJ : sm h818 = sm h := sm_eq (fun j => my_fr.at gh818 is_153 rfl) (fun j => my_fr.at gh818 is_154 rfl) (fun j => my_fr.at gh818 is_155 rfl)
              have ce819 : h818 151 7 = v815 := ((my_up_fld fh818 (by decide)).trans ev815.symm)
              have ce820 : h818 151 8 = (5 + (16 * v816)) := (my_up_self fh818)
              have ce821 : h818 151 27 = k151_27 := ((my_up_fld fh818 (by decide)).trans ek151_27.symm)
              have j167 : ∀ j : Int, h818 167 j = h 167 j := fun j => ((my_up_role fh818 is_167 is_151 rfl).trans (rfl : h 167 j = h 167 j))
              have j6 := j167 6
              exact J88_0 (0) (1) (1) (1) ((5 + (16 * v816))) h818 (gh818) (by omega) (by omega) (by omega) (by omega) (by omega) (by omega) (by omega) (by omega) (by omega) (by omega) (((my_up_fld fh818 (by decide)).trans ek151_27.symm).trans (by omega)) (((my_up_fld fh818 (by decide)).trans ek151_33.symm).trans (by omega)) (((my_up_fld fh818 (by decide)).trans ev815.symm).trans (by omega)) ((my_up_self fh818).trans (by omega)) Tok_h818 Mq_h818 Wrd_h818 Wd9_h818 Ko_h818 (by first | (intro q; exfalso; omega) | (intro _; assumption) | omega) (by first | (intro q; exfalso; omega) | (intro _ q; omega) | (intro _ q; exfalso; have w := Wrd_h818; unfold Wrd at w; omega) | omega) (by omega) (by omega) (by omega) (by first | (intro q; exfalso; omega) | (intro q; omega) | omega) (by first | (intro q; exfalso; omega) | (intro q; omega) | omega)
          ·
            show wp l rho (d + 4) 185 68 [(2, 151), (0, 0), (0, 1), (0, 1), (0, 1), (9, 0), (9, 0), (9, 0)] [(0, 1)] h Q
            rw [show wm 10 = 316695 from by decide] at xp804
            refine w_ifne (t := 88) gz_185_68 rfl (fun u822 => ?_) (fun u822 => by exfalso; omega)
            have psJ : h 151 7 = h 151 7 := (rfl : h 151 7 = h 151 7)
            have npsJ : sm h = sm h := rfl
            have ce823 : h 151 7 = k151_7 := ek151_7.symm
            have ce824 : h 151 8 = 0 := cf
            have ce825 : h 151 27 = k151_27 := ek151_27.symm
            have j167 : ∀ j : Int, h 167 j = h 167 j := fun _ => rfl
            have j6 := j167 6
            exact J88_0 (0) (1) (1) (1) (0) h (my_fr.rf) (by omega) (by omega) (by omega) (by omega) (by omega) (by omega) (by omega) (by omega) (by omega) (by omega) (ek151_27.symm.trans (by omega)) (ek151_33.symm.trans (by omega)) (ek151_7.symm.trans (by omega)) (cf.trans (by omega)) n_Tok n_Mq n_Wrd n_Wd9 (Ko_rf) (by first | (intro q; exfalso; omega) | (intro _; assumption) | omega) (by first | (intro q; exfalso; omega) | (intro _ q; omega) | (intro _ q; exfalso; have w := n_Wrd; unfold Wrd at w; omega) | omega) (by omega) (by omega) (by omega) (by first | (intro q; exfalso; omega) | (intro q; omega) | omega) (by first | (intro q; exfalso; omega) | (intro q; omega) | omega)
  ·
    show wp l rho (d + 4) 185 5 [(2, 151), (9, 0), (9, 0), (9, 0), (9, 0), (9, 0), (9, 0), (9, 0)] [(0, 1)] h Q
    rw [show wm 3 = 4904 from by decide] at xp511
    refine w_istore_n (ls' := [(2, 151), (0, 1), (9, 0), (9, 0), (9, 0), (9, 0), (9, 0), (9, 0)]) gz_185_5 gm_185 rfl rfl rfl ?_
    refine w_aload_n gz_185_6 rfl ?_
    refine w_bipush gz_185_7 (by decide) ?_
    refine w_inv (k := 0) (as := [(0, 7)]) (r := []) (x := 151) (ls0 := [(2, 151), (0, 7)]) gz_185_9 gm_177 rfl is_151 rd_10 rfl rfl rfl rfl rfl (c_Model_isWord9_f0 (d := (d + 3)) (x1 := 7) (by omega) (by omega) (cf.trans (by omega)) n_Wd9 (fun w826 xp827 => ?_) (fun w828 xp829 xp830 xp831 xp832 => ?_))
    ·
      show wp l rho (d + 4) 185 12 [(2, 151), (0, 1), (9, 0), (9, 0), (9, 0), (9, 0), (9, 0), (9, 0)] [(0, 0)] h Q
      rw [show wm 7 = 8422 from by decide] at xp827
      refine w_istore_n (ls' := [(2, 151), (0, 1), (0, 0), (9, 0), (9, 0), (9, 0), (9, 0), (9, 0)]) gz_185_12 gm_185 rfl rfl rfl ?_
      refine w_aload_n gz_185_13 rfl ?_
      refine w_bipush gz_185_14 (by decide) ?_
      refine w_inv (k := 0) (as := [(0, 8)]) (r := []) (x := 151) (ls0 := [(2, 151), (0, 8)]) gz_185_16 gm_177 rfl is_151 rd_10 rfl rfl rfl rfl rfl (c_Model_isWord9_f0 (d := (d + 3)) (x1 := 8) (by omega) (by omega) (cf.trans (by omega)) n_Wd9 (fun w833 xp834 => ?_) (fun w835 xp836 xp837 xp838 xp839 => ?_))
      ·
        show wp l rho (d + 4) 185 19 [(2, 151), (0, 1), (0, 0), (9, 0), (9, 0), (9, 0), (9, 0), (9, 0)] [(0, 0)] h Q
        rw [show wm 8 = 527412 from by decide] at xp834
        refine w_istore_n (ls' := [(2, 151), (0, 1), (0, 0), (0, 0), (9, 0), (9, 0), (9, 0), (9, 0)]) gz_185_19 gm_185 rfl rfl rfl ?_
        refine w_aload_n gz_185_20 rfl ?_
        refine w_bipush gz_185_21 (by decide) ?_
        refine w_inv (k := 0) (as := [(0, 11)]) (r := []) (x := 151) (ls0 := [(2, 151), (0, 11)]) gz_185_23 gm_177 rfl is_151 rd_10 rfl rfl rfl rfl rfl (c_Model_isWord9_f0 (d := (d + 3)) (x1 := 11) (by omega) (by omega) (cf.trans (by omega)) n_Wd9 (fun w840 xp841 => ?_) (fun w842 xp843 xp844 xp845 xp846 => ?_))
        ·
          show wp l rho (d + 4) 185 26 [(2, 151), (0, 1), (0, 0), (0, 0), (9, 0), (9, 0), (9, 0), (9, 0)] [(0, 0)] h Q
          rw [show wm 11 = 26801 from by decide] at xp841
          refine w_istore (ls' := [(2, 151), (0, 1), (0, 0), (0, 0), (0, 0), (9, 0), (9, 0), (9, 0)]) gz_185_26 gm_185 rfl rfl rfl ?_
          refine w_iload_n gz_185_28 rfl ?_
          refine w_ifne (t := 62) gz_185_29 rfl (fun u847 => ?_) (fun u847 => by exfalso; omega)
          refine w_aload_n gz_185_62 rfl ?_
          refine w_bipush gz_185_63 (by decide) ?_
          refine w_inv (k := 0) (as := [(0, 10)]) (r := []) (x := 151) (ls0 := [(2, 151), (0, 10)]) gz_185_65 gm_177 rfl is_151 rd_10 rfl rfl rfl rfl rfl (c_Model_isWord9_f0 (d := (d + 3)) (x1 := 10) (by omega) (by omega) (cf.trans (by omega)) n_Wd9 (fun w848 xp849 => ?_) (fun w850 xp851 xp852 xp853 xp854 => ?_))
          ·
            show wp l rho (d + 4) 185 68 [(2, 151), (0, 1), (0, 0), (0, 0), (0, 0), (9, 0), (9, 0), (9, 0)] [(0, 0)] h Q
            rw [show wm 10 = 316695 from by decide] at xp849
            refine w_ifne (t := 88) gz_185_68 rfl (fun u855 => by exfalso; omega) (fun u855 => ?_)
            refine w_aload_n gz_185_71 rfl ?_
            refine w_getX (v := 167) gz_185_72 is_151 rd_10 rfl (by decide) rfl ?_
            refine w_bipush gz_185_75 (by decide) ?_
            refine w_iald gz_185_77 is_167 rd_66 (by omega) (by omega) (fun v857 ev857 pv857 qv857 => ?_)
            refine w_bipush gz_185_78 (by decide) ?_
            refine w_icne (t := 88) gz_185_80 rfl (fun u858 => ?_) (fun u858 => ?_)
            ·
              have psJ : h 151 7 = h 151 7 := (rfl : h 151 7 = h 151 7)
              have npsJ : sm h = sm h := rfl
              have ce859 : h 151 7 = k151_7 := ek151_7.symm
              have ce860 : h 151 8 = 0 := cf
              have ce861 : h 151 27 = k151_27 := ek151_27.symm
              have j167 : ∀ j : Int, h 167 j = h 167 j := fun _ => rfl
              have j6 := j167 6
              exact J88_0 (1) (0) (0) (0) (0) h (my_fr.rf) (by omega) (by omega) (by omega) (by omega) (by omega) (by omega) (by omega) (by omega) (by omega) (by omega) (ek151_27.symm.trans (by omega)) (ek151_33.symm.trans (by omega)) (ek151_7.symm.trans (by omega)) (cf.trans (by omega)) n_Tok n_Mq n_Wrd n_Wd9 (Ko_rf) (by first | (intro q; exfalso; omega) | (intro _; assumption) | omega) (by first | (intro q; exfalso; omega) | (intro _ q; omega) | (intro _ q; exfalso; have w := n_Wrd; unfold Wrd at w; omega) | omega) (by omega) (by omega) (by omega) (by first | (intro q; exfalso; omega) | (intro q; omega) | omega) (by first | (intro q; exfalso; omega) | (intro q; omega) | omega)
            ·
              refine w_aload_n gz_185_83 rfl ?_
              refine w_iconst gz_185_84 (by decide) ?_
              refine w_inv (k := 0) (as := [(0, 5)]) (r := []) (x := 151) (ls0 := [(2, 151), (0, 5)]) gz_185_85 gm_178 rfl is_151 rd_10 rfl rfl rfl rfl rfl ?_
              refine w_aload_n gz_178_0 rfl ?_
              refine v_getI (j := 8) gz_178_1 rfl is_151 rd_10 rfl (fun v862 ev862 pv862 qv862 => ?_)
              have zv862 := ev862.trans cf
              refine w_ifne (t := 25) gz_178_4 rfl (fun u863 => by exfalso; omega) (fun u863 => ?_)
              refine w_aload_n gz_178_7 rfl ?_
              refine w_iload_n gz_178_8 rfl ?_
              refine w_bipush gz_178_9 (by decide) ?_
              refine w_aload_n gz_178_11 rfl ?_
              refine w_getX (v := 154) gz_178_12 is_151 rd_10 rfl (by decide) rfl ?_
              refine w_aload_n gz_178_15 rfl ?_
              refine v_getI (j := 7) gz_178_16 rfl is_151 rd_10 rfl (fun v865 ev865 pv865 qv865 => ?_)
              have zv865 := ev865.trans ek151_7.symm
              refine w_iald gz_178_19 is_154 rd_53 (by omega) (by omega) (fun v866 ev866 pv866 qv866 => ?_)
              have nz867 : v866 = sP (sm h) (h 151 7) := by
                have q := ev866
                rw [show (v865 : Int) = h 151 7 from by omega] at q
                exact q
              refine w_imul gz_178_20 ⟨by omega, by omega⟩ ?_
              refine w_iadd gz_178_21 ⟨by omega, by omega⟩ ?_
              refine v_putI (j := 8) gz_178_22 rfl is_151 rd_10 rfl (by omega) (by omega) rfl (fun h868 fh868 => ?_)
              have gh868 : my_fr [(10, 7), (10, 8), (10, 27), (66, -1), (67, -1), (68, -1), (69, -1), (70, -1), (71, -1), (72, -1), (73, -1), (74, -1), (75, -1), (77, -1), (78, -1), (79, -1)] h h868 := my_fr.up my_fr.rf is_151 fh868 rfl
              have Tok_h868 : Tok h868 := Tok_ag (my_ag.up fh868 is_151 rfl) n_Tok
              have Mq_h868 : Mq h868 wv := Mq_ag (my_ag.up fh868 is_151 rfl) n_Mq
              have Wrd_h868 : Wrd h868 := Wrd_ag (my_ag.up fh868 is_151 rfl) n_Wrd
              have Wd9_h868 : Wd9 h868 := Wd9_ag (my_ag.up fh868 is_151 rfl) n_Wd9
              have Ko_h868 : Ko h h868 := Ko_ag (my_ag.up fh868 is_151 rfl) (Ko_rf)
              refine w_vret gz_178_25 gm_178 ?_
              show wp l rho (d + 4) 185 88 [(2, 151), (0, 1), (0, 0), (0, 0), (0, 0), (9, 0), (9, 0), (9, 0)] [] h868 Q
              have psJ : h868 151 7 = h 151 7 := ((my_up_fld fh868 (by decide)).trans (rfl : h 151 7 = h 151 7))
              have npsJ : sm h868 = sm h := sm_eq (fun j => my_fr.at gh868 is_153 rfl) (fun j => my_fr.at gh868 is_154 rfl) (fun j => my_fr.at gh868 is_155 rfl)
              have ce869 : h868 151 7 = v865 := ((my_up_fld fh868 (by decide)).trans ev865.symm)
              have ce870 : h868 151 8 = (5 + (16 * v866)) := (my_up_self fh868)
              have ce871 : h868 151 27 = k151_27 := ((my_up_fld fh868 (by decide)).trans ek151_27.symm)
              have j167 : ∀ j : Int, h868 167 j = h 167 j := fun j => ((my_up_role fh868 is_167 is_151 rfl).trans (rfl : h 167 j = h 167 j))
              have j6 := j167 6
              exact J88_0 (1) (0) (0) (0) ((5 + (16 * v866))) h868 (gh868) (by omega) (by omega) (by omega) (by omega) (by omega) (by omega) (by omega) (by omega) (by omega) (by omega) (((my_up_fld fh868 (by decide)).trans ek151_27.symm).trans (by omega)) (((my_up_fld fh868 (by decide)).trans ek151_33.symm).trans (by omega)) (((my_up_fld fh868 (by decide)).trans ev865.symm).trans (by omega)) ((my_up_self fh868).trans (by omega)) Tok_h868 Mq_h868 Wrd_h868 Wd9_h868 Ko_h868 (by first | (intro q; exfalso; omega) | (intro _; assumption) | omega) (by first | (intro q; exfalso; omega) | (intro _ q; omega) | (intro _ q; exfalso; have w := Wrd_h868; unfold Wrd at w; omega) | omega) (by omega) (by omega) (by omega) (by first | (intro q; exfalso; omega) | (intro q; omega) | omega) (by first | (intro q; exfalso; omega) | (intro q; omega) | omega)
          ·
            show wp l rho (d + 4) 185 68 [(2, 151), (0, 1), (0, 0), (0, 0), (0, 0), (9, 0), (9, 0), (9, 0)] [(0, 1)] h Q
            rw [show wm 10 = 316695 from by decide] at xp854
            refine w_ifne (t := 88) gz_185_68 rfl (fun u872 => ?_) (fun u872 => by exfalso; omega)
            have psJ : h 151 7 = h 151 7 := (rfl : h 151 7 = h 151 7)
            have npsJ : sm h = sm h := rfl
            have ce873 : h 151 7 = k151_7 := ek151_7.symm
            have ce874 : h 151 8 = 0 := cf
            have ce875 : h 151 27 = k151_27 := ek151_27.symm
            have j167 : ∀ j : Int, h 167 j = h 167 j := fun _ => rfl
            have j6 := j167 6
            exact J88_0 (1) (0) (0) (0) (0) h (my_fr.rf) (by omega) (by omega) (by omega) (by omega) (by omega) (by omega) (by omega) (by omega) (by omega) (by omega) (ek151_27.symm.trans (by omega)) (ek151_33.symm.trans (by omega)) (ek151_7.symm.trans (by omega)) (cf.trans (by omega)) n_Tok n_Mq n_Wrd n_Wd9 (Ko_rf) (by first | (intro q; exfalso; omega) | (intro _; assumption) | omega) (by first | (intro q; exfalso; omega) | (intro _ q; omega) | (intro _ q; exfalso; have w := n_Wrd; unfold Wrd at w; omega) | omega) (by omega) (by omega) (by omega) (by first | (intro q; exfalso; omega) | (intro q; omega) | omega) (by first | (intro q; exfalso; omega) | (intro q; omega) | omega)
        ·
          show wp l rho (d + 4) 185 26 [(2, 151), (0, 1), (0, 0), (0, 0), (9, 0), (9, 0), (9, 0), (9, 0)] [(0, 1)] h Q
          rw [show wm 11 = 26801 from by decide] at xp846
          refine w_istore (ls' := [(2, 151), (0, 1), (0, 0), (0, 0), (0, 1), (9, 0), (9, 0), (9, 0)]) gz_185_26 gm_185 rfl rfl rfl ?_
          refine w_iload_n gz_185_28 rfl ?_
          refine w_ifne (t := 62) gz_185_29 rfl (fun u876 => ?_) (fun u876 => by exfalso; omega)
          refine w_aload_n gz_185_62 rfl ?_
          refine w_bipush gz_185_63 (by decide) ?_
          refine w_inv (k := 0) (as := [(0, 10)]) (r := []) (x := 151) (ls0 := [(2, 151), (0, 10)]) gz_185_65 gm_177 rfl is_151 rd_10 rfl rfl rfl rfl rfl (c_Model_isWord9_f0 (d := (d + 3)) (x1 := 10) (by omega) (by omega) (cf.trans (by omega)) n_Wd9 (fun w877 xp878 => ?_) (fun w879 xp880 xp881 xp882 xp883 => ?_))
          ·
            show wp l rho (d + 4) 185 68 [(2, 151), (0, 1), (0, 0), (0, 0), (0, 1), (9, 0), (9, 0), (9, 0)] [(0, 0)] h Q
            rw [show wm 10 = 316695 from by decide] at xp878
            refine w_ifne (t := 88) gz_185_68 rfl (fun u884 => by exfalso; omega) (fun u884 => ?_)
            refine w_aload_n gz_185_71 rfl ?_
            refine w_getX (v := 167) gz_185_72 is_151 rd_10 rfl (by decide) rfl ?_
            refine w_bipush gz_185_75 (by decide) ?_
            refine w_iald gz_185_77 is_167 rd_66 (by omega) (by omega) (fun v886 ev886 pv886 qv886 => ?_)
            refine w_bipush gz_185_78 (by decide) ?_
            refine w_icne (t := 88) gz_185_80 rfl (fun u887 => ?_) (fun u887 => ?_)
            ·
              have psJ : h 151 7 = h 151 7 := (rfl : h 151 7 = h 151 7)
              have npsJ : sm h = sm h := rfl
              have ce888 : h 151 7 = k151_7 := ek151_7.symm
              have ce889 : h 151 8 = 0 := cf
              have ce890 : h 151 27 = k151_27 := ek151_27.symm
              have j167 : ∀ j : Int, h 167 j = h 167 j := fun _ => rfl
              have j6 := j167 6
              exact J88_0 (1) (0) (0) (1) (0) h (my_fr.rf) (by omega) (by omega) (by omega) (by omega) (by omega) (by omega) (by omega) (by omega) (by omega) (by omega) (ek151_27.symm.trans (by omega)) (ek151_33.symm.trans (by omega)) (ek151_7.symm.trans (by omega)) (cf.trans (by omega)) n_Tok n_Mq n_Wrd n_Wd9 (Ko_rf) (by first | (intro q; exfalso; omega) | (intro _; assumption) | omega) (by first | (intro q; exfalso; omega) | (intro _ q; omega) | (intro _ q; exfalso; have w := n_Wrd; unfold Wrd at w; omega) | omega) (by omega) (by omega) (by omega) (by first | (intro q; exfalso; omega) | (intro q; omega) | omega) (by first | (intro q; exfalso; omega) | (intro q; omega) | omega)
            ·
              refine w_aload_n gz_185_83 rfl ?_
              refine w_iconst gz_185_84 (by decide) ?_
              refine w_inv (k := 0) (as := [(0, 5)]) (r := []) (x := 151) (ls0 := [(2, 151), (0, 5)]) gz_185_85 gm_178 rfl is_151 rd_10 rfl rfl rfl rfl rfl ?_
              refine w_aload_n gz_178_0 rfl ?_
              refine v_getI (j := 8) gz_178_1 rfl is_151 rd_10 rfl (fun v891 ev891 pv891 qv891 => ?_)
              have zv891 := ev891.trans cf
              refine w_ifne (t := 25) gz_178_4 rfl (fun u892 => by exfalso; omega) (fun u892 => ?_)
              refine w_aload_n gz_178_7 rfl ?_
              refine w_iload_n gz_178_8 rfl ?_
              refine w_bipush gz_178_9 (by decide) ?_
              refine w_aload_n gz_178_11 rfl ?_
              refine w_getX (v := 154) gz_178_12 is_151 rd_10 rfl (by decide) rfl ?_
              refine w_aload_n gz_178_15 rfl ?_
              refine v_getI (j := 7) gz_178_16 rfl is_151 rd_10 rfl (fun v894 ev894 pv894 qv894 => ?_)
              have zv894 := ev894.trans ek151_7.symm
              refine w_iald gz_178_19 is_154 rd_53 (by omega) (by omega) (fun v895 ev895 pv895 qv895 => ?_)
              have nz896 : v895 = sP (sm h) (h 151 7) := by
                have q := ev895
                rw [show (v894 : Int) = h 151 7 from by omega] at q
                exact q
              refine w_imul gz_178_20 ⟨by omega, by omega⟩ ?_
              refine w_iadd gz_178_21 ⟨by omega, by omega⟩ ?_
              refine v_putI (j := 8) gz_178_22 rfl is_151 rd_10 rfl (by omega) (by omega) rfl (fun h897 fh897 => ?_)
              have gh897 : my_fr [(10, 7), (10, 8), (10, 27), (66, -1), (67, -1), (68, -1), (69, -1), (70, -1), (71, -1), (72, -1), (73, -1), (74, -1), (75, -1), (77, -1), (78, -1), (79, -1)] h h897 := my_fr.up my_fr.rf is_151 fh897 rfl
              have Tok_h897 : Tok h897 := Tok_ag (my_ag.up fh897 is_151 rfl) n_Tok
              have Mq_h897 : Mq h897 wv := Mq_ag (my_ag.up fh897 is_151 rfl) n_Mq
              have Wrd_h897 : Wrd h897 := Wrd_ag (my_ag.up fh897 is_151 rfl) n_Wrd
              have Wd9_h897 : Wd9 h897 := Wd9_ag (my_ag.up fh897 is_151 rfl) n_Wd9
              have Ko_h897 : Ko h h897 := Ko_ag (my_ag.up fh897 is_151 rfl) (Ko_rf)
              refine w_vret gz_178_25 gm_178 ?_
              show wp l rho (d + 4) 185 88 [(2, 151), (0, 1), (0, 0), (0, 0), (0, 1), (9, 0), (9, 0), (9, 0)] [] h897 Q
              have psJ : h897 151 7 = h 151 7 := ((my_up_fld fh897 (by decide)).trans (rfl : h 151 7 = h 151 7))
              have npsJ : sm h897 = sm h := sm_eq (fun j => my_fr.at gh897 is_153 rfl) (fun j => my_fr.at gh897 is_154 rfl) (fun j => my_fr.at gh897 is_155 rfl)
              have ce898 : h897 151 7 = v894 := ((my_up_fld fh897 (by decide)).trans ev894.symm)
              have ce899 : h897 151 8 = (5 + (16 * v895)) := (my_up_self fh897)
              have ce900 : h897 151 27 = k151_27 := ((my_up_fld fh897 (by decide)).trans ek151_27.symm)
              have j167 : ∀ j : Int, h897 167 j = h 167 j := fun j => ((my_up_role fh897 is_167 is_151 rfl).trans (rfl : h 167 j = h 167 j))
              have j6 := j167 6
              exact J88_0 (1) (0) (0) (1) ((5 + (16 * v895))) h897 (gh897) (by omega) (by omega) (by omega) (by omega) (by omega) (by omega) (by omega) (by omega) (by omega) (by omega) (((my_up_fld fh897 (by decide)).trans ek151_27.symm).trans (by omega)) (((my_up_fld fh897 (by decide)).trans ek151_33.symm).trans (by omega)) (((my_up_fld fh897 (by decide)).trans ev894.symm).trans (by omega)) ((my_up_self fh897).trans (by omega)) Tok_h897 Mq_h897 Wrd_h897 Wd9_h897 Ko_h897 (by first | (intro q; exfalso; omega) | (intro _; assumption) | omega) (by first | (intro q; exfalso; omega) | (intro _ q; omega) | (intro _ q; exfalso; have w := Wrd_h897; unfold Wrd at w; omega) | omega) (by omega) (by omega) (by omega) (by first | (intro q; exfalso; omega) | (intro q; omega) | omega) (by first | (intro q; exfalso; omega) | (intro q; omega) | omega)
          ·
            show wp l rho (d + 4) 185 68 [(2, 151), (0, 1), (0, 0), (0, 0), (0, 1), (9, 0), (9, 0), (9, 0)] [(0, 1)] h Q
            rw [show wm 10 = 316695 from by decide] at xp883
            refine w_ifne (t := 88) gz_185_68 rfl (fun u901 => ?_) (fun u901 => by exfalso; omega)
            have psJ : h 151 7 = h 151 7 := (rfl : h 151 7 = h 151 7)
            have npsJ : sm h = sm h := rfl
            have ce902 : h 151 7 = k151_7 := ek151_7.symm
            have ce903 : h 151 8 = 0 := cf
            have ce904 : h 151 27 = k151_27 := ek151_27.symm
            have j167 : ∀ j : Int, h 167 j = h 167 j := fun _ => rfl
            have j6 := j167 6
            exact J88_0 (1) (0) (0) (1) (0) h (my_fr.rf) (by omega) (by omega) (by omega) (by omega) (by omega) (by omega) (by omega) (by omega) (by omega) (by omega) (ek151_27.symm.trans (by omega)) (ek151_33.symm.trans (by omega)) (ek151_7.symm.trans (by omega)) (cf.trans (by omega)) n_Tok n_Mq n_Wrd n_Wd9 (Ko_rf) (by first | (intro q; exfalso; omega) | (intro _; assumption) | omega) (by first | (intro q; exfalso; omega) | (intro _ q; omega) | (intro _ q; exfalso; have w := n_Wrd; unfold Wrd at w; omega) | omega) (by omega) (by omega) (by omega) (by first | (intro q; exfalso; omega) | (intro q; omega) | omega) (by first | (intro q; exfalso; omega) | (intro q; omega) | omega)
      ·
        show wp l rho (d + 4) 185 19 [(2, 151), (0, 1), (0, 0), (9, 0), (9, 0), (9, 0), (9, 0), (9, 0)] [(0, 1)] h Q
        rw [show wm 8 = 527412 from by decide] at xp839
        refine w_istore_n (ls' := [(2, 151), (0, 1), (0, 0), (0, 1), (9, 0), (9, 0), (9, 0), (9, 0)]) gz_185_19 gm_185 rfl rfl rfl ?_
        refine w_aload_n gz_185_20 rfl ?_
        refine w_bipush gz_185_21 (by decide) ?_
        refine w_inv (k := 0) (as := [(0, 11)]) (r := []) (x := 151) (ls0 := [(2, 151), (0, 11)]) gz_185_23 gm_177 rfl is_151 rd_10 rfl rfl rfl rfl rfl (c_Model_isWord9_f0 (d := (d + 3)) (x1 := 11) (by omega) (by omega) (cf.trans (by omega)) n_Wd9 (fun w905 xp906 => ?_) (fun w907 xp908 xp909 xp910 xp911 => ?_))
        ·
          show wp l rho (d + 4) 185 26 [(2, 151), (0, 1), (0, 0), (0, 1), (9, 0), (9, 0), (9, 0), (9, 0)] [(0, 0)] h Q
          rw [show wm 11 = 26801 from by decide] at xp906
          refine w_istore (ls' := [(2, 151), (0, 1), (0, 0), (0, 1), (0, 0), (9, 0), (9, 0), (9, 0)]) gz_185_26 gm_185 rfl rfl rfl ?_
          refine w_iload_n gz_185_28 rfl ?_
          refine w_ifne (t := 62) gz_185_29 rfl (fun u912 => ?_) (fun u912 => by exfalso; omega)
          refine w_aload_n gz_185_62 rfl ?_
          refine w_bipush gz_185_63 (by decide) ?_
          refine w_inv (k := 0) (as := [(0, 10)]) (r := []) (x := 151) (ls0 := [(2, 151), (0, 10)]) gz_185_65 gm_177 rfl is_151 rd_10 rfl rfl rfl rfl rfl (c_Model_isWord9_f0 (d := (d + 3)) (x1 := 10) (by omega) (by omega) (cf.trans (by omega)) n_Wd9 (fun w913 xp914 => ?_) (fun w915 xp916 xp917 xp918 xp919 => ?_))
          ·
            show wp l rho (d + 4) 185 68 [(2, 151), (0, 1), (0, 0), (0, 1), (0, 0), (9, 0), (9, 0), (9, 0)] [(0, 0)] h Q
            rw [show wm 10 = 316695 from by decide] at xp914
            refine w_ifne (t := 88) gz_185_68 rfl (fun u920 => by exfalso; omega) (fun u920 => ?_)
            refine w_aload_n gz_185_71 rfl ?_
            refine w_getX (v := 167) gz_185_72 is_151 rd_10 rfl (by decide) rfl ?_
            refine w_bipush gz_185_75 (by decide) ?_
            refine w_iald gz_185_77 is_167 rd_66 (by omega) (by omega) (fun v922 ev922 pv922 qv922 => ?_)
            refine w_bipush gz_185_78 (by decide) ?_
            refine w_icne (t := 88) gz_185_80 rfl (fun u923 => ?_) (fun u923 => ?_)
            ·
              have psJ : h 151 7 = h 151 7 := (rfl : h 151 7 = h 151 7)
              have npsJ : sm h = sm h := rfl
              have ce924 : h 151 7 = k151_7 := ek151_7.symm
              have ce925 : h 151 8 = 0 := cf
              have ce926 : h 151 27 = k151_27 := ek151_27.symm
              have j167 : ∀ j : Int, h 167 j = h 167 j := fun _ => rfl
              have j6 := j167 6
              exact J88_0 (1) (0) (1) (0) (0) h (my_fr.rf) (by omega) (by omega) (by omega) (by omega) (by omega) (by omega) (by omega) (by omega) (by omega) (by omega) (ek151_27.symm.trans (by omega)) (ek151_33.symm.trans (by omega)) (ek151_7.symm.trans (by omega)) (cf.trans (by omega)) n_Tok n_Mq n_Wrd n_Wd9 (Ko_rf) (by first | (intro q; exfalso; omega) | (intro _; assumption) | omega) (by first | (intro q; exfalso; omega) | (intro _ q; omega) | (intro _ q; exfalso; have w := n_Wrd; unfold Wrd at w; omega) | omega) (by omega) (by omega) (by omega) (by first | (intro q; exfalso; omega) | (intro q; omega) | omega) (by first | (intro q; exfalso; omega) | (intro q; omega) | omega)
            ·
              refine w_aload_n gz_185_83 rfl ?_
              refine w_iconst gz_185_84 (by decide) ?_
              refine w_inv (k := 0) (as := [(0, 5)]) (r := []) (x := 151) (ls0 := [(2, 151), (0, 5)]) gz_185_85 gm_178 rfl is_151 rd_10 rfl rfl rfl rfl rfl ?_
              refine w_aload_n gz_178_0 rfl ?_
              refine v_getI (j := 8) gz_178_1 rfl is_151 rd_10 rfl (fun v927 ev927 pv927 qv927 => ?_)
              have zv927 := ev927.trans cf
              refine w_ifne (t := 25) gz_178_4 rfl (fun u928 => by exfalso; omega) (fun u928 => ?_)
              refine w_aload_n gz_178_7 rfl ?_
              refine w_iload_n gz_178_8 rfl ?_
              refine w_bipush gz_178_9 (by decide) ?_
              refine w_aload_n gz_178_11 rfl ?_
              refine w_getX (v := 154) gz_178_12 is_151 rd_10 rfl (by decide) rfl ?_
              refine w_aload_n gz_178_15 rfl ?_
              refine v_getI (j := 7) gz_178_16 rfl is_151 rd_10 rfl (fun v930 ev930 pv930 qv930 => ?_)
              have zv930 := ev930.trans ek151_7.symm
              refine w_iald gz_178_19 is_154 rd_53 (by omega) (by omega) (fun v931 ev931 pv931 qv931 => ?_)
              have nz932 : v931 = sP (sm h) (h 151 7) := by
                have q := ev931
                rw [show (v930 : Int) = h 151 7 from by omega] at q
                exact q
              refine w_imul gz_178_20 ⟨by omega, by omega⟩ ?_
              refine w_iadd gz_178_21 ⟨by omega, by omega⟩ ?_
              refine v_putI (j := 8) gz_178_22 rfl is_151 rd_10 rfl (by omega) (by omega) rfl (fun h933 fh933 => ?_)
              have gh933 : my_fr [(10, 7), (10, 8), (10, 27), (66, -1), (67, -1), (68, -1), (69, -1), (70, -1), (71, -1), (72, -1), (73, -1), (74, -1), (75, -1), (77, -1), (78, -1), (79, -1)] h h933 := my_fr.up my_fr.rf is_151 fh933 rfl
              have Tok_h933 : Tok h933 := Tok_ag (my_ag.up fh933 is_151 rfl) n_Tok
              have Mq_h933 : Mq h933 wv := Mq_ag (my_ag.up fh933 is_151 rfl) n_Mq
              have Wrd_h933 : Wrd h933 := Wrd_ag (my_ag.up fh933 is_151 rfl) n_Wrd
              have Wd9_h933 : Wd9 h933 := Wd9_ag (my_ag.up fh933 is_151 rfl) n_Wd9
              have Ko_h933 : Ko h h933 := Ko_ag (my_ag.up fh933 is_151 rfl) (Ko_rf)
              refine w_vret gz_178_25 gm_178 ?_
              show wp l rho (d + 4) 185 88 [(2, 151), (0, 1), (0, 0), (0, 1), (0, 0), (9, 0), (9, 0), (9, 0)] [] h933 Q
              have psJ : h933 151 7 = h 151 7 := ((my_up_fld fh933 (by decide)).trans (rfl : h 151 7 = h 151 7))
              have npsJ : sm h933 = sm h := sm_eq (fun j => my_fr.at gh933 is_153 rfl) (fun j => my_fr.at gh933 is_154 rfl) (fun j => my_fr.at gh933 is_155 rfl)
              have ce934 : h933 151 7 = v930 := ((my_up_fld fh933 (by decide)).trans ev930.symm)
              have ce935 : h933 151 8 = (5 + (16 * v931)) := (my_up_self fh933)
              have ce936 : h933 151 27 = k151_27 := ((my_up_fld fh933 (by decide)).trans ek151_27.symm)
              have j167 : ∀ j : Int, h933 167 j = h 167 j := fun j => ((my_up_role fh933 is_167 is_151 rfl).trans (rfl : h 167 j = h 167 j))
              have j6 := j167 6
              exact J88_0 (1) (0) (1) (0) ((5 + (16 * v931))) h933 (gh933) (by omega) (by omega) (by omega) (by omega) (by omega) (by omega) (by omega) (by omega) (by omega) (by omega) (((my_up_fld fh933 (by decide)).trans ek151_27.symm).trans (by omega)) (((my_up_fld fh933 (by decide)).trans ek151_33.symm).trans (by omega)) (((my_up_fld fh933 (by decide)).trans ev930.symm).trans (by omega)) ((my_up_self fh933).trans (by omega)) Tok_h933 Mq_h933 Wrd_h933 Wd9_h933 Ko_h933 (by first | (intro q; exfalso; omega) | (intro _; assumption) | omega) (by first | (intro q; exfalso; omega) | (intro _ q; omega) | (intro _ q; exfalso; have w := Wrd_h933; unfold Wrd at w; omega) | omega) (by omega) (by omega) (by omega) (by first | (intro q; exfalso; omega) | (intro q; omega) | omega) (by first | (intro q; exfalso; omega) | (intro q; omega) | omega)
          ·
            show wp l rho (d + 4) 185 68 [(2, 151), (0, 1), (0, 0), (0, 1), (0, 0), (9, 0), (9, 0), (9, 0)] [(0, 1)] h Q
            rw [show wm 10 = 316695 from by decide] at xp919
            refine w_ifne (t := 88) gz_185_68 rfl (fun u937 => ?_) (fun u937 => by exfalso; omega)
            have psJ : h 151 7 = h 151 7 := (rfl : h 151 7 = h 151 7)
            have npsJ : sm h = sm h := rfl
            have ce938 : h 151 7 = k151_7 := ek151_7.symm
            have ce939 : h 151 8 = 0 := cf
            have ce940 : h 151 27 = k151_27 := ek151_27.symm
            have j167 : ∀ j : Int, h 167 j = h 167 j := fun _ => rfl
            have j6 := j167 6
            exact J88_0 (1) (0) (1) (0) (0) h (my_fr.rf) (by omega) (by omega) (by omega) (by omega) (by omega) (by omega) (by omega) (by omega) (by omega) (by omega) (ek151_27.symm.trans (by omega)) (ek151_33.symm.trans (by omega)) (ek151_7.symm.trans (by omega)) (cf.trans (by omega)) n_Tok n_Mq n_Wrd n_Wd9 (Ko_rf) (by first | (intro q; exfalso; omega) | (intro _; assumption) | omega) (by first | (intro q; exfalso; omega) | (intro _ q; omega) | (intro _ q; exfalso; have w := n_Wrd; unfold Wrd at w; omega) | omega) (by omega) (by omega) (by omega) (by first | (intro q; exfalso; omega) | (intro q; omega) | omega) (by first | (intro q; exfalso; omega) | (intro q; omega) | omega)
        ·
          show wp l rho (d + 4) 185 26 [(2, 151), (0, 1), (0, 0), (0, 1), (9, 0), (9, 0), (9, 0), (9, 0)] [(0, 1)] h Q
          rw [show wm 11 = 26801 from by decide] at xp911
          refine w_istore (ls' := [(2, 151), (0, 1), (0, 0), (0, 1), (0, 1), (9, 0), (9, 0), (9, 0)]) gz_185_26 gm_185 rfl rfl rfl ?_
          refine w_iload_n gz_185_28 rfl ?_
          refine w_ifne (t := 62) gz_185_29 rfl (fun u941 => ?_) (fun u941 => by exfalso; omega)
          refine w_aload_n gz_185_62 rfl ?_
          refine w_bipush gz_185_63 (by decide) ?_
          refine w_inv (k := 0) (as := [(0, 10)]) (r := []) (x := 151) (ls0 := [(2, 151), (0, 10)]) gz_185_65 gm_177 rfl is_151 rd_10 rfl rfl rfl rfl rfl (c_Model_isWord9_f0 (d := (d + 3)) (x1 := 10) (by omega) (by omega) (cf.trans (by omega)) n_Wd9 (fun w942 xp943 => ?_) (fun w944 xp945 xp946 xp947 xp948 => ?_))
          ·
            show wp l rho (d + 4) 185 68 [(2, 151), (0, 1), (0, 0), (0, 1), (0, 1), (9, 0), (9, 0), (9, 0)] [(0, 0)] h Q
            rw [show wm 10 = 316695 from by decide] at xp943
            refine w_ifne (t := 88) gz_185_68 rfl (fun u949 => by exfalso; omega) (fun u949 => ?_)
            refine w_aload_n gz_185_71 rfl ?_
            refine w_getX (v := 167) gz_185_72 is_151 rd_10 rfl (by decide) rfl ?_
            refine w_bipush gz_185_75 (by decide) ?_
            refine w_iald gz_185_77 is_167 rd_66 (by omega) (by omega) (fun v951 ev951 pv951 qv951 => ?_)
            refine w_bipush gz_185_78 (by decide) ?_
            refine w_icne (t := 88) gz_185_80 rfl (fun u952 => ?_) (fun u952 => ?_)
            ·
              have psJ : h 151 7 = h 151 7 := (rfl : h 151 7 = h 151 7)
              have npsJ : sm h = sm h := rfl
              have ce953 : h 151 7 = k151_7 := ek151_7.symm
              have ce954 : h 151 8 = 0 := cf
              have ce955 : h 151 27 = k151_27 := ek151_27.symm
              have j167 : ∀ j : Int, h 167 j = h 167 j := fun _ => rfl
              have j6 := j167 6
              exact J88_0 (1) (0) (1) (1) (0) h (my_fr.rf) (by omega) (by omega) (by omega) (by omega) (by omega) (by omega) (by omega) (by omega) (by omega) (by omega) (ek151_27.symm.trans (by omega)) (ek151_33.symm.trans (by omega)) (ek151_7.symm.trans (by omega)) (cf.trans (by omega)) n_Tok n_Mq n_Wrd n_Wd9 (Ko_rf) (by first | (intro q; exfalso; omega) | (intro _; assumption) | omega) (by first | (intro q; exfalso; omega) | (intro _ q; omega) | (intro _ q; exfalso; have w := n_Wrd; unfold Wrd at w; omega) | omega) (by omega) (by omega) (by omega) (by first | (intro q; exfalso; omega) | (intro q; omega) | omega) (by first | (intro q; exfalso; omega) | (intro q; omega) | omega)
            ·
              refine w_aload_n gz_185_83 rfl ?_
              refine w_iconst gz_185_84 (by decide) ?_
              refine w_inv (k := 0) (as := [(0, 5)]) (r := []) (x := 151) (ls0 := [(2, 151), (0, 5)]) gz_185_85 gm_178 rfl is_151 rd_10 rfl rfl rfl rfl rfl ?_
              refine w_aload_n gz_178_0 rfl ?_
              refine v_getI (j := 8) gz_178_1 rfl is_151 rd_10 rfl (fun v956 ev956 pv956 qv956 => ?_)
              have zv956 := ev956.trans cf
              refine w_ifne (t := 25) gz_178_4 rfl (fun u957 => by exfalso; omega) (fun u957 => ?_)
              refine w_aload_n gz_178_7 rfl ?_
              refine w_iload_n gz_178_8 rfl ?_
              refine w_bipush gz_178_9 (by decide) ?_
              refine w_aload_n gz_178_11 rfl ?_
              refine w_getX (v := 154) gz_178_12 is_151 rd_10 rfl (by decide) rfl ?_
              refine w_aload_n gz_178_15 rfl ?_
              refine v_getI (j := 7) gz_178_16 rfl is_151 rd_10 rfl (fun v959 ev959 pv959 qv959 => ?_)
              have zv959 := ev959.trans ek151_7.symm
              refine w_iald gz_178_19 is_154 rd_53 (by omega) (by omega) (fun v960 ev960 pv960 qv960 => ?_)
              have nz961 : v960 = sP (sm h) (h 151 7) := by
                have q := ev960
                rw [show (v959 : Int) = h 151 7 from by omega] at q
                exact q
              refine w_imul gz_178_20 ⟨by omega, by omega⟩ ?_
              refine w_iadd gz_178_21 ⟨by omega, by omega⟩ ?_
              refine v_putI (j := 8) gz_178_22 rfl is_151 rd_10 rfl (by omega) (by omega) rfl (fun h962 fh962 => ?_)
              have gh962 : my_fr [(10, 7), (10, 8), (10, 27), (66, -1), (67, -1), (68, -1), (69, -1), (70, -1), (71, -1), (72, -1), (73, -1), (74, -1), (75, -1), (77, -1), (78, -1), (79, -1)] h h962 := my_fr.up my_fr.rf is_151 fh962 rfl
              have Tok_h962 : Tok h962 := Tok_ag (my_ag.up fh962 is_151 rfl) n_Tok
              have Mq_h962 : Mq h962 wv := Mq_ag (my_ag.up fh962 is_151 rfl) n_Mq
              have Wrd_h962 : Wrd h962 := Wrd_ag (my_ag.up fh962 is_151 rfl) n_Wrd
              have Wd9_h962 : Wd9 h962 := Wd9_ag (my_ag.up fh962 is_151 rfl) n_Wd9
              have Ko_h962 : Ko h h962 := Ko_ag (my_ag.up fh962 is_151 rfl) (Ko_rf)
              refine w_vret gz_178_25 gm_178 ?_
              show wp l rho (d + 4) 185 88 [(2, 151), (0, 1), (0, 0), (0, 1), (0, 1), (9, 0), (9, 0), (9, 0)] [] h962 Q
              have psJ : h962 151 7 = h 151 7 := ((my_up_fld fh962 (by decide)).trans (rfl : h 151 7 = h 151 7))
              have npsJ : sm h962 = sm h := sm_eq (fun j => my_fr.at gh962 is_153 rfl) (fun j => my_fr.at gh962 is_154 rfl) (fun j => my_fr.at gh962 is_155 rfl)
              have ce963 : h962 151 7 = v959 := ((my_up_fld fh962 (by decide)).trans ev959.symm)
              have ce964 : h962 151 8 = (5 + (16 * v960)) := (my_up_self fh962)
              have ce965 : h962 151 27 = k151_27 := ((my_up_fld fh962 (by decide)).trans ek151_27.symm)
              have j167 : ∀ j : Int, h962 167 j = h 167 j := fun j => ((my_up_role fh962 is_167 is_151 rfl).trans (rfl : h 167 j = h 167 j))
              have j6 := j167 6
              exact J88_0 (1) (0) (1) (1) ((5 + (16 * v960))) h962 (gh962) (by omega) (by omega) (by omega) (by omega) (by omega) (by omega) (by omega) (by omega) (by omega) (by omega) (((my_up_fld fh962 (by decide)).trans ek151_27.symm).trans (by omega)) (((my_up_fld fh962 (by decide)).trans ek151_33.symm).trans (by omega)) (((my_up_fld fh962 (by decide)).trans ev959.symm).trans (by omega)) ((my_up_self fh962).trans (by omega)) Tok_h962 Mq_h962 Wrd_h962 Wd9_h962 Ko_h962 (by first | (intro q; exfalso; omega) | (intro _; assumption) | omega) (by first | (intro q; exfalso; omega) | (intro _ q; omega) | (intro _ q; exfalso; have w := Wrd_h962; unfold Wrd at w; omega) | omega) (by omega) (by omega) (by omega) (by first | (intro q; exfalso; omega) | (intro q; omega) | omega) (by first | (intro q; exfalso; omega) | (intro q; omega) | omega)
          ·
            show wp l rho (d + 4) 185 68 [(2, 151), (0, 1), (0, 0), (0, 1), (0, 1), (9, 0), (9, 0), (9, 0)] [(0, 1)] h Q
            rw [show wm 10 = 316695 from by decide] at xp948
            refine w_ifne (t := 88) gz_185_68 rfl (fun u966 => ?_) (fun u966 => by exfalso; omega)
            have psJ : h 151 7 = h 151 7 := (rfl : h 151 7 = h 151 7)
            have npsJ : sm h = sm h := rfl
            have ce967 : h 151 7 = k151_7 := ek151_7.symm
            have ce968 : h 151 8 = 0 := cf
            have ce969 : h 151 27 = k151_27 := ek151_27.symm
            have j167 : ∀ j : Int, h 167 j = h 167 j := fun _ => rfl
            have j6 := j167 6
            exact J88_0 (1) (0) (1) (1) (0) h (my_fr.rf) (by omega) (by omega) (by omega) (by omega) (by omega) (by omega) (by omega) (by omega) (by omega) (by omega) (ek151_27.symm.trans (by omega)) (ek151_33.symm.trans (by omega)) (ek151_7.symm.trans (by omega)) (cf.trans (by omega)) n_Tok n_Mq n_Wrd n_Wd9 (Ko_rf) (by first | (intro q; exfalso; omega) | (intro _; assumption) | omega) (by first | (intro q; exfalso; omega) | (intro _ q; omega) | (intro _ q; exfalso; have w := n_Wrd; unfold Wrd at w; omega) | omega) (by omega) (by omega) (by omega) (by first | (intro q; exfalso; omega) | (intro q; omega) | omega) (by first | (intro q; exfalso; omega) | (intro q; omega) | omega)
    ·
      show wp l rho (d + 4) 185 12 [(2, 151), (0, 1), (9, 0), (9, 0), (9, 0), (9, 0), (9, 0), (9, 0)] [(0, 1)] h Q
      rw [show wm 7 = 8422 from by decide] at xp832
      refine w_istore_n (ls' := [(2, 151), (0, 1), (0, 1), (9, 0), (9, 0), (9, 0), (9, 0), (9, 0)]) gz_185_12 gm_185 rfl rfl rfl ?_
      refine w_aload_n gz_185_13 rfl ?_
      refine w_bipush gz_185_14 (by decide) ?_
      refine w_inv (k := 0) (as := [(0, 8)]) (r := []) (x := 151) (ls0 := [(2, 151), (0, 8)]) gz_185_16 gm_177 rfl is_151 rd_10 rfl rfl rfl rfl rfl (c_Model_isWord9_f0 (d := (d + 3)) (x1 := 8) (by omega) (by omega) (cf.trans (by omega)) n_Wd9 (fun w970 xp971 => ?_) (fun w972 xp973 xp974 xp975 xp976 => ?_))
      ·
        show wp l rho (d + 4) 185 19 [(2, 151), (0, 1), (0, 1), (9, 0), (9, 0), (9, 0), (9, 0), (9, 0)] [(0, 0)] h Q
        rw [show wm 8 = 527412 from by decide] at xp971
        refine w_istore_n (ls' := [(2, 151), (0, 1), (0, 1), (0, 0), (9, 0), (9, 0), (9, 0), (9, 0)]) gz_185_19 gm_185 rfl rfl rfl ?_
        refine w_aload_n gz_185_20 rfl ?_
        refine w_bipush gz_185_21 (by decide) ?_
        refine w_inv (k := 0) (as := [(0, 11)]) (r := []) (x := 151) (ls0 := [(2, 151), (0, 11)]) gz_185_23 gm_177 rfl is_151 rd_10 rfl rfl rfl rfl rfl (c_Model_isWord9_f0 (d := (d + 3)) (x1 := 11) (by omega) (by omega) (cf.trans (by omega)) n_Wd9 (fun w977 xp978 => ?_) (fun w979 xp980 xp981 xp982 xp983 => ?_))
        ·
          show wp l rho (d + 4) 185 26 [(2, 151), (0, 1), (0, 1), (0, 0), (9, 0), (9, 0), (9, 0), (9, 0)] [(0, 0)] h Q
          rw [show wm 11 = 26801 from by decide] at xp978
          refine w_istore (ls' := [(2, 151), (0, 1), (0, 1), (0, 0), (0, 0), (9, 0), (9, 0), (9, 0)]) gz_185_26 gm_185 rfl rfl rfl ?_
          refine w_iload_n gz_185_28 rfl ?_
          refine w_ifne (t := 62) gz_185_29 rfl (fun u984 => ?_) (fun u984 => by exfalso; omega)
          refine w_aload_n gz_185_62 rfl ?_
          refine w_bipush gz_185_63 (by decide) ?_
          refine w_inv (k := 0) (as := [(0, 10)]) (r := []) (x := 151) (ls0 := [(2, 151), (0, 10)]) gz_185_65 gm_177 rfl is_151 rd_10 rfl rfl rfl rfl rfl (c_Model_isWord9_f0 (d := (d + 3)) (x1 := 10) (by omega) (by omega) (cf.trans (by omega)) n_Wd9 (fun w985 xp986 => ?_) (fun w987 xp988 xp989 xp990 xp991 => ?_))
          ·
            show wp l rho (d + 4) 185 68 [(2, 151), (0, 1), (0, 1), (0, 0), (0, 0), (9, 0), (9, 0), (9, 0)] [(0, 0)] h Q
            rw [show wm 10 = 316695 from by decide] at xp986
            refine w_ifne (t := 88) gz_185_68 rfl (fun u992 => by exfalso; omega) (fun u992 => ?_)
            refine w_aload_n gz_185_71 rfl ?_
            refine w_getX (v := 167) gz_185_72 is_151 rd_10 rfl (by decide) rfl ?_
            refine w_bipush gz_185_75 (by decide) ?_
            refine w_iald gz_185_77 is_167 rd_66 (by omega) (by omega) (fun v994 ev994 pv994 qv994 => ?_)
            refine w_bipush gz_185_78 (by decide) ?_
            refine w_icne (t := 88) gz_185_80 rfl (fun u995 => ?_) (fun u995 => ?_)
            ·
              have psJ : h 151 7 = h 151 7 := (rfl : h 151 7 = h 151 7)
              have npsJ : sm h = sm h := rfl
              have ce996 : h 151 7 = k151_7 := ek151_7.symm
              have ce997 : h 151 8 = 0 := cf
              have ce998 : h 151 27 = k151_27 := ek151_27.symm
              have j167 : ∀ j : Int, h 167 j = h 167 j := fun _ => rfl
              have j6 := j167 6
              exact J88_0 (1) (1) (0) (0) (0) h (my_fr.rf) (by omega) (by omega) (by omega) (by omega) (by omega) (by omega) (by omega) (by omega) (by omega) (by omega) (ek151_27.symm.trans (by omega)) (ek151_33.symm.trans (by omega)) (ek151_7.symm.trans (by omega)) (cf.trans (by omega)) n_Tok n_Mq n_Wrd n_Wd9 (Ko_rf) (by first | (intro q; exfalso; omega) | (intro _; assumption) | omega) (by first | (intro q; exfalso; omega) | (intro _ q; omega) | (intro _ q; exfalso; have w := n_Wrd; unfold Wrd at w; omega) | omega) (by omega) (by omega) (by omega) (by first | (intro q; exfalso; omega) | (intro q; omega) | omega) (by first | (intro q; exfalso; omega) | (intro q; omega) | omega)
            ·
              refine w_aload_n gz_185_83 rfl ?_
              refine w_iconst gz_185_84 (by decide) ?_
              refine w_inv (k := 0) (as := [(0, 5)]) (r := []) (x := 151) (ls0 := [(2, 151), (0, 5)]) gz_185_85 gm_178 rfl is_151 rd_10 rfl rfl rfl rfl rfl ?_
              refine w_aload_n gz_178_0 rfl ?_
              refine v_getI (j := 8) gz_178_1 rfl is_151 rd_10 rfl (fun v999 ev999 pv999 qv999 => ?_)
              have zv999 := ev999.trans cf
              refine w_ifne (t := 25) gz_178_4 rfl (fun u1000 => by exfalso; omega) (fun u1000 => ?_)
              refine w_aload_n gz_178_7 rfl ?_
              refine w_iload_n gz_178_8 rfl ?_
              refine w_bipush gz_178_9 (by decide) ?_
              refine w_aload_n gz_178_11 rfl ?_
              refine w_getX (v := 154) gz_178_12 is_151 rd_10 rfl (by decide) rfl ?_
              refine w_aload_n gz_178_15 rfl ?_
              refine v_getI (j := 7) gz_178_16 rfl is_151 rd_10 rfl (fun v1002 ev1002 pv1002 qv1002 => ?_)
              have zv1002 := ev1002.trans ek151_7.symm
              refine w_iald gz_178_19 is_154 rd_53 (by omega) (by omega) (fun v1003 ev1003 pv1003 qv1003 => ?_)
              have nz1004 : v1003 = sP (sm h) (h 151 7) := by
                have q := ev1003
                rw [show (v1002 : Int) = h 151 7 from by omega] at q
                exact q
              refine w_imul gz_178_20 ⟨by omega, by omega⟩ ?_
              refine w_iadd gz_178_21 ⟨by omega, by omega⟩ ?_
              refine v_putI (j := 8) gz_178_22 rfl is_151 rd_10 rfl (by omega) (by omega) rfl (fun h1005 fh1005 => ?_)
              have gh1005 : my_fr [(10, 7), (10, 8), (10, 27), (66, -1), (67, -1), (68, -1), (69, -1), (70, -1), (71, -1), (72, -1), (73, -1), (74, -1), (75, -1), (77, -1), (78, -1), (79, -1)] h h1005 := my_fr.up my_fr.rf is_151 fh1005 rfl
              have Tok_h1005 : Tok h1005 := Tok_ag (my_ag.up fh1005 is_151 rfl) n_Tok
              have Mq_h1005 : Mq h1005 wv := Mq_ag (my_ag.up fh1005 is_151 rfl) n_Mq
              have Wrd_h1005 : Wrd h1005 := Wrd_ag (my_ag.up fh1005 is_151 rfl) n_Wrd
              have Wd9_h1005 : Wd9 h1005 := Wd9_ag (my_ag.up fh1005 is_151 rfl) n_Wd9
              have Ko_h1005 : Ko h h1005 := Ko_ag (my_ag.up fh1005 is_151 rfl) (Ko_rf)
              refine w_vret gz_178_25 gm_178 ?_
              show wp l rho (d + 4) 185 88 [(2, 151), (0, 1), (0, 1), (0, 0), (0, 0), (9, 0), (9, 0), (9, 0)] [] h1005 Q
              have psJ : h1005 151 7 = h 151 7 := ((my_up_fld fh1005 (by decide)).trans (rfl : h 151 7 = h 151 7))
              have npsJ : sm h1005 = sm h := sm_eq (fun j => my_fr.at gh1005 is_153 rfl) (fun j => my_fr.at gh1005 is_154 rfl) (fun j => my_fr.at gh1005 is_155 rfl)
              have ce1006 : h1005 151 7 = v1002 := ((my_up_fld fh1005 (by decide)).trans ev1002.symm)
              have ce1007 : h1005 151 8 = (5 + (16 * v1003)) := (my_up_self fh1005)
              have ce1008 : h1005 151 27 = k151_27 := ((my_up_fld fh1005 (by decide)).trans ek151_27.symm)
              have j167 : ∀ j : Int, h1005 167 j = h 167 j := fun j => ((my_up_role fh1005 is_167 is_151 rfl).trans (rfl : h 167 j = h 167 j))
              have j6 := j167 6
              exact J88_0 (1) (1) (0) (0) ((5 + (16 * v1003))) h1005 (gh1005) (by omega) (by omega) (by omega) (by omega) (by omega) (by omega) (by omega) (by omega) (by omega) (by omega) (((my_up_fld fh1005 (by decide)).trans ek151_27.symm).trans (by omega)) (((my_up_fld fh1005 (by decide)).trans ek151_33.symm).trans (by omega)) (((my_up_fld fh1005 (by decide)).trans ev1002.symm).trans (by omega)) ((my_up_self fh1005).trans (by omega)) Tok_h1005 Mq_h1005 Wrd_h1005 Wd9_h1005 Ko_h1005 (by first | (intro q; exfalso; omega) | (intro _; assumption) | omega) (by first | (intro q; exfalso; omega) | (intro _ q; omega) | (intro _ q; exfalso; have w := Wrd_h1005; unfold Wrd at w; omega) | omega) (by omega) (by omega) (by omega) (by first | (intro q; exfalso; omega) | (intro q; omega) | omega) (by first | (intro q; exfalso; omega) | (intro q; omega) | omega)
          ·
            show wp l rho (d + 4) 185 68 [(2, 151), (0, 1), (0, 1), (0, 0), (0, 0), (9, 0), (9, 0), (9, 0)] [(0, 1)] h Q
            rw [show wm 10 = 316695 from by decide] at xp991
            refine w_ifne (t := 88) gz_185_68 rfl (fun u1009 => ?_) (fun u1009 => by exfalso; omega)
            have psJ : h 151 7 = h 151 7 := (rfl : h 151 7 = h 151 7)
            have npsJ : sm h = sm h := rfl
            have ce1010 : h 151 7 = k151_7 := ek151_7.symm
            have ce1011 : h 151 8 = 0 := cf
            have ce1012 : h 151 27 = k151_27 := ek151_27.symm
            have j167 : ∀ j : Int, h 167 j = h 167 j := fun _ => rfl
            have j6 := j167 6
            exact J88_0 (1) (1) (0) (0) (0) h (my_fr.rf) (by omega) (by omega) (by omega) (by omega) (by omega) (by omega) (by omega) (by omega) (by omega) (by omega) (ek151_27.symm.trans (by omega)) (ek151_33.symm.trans (by omega)) (ek151_7.symm.trans (by omega)) (cf.trans (by omega)) n_Tok n_Mq n_Wrd n_Wd9 (Ko_rf) (by first | (intro q; exfalso; omega) | (intro _; assumption) | omega) (by first | (intro q; exfalso; omega) | (intro _ q; omega) | (intro _ q; exfalso; have w := n_Wrd; unfold Wrd at w; omega) | omega) (by omega) (by omega) (by omega) (by first | (intro q; exfalso; omega) | (intro q; omega) | omega) (by first | (intro q; exfalso; omega) | (intro q; omega) | omega)
        ·
          show wp l rho (d + 4) 185 26 [(2, 151), (0, 1), (0, 1), (0, 0), (9, 0), (9, 0), (9, 0), (9, 0)] [(0, 1)] h Q
          rw [show wm 11 = 26801 from by decide] at xp983
          refine w_istore (ls' := [(2, 151), (0, 1), (0, 1), (0, 0), (0, 1), (9, 0), (9, 0), (9, 0)]) gz_185_26 gm_185 rfl rfl rfl ?_
          refine w_iload_n gz_185_28 rfl ?_
          refine w_ifne (t := 62) gz_185_29 rfl (fun u1013 => ?_) (fun u1013 => by exfalso; omega)
          refine w_aload_n gz_185_62 rfl ?_
          refine w_bipush gz_185_63 (by decide) ?_
          refine w_inv (k := 0) (as := [(0, 10)]) (r := []) (x := 151) (ls0 := [(2, 151), (0, 10)]) gz_185_65 gm_177 rfl is_151 rd_10 rfl rfl rfl rfl rfl (c_Model_isWord9_f0 (d := (d + 3)) (x1 := 10) (by omega) (by omega) (cf.trans (by omega)) n_Wd9 (fun w1014 xp1015 => ?_) (fun w1016 xp1017 xp1018 xp1019 xp1020 => ?_))
          ·
            show wp l rho (d + 4) 185 68 [(2, 151), (0, 1), (0, 1), (0, 0), (0, 1), (9, 0), (9, 0), (9, 0)] [(0, 0)] h Q
            rw [show wm 10 = 316695 from by decide] at xp1015
            refine w_ifne (t := 88) gz_185_68 rfl (fun u1021 => by exfalso; omega) (fun u1021 => ?_)
            refine w_aload_n gz_185_71 rfl ?_
            refine w_getX (v := 167) gz_185_72 is_151 rd_10 rfl (by decide) rfl ?_
            refine w_bipush gz_185_75 (by decide) ?_
            refine w_iald gz_185_77 is_167 rd_66 (by omega) (by omega) (fun v1023 ev1023 pv1023 qv1023 => ?_)
            refine w_bipush gz_185_78 (by decide) ?_
            refine w_icne (t := 88) gz_185_80 rfl (fun u1024 => ?_) (fun u1024 => ?_)
            ·
              have psJ : h 151 7 = h 151 7 := (rfl : h 151 7 = h 151 7)
              have npsJ : sm h = sm h := rfl
              have ce1025 : h 151 7 = k151_7 := ek151_7.symm
              have ce1026 : h 151 8 = 0 := cf
              have ce1027 : h 151 27 = k151_27 := ek151_27.symm
              have j167 : ∀ j : Int, h 167 j = h 167 j := fun _ => rfl
              have j6 := j167 6
              exact J88_0 (1) (1) (0) (1) (0) h (my_fr.rf) (by omega) (by omega) (by omega) (by omega) (by omega) (by omega) (by omega) (by omega) (by omega) (by omega) (ek151_27.symm.trans (by omega)) (ek151_33.symm.trans (by omega)) (ek151_7.symm.trans (by omega)) (cf.trans (by omega)) n_Tok n_Mq n_Wrd n_Wd9 (Ko_rf) (by first | (intro q; exfalso; omega) | (intro _; assumption) | omega) (by first | (intro q; exfalso; omega) | (intro _ q; omega) | (intro _ q; exfalso; have w := n_Wrd; unfold Wrd at w; omega) | omega) (by omega) (by omega) (by omega) (by first | (intro q; exfalso; omega) | (intro q; omega) | omega) (by first | (intro q; exfalso; omega) | (intro q; omega) | omega)
            ·
              refine w_aload_n gz_185_83 rfl ?_
              refine w_iconst gz_185_84 (by decide) ?_
              refine w_inv (k := 0) (as := [(0, 5)]) (r := []) (x := 151) (ls0 := [(2, 151), (0, 5)]) gz_185_85 gm_178 rfl is_151 rd_10 rfl rfl rfl rfl rfl ?_
              refine w_aload_n gz_178_0 rfl ?_
              refine v_getI (j := 8) gz_178_1 rfl is_151 rd_10 rfl (fun v1028 ev1028 pv1028 qv1028 => ?_)
              have zv1028 := ev1028.trans cf
              refine w_ifne (t := 25) gz_178_4 rfl (fun u1029 => by exfalso; omega) (fun u1029 => ?_)
              refine w_aload_n gz_178_7 rfl ?_
              refine w_iload_n gz_178_8 rfl ?_
              refine w_bipush gz_178_9 (by decide) ?_
              refine w_aload_n gz_178_11 rfl ?_
              refine w_getX (v := 154) gz_178_12 is_151 rd_10 rfl (by decide) rfl ?_
              refine w_aload_n gz_178_15 rfl ?_
              refine v_getI (j := 7) gz_178_16 rfl is_151 rd_10 rfl (fun v1031 ev1031 pv1031 qv1031 => ?_)
              have zv1031 := ev1031.trans ek151_7.symm
              refine w_iald gz_178_19 is_154 rd_53 (by omega) (by omega) (fun v1032 ev1032 pv1032 qv1032 => ?_)
              have nz1033 : v1032 = sP (sm h) (h 151 7) := by
                have q := ev1032
                rw [show (v1031 : Int) = h 151 7 from by omega] at q
                exact q
              refine w_imul gz_178_20 ⟨by omega, by omega⟩ ?_
              refine w_iadd gz_178_21 ⟨by omega, by omega⟩ ?_
              refine v_putI (j := 8) gz_178_22 rfl is_151 rd_10 rfl (by omega) (by omega) rfl (fun h1034 fh1034 => ?_)
              have gh1034 : my_fr [(10, 7), (10, 8), (10, 27), (66, -1), (67, -1), (68, -1), (69, -1), (70, -1), (71, -1), (72, -1), (73, -1), (74, -1), (75, -1), (77, -1), (78, -1), (79, -1)] h h1034 := my_fr.up my_fr.rf is_151 fh1034 rfl
              have Tok_h1034 : Tok h1034 := Tok_ag (my_ag.up fh1034 is_151 rfl) n_Tok
              have Mq_h1034 : Mq h1034 wv := Mq_ag (my_ag.up fh1034 is_151 rfl) n_Mq
              have Wrd_h1034 : Wrd h1034 := Wrd_ag (my_ag.up fh1034 is_151 rfl) n_Wrd
              have Wd9_h1034 : Wd9 h1034 := Wd9_ag (my_ag.up fh1034 is_151 rfl) n_Wd9
              have Ko_h1034 : Ko h h1034 := Ko_ag (my_ag.up fh1034 is_151 rfl) (Ko_rf)
              refine w_vret gz_178_25 gm_178 ?_
              show wp l rho (d + 4) 185 88 [(2, 151), (0, 1), (0, 1), (0, 0), (0, 1), (9, 0), (9, 0), (9, 0)] [] h1034 Q
              have psJ : h1034 151 7 = h 151 7 := ((my_up_fld fh1034 (by decide)).trans (rfl : h 151 7 = h 151 7))
              have npsJ : sm h1034 = sm h := sm_eq (fun j => my_fr.at gh1034 is_153 rfl) (fun j => my_fr.at gh1034 is_154 rfl) (fun j => my_fr.at gh1034 is_155 rfl)
              have ce1035 : h1034 151 7 = v1031 := ((my_up_fld fh1034 (by decide)).trans ev1031.symm)
              have ce1036 : h1034 151 8 = (5 + (16 * v1032)) := (my_up_self fh1034)
              have ce1037 : h1034 151 27 = k151_27 := ((my_up_fld fh1034 (by decide)).trans ek151_27.symm)
              have j167 : ∀ j : Int, h1034 167 j = h 167 j := fun j => ((my_up_role fh1034 is_167 is_151 rfl).trans (rfl : h 167 j = h 167 j))
              have j6 := j167 6
              exact J88_0 (1) (1) (0) (1) ((5 + (16 * v1032))) h1034 (gh1034) (by omega) (by omega) (by omega) (by omega) (by omega) (by omega) (by omega) (by omega) (by omega) (by omega) (((my_up_fld fh1034 (by decide)).trans ek151_27.symm).trans (by omega)) (((my_up_fld fh1034 (by decide)).trans ek151_33.symm).trans (by omega)) (((my_up_fld fh1034 (by decide)).trans ev1031.symm).trans (by omega)) ((my_up_self fh1034).trans (by omega)) Tok_h1034 Mq_h1034 Wrd_h1034 Wd9_h1034 Ko_h1034 (by first | (intro q; exfalso; omega) | (intro _; assumption) | omega) (by first | (intro q; exfalso; omega) | (intro _ q; omega) | (intro _ q; exfalso; have w := Wrd_h1034; unfold Wrd at w; omega) | omega) (by omega) (by omega) (by omega) (by first | (intro q; exfalso; omega) | (intro q; omega) | omega) (by first | (intro q; exfalso; omega) | (intro q; omega) | omega)
          ·
            show wp l rho (d + 4) 185 68 [(2, 151), (0, 1), (0, 1), (0, 0), (0, 1), (9, 0), (9, 0), (9, 0)] [(0, 1)] h Q
            rw [show wm 10 = 316695 from by decide] at xp1020
            refine w_ifne (t := 88) gz_185_68 rfl (fun u1038 => ?_) (fun u1038 => by exfalso; omega)
            have psJ : h 151 7 = h 151 7 := (rfl : h 151 7 = h 151 7)
            have npsJ : sm h = sm h := rfl
            have ce1039 : h 151 7 = k151_7 := ek151_7.symm
            have ce1040 : h 151 8 = 0 := cf
            have ce1041 : h 151 27 = k151_27 := ek151_27.symm
            have j167 : ∀ j : Int, h 167 j = h 167 j := fun _ => rfl
            have j6 := j167 6
            exact J88_0 (1) (1) (0) (1) (0) h (my_fr.rf) (by omega) (by omega) (by omega) (by omega) (by omega) (by omega) (by omega) (by omega) (by omega) (by omega) (ek151_27.symm.trans (by omega)) (ek151_33.symm.trans (by omega)) (ek151_7.symm.trans (by omega)) (cf.trans (by omega)) n_Tok n_Mq n_Wrd n_Wd9 (Ko_rf) (by first | (intro q; exfalso; omega) | (intro _; assumption) | omega) (by first | (intro q; exfalso; omega) | (intro _ q; omega) | (intro _ q; exfalso; have w := n_Wrd; unfold Wrd at w; omega) | omega) (by omega) (by omega) (by omega) (by first | (intro q; exfalso; omega) | (intro q; omega) | omega) (by first | (intro q; exfalso; omega) | (intro q; omega) | omega)
      ·
        show wp l rho (d + 4) 185 19 [(2, 151), (0, 1), (0, 1), (9, 0), (9, 0), (9, 0), (9, 0), (9, 0)] [(0, 1)] h Q
        rw [show wm 8 = 527412 from by decide] at xp976
        refine w_istore_n (ls' := [(2, 151), (0, 1), (0, 1), (0, 1), (9, 0), (9, 0), (9, 0), (9, 0)]) gz_185_19 gm_185 rfl rfl rfl ?_
        refine w_aload_n gz_185_20 rfl ?_
        refine w_bipush gz_185_21 (by decide) ?_
        refine w_inv (k := 0) (as := [(0, 11)]) (r := []) (x := 151) (ls0 := [(2, 151), (0, 11)]) gz_185_23 gm_177 rfl is_151 rd_10 rfl rfl rfl rfl rfl (c_Model_isWord9_f0 (d := (d + 3)) (x1 := 11) (by omega) (by omega) (cf.trans (by omega)) n_Wd9 (fun w1042 xp1043 => ?_) (fun w1044 xp1045 xp1046 xp1047 xp1048 => ?_))
        ·
          show wp l rho (d + 4) 185 26 [(2, 151), (0, 1), (0, 1), (0, 1), (9, 0), (9, 0), (9, 0), (9, 0)] [(0, 0)] h Q
          rw [show wm 11 = 26801 from by decide] at xp1043
          refine w_istore (ls' := [(2, 151), (0, 1), (0, 1), (0, 1), (0, 0), (9, 0), (9, 0), (9, 0)]) gz_185_26 gm_185 rfl rfl rfl ?_
          refine w_iload_n gz_185_28 rfl ?_
          refine w_ifne (t := 62) gz_185_29 rfl (fun u1049 => ?_) (fun u1049 => by exfalso; omega)
          refine w_aload_n gz_185_62 rfl ?_
          refine w_bipush gz_185_63 (by decide) ?_
          refine w_inv (k := 0) (as := [(0, 10)]) (r := []) (x := 151) (ls0 := [(2, 151), (0, 10)]) gz_185_65 gm_177 rfl is_151 rd_10 rfl rfl rfl rfl rfl (c_Model_isWord9_f0 (d := (d + 3)) (x1 := 10) (by omega) (by omega) (cf.trans (by omega)) n_Wd9 (fun w1050 xp1051 => ?_) (fun w1052 xp1053 xp1054 xp1055 xp1056 => ?_))
          ·
            show wp l rho (d + 4) 185 68 [(2, 151), (0, 1), (0, 1), (0, 1), (0, 0), (9, 0), (9, 0), (9, 0)] [(0, 0)] h Q
            rw [show wm 10 = 316695 from by decide] at xp1051
            refine w_ifne (t := 88) gz_185_68 rfl (fun u1057 => by exfalso; omega) (fun u1057 => ?_)
            refine w_aload_n gz_185_71 rfl ?_
            refine w_getX (v := 167) gz_185_72 is_151 rd_10 rfl (by decide) rfl ?_
            refine w_bipush gz_185_75 (by decide) ?_
            refine w_iald gz_185_77 is_167 rd_66 (by omega) (by omega) (fun v1059 ev1059 pv1059 qv1059 => ?_)
            refine w_bipush gz_185_78 (by decide) ?_
            refine w_icne (t := 88) gz_185_80 rfl (fun u1060 => ?_) (fun u1060 => ?_)
            ·
              have psJ : h 151 7 = h 151 7 := (rfl : h 151 7 = h 151 7)
              have npsJ : sm h = sm h := rfl
              have ce1061 : h 151 7 = k151_7 := ek151_7.symm
              have ce1062 : h 151 8 = 0 := cf
              have ce1063 : h 151 27 = k151_27 := ek151_27.symm
              have j167 : ∀ j : Int, h 167 j = h 167 j := fun _ => rfl
              have j6 := j167 6
              exact J88_0 (1) (1) (1) (0) (0) h (my_fr.rf) (by omega) (by omega) (by omega) (by omega) (by omega) (by omega) (by omega) (by omega) (by omega) (by omega) (ek151_27.symm.trans (by omega)) (ek151_33.symm.trans (by omega)) (ek151_7.symm.trans (by omega)) (cf.trans (by omega)) n_Tok n_Mq n_Wrd n_Wd9 (Ko_rf) (by first | (intro q; exfalso; omega) | (intro _; assumption) | omega) (by first | (intro q; exfalso; omega) | (intro _ q; omega) | (intro _ q; exfalso; have w := n_Wrd; unfold Wrd at w; omega) | omega) (by omega) (by omega) (by omega) (by first | (intro q; exfalso; omega) | (intro q; omega) | omega) (by first | (intro q; exfalso; omega) | (intro q; omega) | omega)
            ·
              refine w_aload_n gz_185_83 rfl ?_
              refine w_iconst gz_185_84 (by decide) ?_
              refine w_inv (k := 0) (as := [(0, 5)]) (r := []) (x := 151) (ls0 := [(2, 151), (0, 5)]) gz_185_85 gm_178 rfl is_151 rd_10 rfl rfl rfl rfl rfl ?_
              refine w_aload_n gz_178_0 rfl ?_
              refine v_getI (j := 8) gz_178_1 rfl is_151 rd_10 rfl (fun v1064 ev1064 pv1064 qv1064 => ?_)
              have zv1064 := ev1064.trans cf
              refine w_ifne (t := 25) gz_178_4 rfl (fun u1065 => by exfalso; omega) (fun u1065 => ?_)
              refine w_aload_n gz_178_7 rfl ?_
              refine w_iload_n gz_178_8 rfl ?_
              refine w_bipush gz_178_9 (by decide) ?_
              refine w_aload_n gz_178_11 rfl ?_
              refine w_getX (v := 154) gz_178_12 is_151 rd_10 rfl (by decide) rfl ?_
              refine w_aload_n gz_178_15 rfl ?_
              refine v_getI (j := 7) gz_178_16 rfl is_151 rd_10 rfl (fun v1067 ev1067 pv1067 qv1067 => ?_)
              have zv1067 := ev1067.trans ek151_7.symm
              refine w_iald gz_178_19 is_154 rd_53 (by omega) (by omega) (fun v1068 ev1068 pv1068 qv1068 => ?_)
              have nz1069 : v1068 = sP (sm h) (h 151 7) := by
                have q := ev1068
                rw [show (v1067 : Int) = h 151 7 from by omega] at q
                exact q
              refine w_imul gz_178_20 ⟨by omega, by omega⟩ ?_
              refine w_iadd gz_178_21 ⟨by omega, by omega⟩ ?_
              refine v_putI (j := 8) gz_178_22 rfl is_151 rd_10 rfl (by omega) (by omega) rfl (fun h1070 fh1070 => ?_)
              have gh1070 : my_fr [(10, 7), (10, 8), (10, 27), (66, -1), (67, -1), (68, -1), (69, -1), (70, -1), (71, -1), (72, -1), (73, -1), (74, -1), (75, -1), (77, -1), (78, -1), (79, -1)] h h1070 := my_fr.up my_fr.rf is_151 fh1070 rfl
              have Tok_h1070 : Tok h1070 := Tok_ag (my_ag.up fh1070 is_151 rfl) n_Tok
              have Mq_h1070 : Mq h1070 wv := Mq_ag (my_ag.up fh1070 is_151 rfl) n_Mq
              have Wrd_h1070 : Wrd h1070 := Wrd_ag (my_ag.up fh1070 is_151 rfl) n_Wrd
              have Wd9_h1070 : Wd9 h1070 := Wd9_ag (my_ag.up fh1070 is_151 rfl) n_Wd9
              have Ko_h1070 : Ko h h1070 := Ko_ag (my_ag.up fh1070 is_151 rfl) (Ko_rf)
              refine w_vret gz_178_25 gm_178 ?_
              show wp l rho (d + 4) 185 88 [(2, 151), (0, 1), (0, 1), (0, 1), (0, 0), (9, 0), (9, 0), (9, 0)] [] h1070 Q
              have psJ : h1070 151 7 = h 151 7 := ((my_up_fld fh1070 (by decide)).trans (rfl : h 151 7 = h 151 7))
              have npsJ : sm h1070 = sm h := sm_eq (fun j => my_fr.at gh1070 is_153 rfl) (fun j => my_fr.at gh1070 is_154 rfl) (fun j => my_fr.at gh1070 is_155 rfl)
              have ce1071 : h1070 151 7 = v1067 := ((my_up_fld fh1070 (by decide)).trans ev1067.symm)
              have ce1072 : h1070 151 8 = (5 + (16 * v1068)) := (my_up_self fh1070)
              have ce1073 : h1070 151 27 = k151_27 := ((my_up_fld fh1070 (by decide)).trans ek151_27.symm)
              have j167 : ∀ j : Int, h1070 167 j = h 167 j := fun j => ((my_up_role fh1070 is_167 is_151 rfl).trans (rfl : h 167 j = h 167 j))
              have j6 := j167 6
              exact J88_0 (1) (1) (1) (0) ((5 + (16 * v1068))) h1070 (gh1070) (by omega) (by omega) (by omega) (by omega) (by omega) (by omega) (by omega) (by omega) (by omega) (by omega) (((my_up_fld fh1070 (by decide)).trans ek151_27.symm).trans (by omega)) (((my_up_fld fh1070 (by decide)).trans ek151_33.symm).trans (by omega)) (((my_up_fld fh1070 (by decide)).trans ev1067.symm).trans (by omega)) ((my_up_self fh1070).trans (by omega)) Tok_h1070 Mq_h1070 Wrd_h1070 Wd9_h1070 Ko_h1070 (by first | (intro q; exfalso; omega) | (intro _; assumption) | omega) (by first | (intro q; exfalso; omega) | (intro _ q; omega) | (intro _ q; exfalso; have w := Wrd_h1070; unfold Wrd at w; omega) | omega) (by omega) (by omega) (by omega) (by first | (intro q; exfalso; omega) | (intro q; omega) | omega) (by first | (intro q; exfalso; omega) | (intro q; omega) | omega)
          ·
            show wp l rho (d + 4) 185 68 [(2, 151), (0, 1), (0, 1), (0, 1), (0, 0), (9, 0), (9, 0), (9, 0)] [(0, 1)] h Q
            rw [show wm 10 = 316695 from by decide] at xp1056
            refine w_ifne (t := 88) gz_185_68 rfl (fun u1074 => ?_) (fun u1074 => by exfalso; omega)
            have psJ : h 151 7 = h 151 7 := (rfl : h 151 7 = h 151 7)
            have npsJ : sm h = sm h := rfl
            have ce1075 : h 151 7 = k151_7 := ek151_7.symm
            have ce1076 : h 151 8 = 0 := cf
            have ce1077 : h 151 27 = k151_27 := ek151_27.symm
            have j167 : ∀ j : Int, h 167 j = h 167 j := fun _ => rfl
            have j6 := j167 6
            exact J88_0 (1) (1) (1) (0) (0) h (my_fr.rf) (by omega) (by omega) (by omega) (by omega) (by omega) (by omega) (by omega) (by omega) (by omega) (by omega) (ek151_27.symm.trans (by omega)) (ek151_33.symm.trans (by omega)) (ek151_7.symm.trans (by omega)) (cf.trans (by omega)) n_Tok n_Mq n_Wrd n_Wd9 (Ko_rf) (by first | (intro q; exfalso; omega) | (intro _; assumption) | omega) (by first | (intro q; exfalso; omega) | (intro _ q; omega) | (intro _ q; exfalso; have w := n_Wrd; unfold Wrd at w; omega) | omega) (by omega) (by omega) (by omega) (by first | (intro q; exfalso; omega) | (intro q; omega) | omega) (by first | (intro q; exfalso; omega) | (intro q; omega) | omega)
        ·
          show wp l rho (d + 4) 185 26 [(2, 151), (0, 1), (0, 1), (0, 1), (9, 0), (9, 0), (9, 0), (9, 0)] [(0, 1)] h Q
          rw [show wm 11 = 26801 from by decide] at xp1048
          refine w_istore (ls' := [(2, 151), (0, 1), (0, 1), (0, 1), (0, 1), (9, 0), (9, 0), (9, 0)]) gz_185_26 gm_185 rfl rfl rfl ?_
          refine w_iload_n gz_185_28 rfl ?_
          refine w_ifne (t := 62) gz_185_29 rfl (fun u1078 => ?_) (fun u1078 => by exfalso; omega)
          refine w_aload_n gz_185_62 rfl ?_
          refine w_bipush gz_185_63 (by decide) ?_
          refine w_inv (k := 0) (as := [(0, 10)]) (r := []) (x := 151) (ls0 := [(2, 151), (0, 10)]) gz_185_65 gm_177 rfl is_151 rd_10 rfl rfl rfl rfl rfl (c_Model_isWord9_f0 (d := (d + 3)) (x1 := 10) (by omega) (by omega) (cf.trans (by omega)) n_Wd9 (fun w1079 xp1080 => ?_) (fun w1081 xp1082 xp1083 xp1084 xp1085 => ?_))
          ·
            show wp l rho (d + 4) 185 68 [(2, 151), (0, 1), (0, 1), (0, 1), (0, 1), (9, 0), (9, 0), (9, 0)] [(0, 0)] h Q
            rw [show wm 10 = 316695 from by decide] at xp1080
            refine w_ifne (t := 88) gz_185_68 rfl (fun u1086 => by exfalso; omega) (fun u1086 => ?_)
            refine w_aload_n gz_185_71 rfl ?_
            refine w_getX (v := 167) gz_185_72 is_151 rd_10 rfl (by decide) rfl ?_
            refine w_bipush gz_185_75 (by decide) ?_
            refine w_iald gz_185_77 is_167 rd_66 (by omega) (by omega) (fun v1088 ev1088 pv1088 qv1088 => ?_)
            refine w_bipush gz_185_78 (by decide) ?_
            refine w_icne (t := 88) gz_185_80 rfl (fun u1089 => ?_) (fun u1089 => ?_)
            ·
              have psJ : h 151 7 = h 151 7 := (rfl : h 151 7 = h 151 7)
              have npsJ : sm h = sm h := rfl
              have ce1090 : h 151 7 = k151_7 := ek151_7.symm
              have ce1091 : h 151 8 = 0 := cf
              have ce1092 : h 151 27 = k151_27 := ek151_27.symm
              have j167 : ∀ j : Int, h 167 j = h 167 j := fun _ => rfl
              have j6 := j167 6
              exact J88_0 (1) (1) (1) (1) (0) h (my_fr.rf) (by omega) (by omega) (by omega) (by omega) (by omega) (by omega) (by omega) (by omega) (by omega) (by omega) (ek151_27.symm.trans (by omega)) (ek151_33.symm.trans (by omega)) (ek151_7.symm.trans (by omega)) (cf.trans (by omega)) n_Tok n_Mq n_Wrd n_Wd9 (Ko_rf) (by first | (intro q; exfalso; omega) | (intro _; assumption) | omega) (by first | (intro q; exfalso; omega) | (intro _ q; omega) | (intro _ q; exfalso; have w := n_Wrd; unfold Wrd at w; omega) | omega) (by omega) (by omega) (by omega) (by first | (intro q; exfalso; omega) | (intro q; omega) | omega) (by first | (intro q; exfalso; omega) | (intro q; omega) | omega)
            ·
              refine w_aload_n gz_185_83 rfl ?_
              refine w_iconst gz_185_84 (by decide) ?_
              refine w_inv (k := 0) (as := [(0, 5)]) (r := []) (x := 151) (ls0 := [(2, 151), (0, 5)]) gz_185_85 gm_178 rfl is_151 rd_10 rfl rfl rfl rfl rfl ?_
              refine w_aload_n gz_178_0 rfl ?_
              refine v_getI (j := 8) gz_178_1 rfl is_151 rd_10 rfl (fun v1093 ev1093 pv1093 qv1093 => ?_)
              have zv1093 := ev1093.trans cf
              refine w_ifne (t := 25) gz_178_4 rfl (fun u1094 => by exfalso; omega) (fun u1094 => ?_)
              refine w_aload_n gz_178_7 rfl ?_
              refine w_iload_n gz_178_8 rfl ?_
              refine w_bipush gz_178_9 (by decide) ?_
              refine w_aload_n gz_178_11 rfl ?_
              refine w_getX (v := 154) gz_178_12 is_151 rd_10 rfl (by decide) rfl ?_
              refine w_aload_n gz_178_15 rfl ?_
              refine v_getI (j := 7) gz_178_16 rfl is_151 rd_10 rfl (fun v1096 ev1096 pv1096 qv1096 => ?_)
              have zv1096 := ev1096.trans ek151_7.symm
              refine w_iald gz_178_19 is_154 rd_53 (by omega) (by omega) (fun v1097 ev1097 pv1097 qv1097 => ?_)
              have nz1098 : v1097 = sP (sm h) (h 151 7) := by
                have q := ev1097
                rw [show (v1096 : Int) = h 151 7 from by omega] at q
                exact q
              refine w_imul gz_178_20 ⟨by omega, by omega⟩ ?_
              refine w_iadd gz_178_21 ⟨by omega, by omega⟩ ?_
              refine v_putI (j := 8) gz_178_22 rfl is_151 rd_10 rfl (by omega) (by omega) rfl (fun h1099 fh1099 => ?_)
              have gh1099 : my_fr [(10, 7), (10, 8), (10, 27), (66, -1), (67, -1), (68, -1), (69, -1), (70, -1), (71, -1), (72, -1), (73, -1), (74, -1), (75, -1), (77, -1), (78, -1), (79, -1)] h h1099 := my_fr.up my_fr.rf is_151 fh1099 rfl
              have Tok_h1099 : Tok h1099 := Tok_ag (my_ag.up fh1099 is_151 rfl) n_Tok
              have Mq_h1099 : Mq h1099 wv := Mq_ag (my_ag.up fh1099 is_151 rfl) n_Mq
              have Wrd_h1099 : Wrd h1099 := Wrd_ag (my_ag.up fh1099 is_151 rfl) n_Wrd
              have Wd9_h1099 : Wd9 h1099 := Wd9_ag (my_ag.up fh1099 is_151 rfl) n_Wd9
              have Ko_h1099 : Ko h h1099 := Ko_ag (my_ag.up fh1099 is_151 rfl) (Ko_rf)
              refine w_vret gz_178_25 gm_178 ?_
              show wp l rho (d + 4) 185 88 [(2, 151), (0, 1), (0, 1), (0, 1), (0, 1), (9, 0), (9, 0), (9, 0)] [] h1099 Q
              have psJ : h1099 151 7 = h 151 7 := ((my_up_fld fh1099 (by decide)).trans (rfl : h 151 7 = h 151 7))
              have npsJ : sm h1099 = sm h := sm_eq (fun j => my_fr.at gh1099 is_153 rfl) (fun j => my_fr.at gh1099 is_154 rfl) (fun j => my_fr.at gh1099 is_155 rfl)
              have ce1100 : h1099 151 7 = v1096 := ((my_up_fld fh1099 (by decide)).trans ev1096.symm)
              have ce1101 : h1099 151 8 = (5 + (16 * v1097)) := (my_up_self fh1099)
              have ce1102 : h1099 151 27 = k151_27 := ((my_up_fld fh1099 (by decide)).trans ek151_27.symm)
              have j167 : ∀ j : Int, h1099 167 j = h 167 j := fun j => ((my_up_role fh1099 is_167 is_151 rfl).trans (rfl : h 167 j = h 167 j))
              have j6 := j167 6
              exact J88_0 (1) (1) (1) (1) ((5 + (16 * v1097))) h1099 (gh1099) (by omega) (by omega) (by omega) (by omega) (by omega) (by omega) (by omega) (by omega) (by omega) (by omega) (((my_up_fld fh1099 (by decide)).trans ek151_27.symm).trans (by omega)) (((my_up_fld fh1099 (by decide)).trans ek151_33.symm).trans (by omega)) (((my_up_fld fh1099 (by decide)).trans ev1096.symm).trans (by omega)) ((my_up_self fh1099).trans (by omega)) Tok_h1099 Mq_h1099 Wrd_h1099 Wd9_h1099 Ko_h1099 (by first | (intro q; exfalso; omega) | (intro _; assumption) | omega) (by first | (intro q; exfalso; omega) | (intro _ q; omega) | (intro _ q; exfalso; have w := Wrd_h1099; unfold Wrd at w; omega) | omega) (by omega) (by omega) (by omega) (by first | (intro q; exfalso; omega) | (intro q; omega) | omega) (by first | (intro q; exfalso; omega) | (intro q; omega) | omega)
          ·
            show wp l rho (d + 4) 185 68 [(2, 151), (0, 1), (0, 1), (0, 1), (0, 1), (9, 0), (9, 0), (9, 0)] [(0, 1)] h Q
            rw [show wm 10 = 316695 from by decide] at xp1085
            refine w_ifne (t := 88) gz_185_68 rfl (fun u1103 => ?_) (fun u1103 => by exfalso; omega)
            have psJ : h 151 7 = h 151 7 := (rfl : h 151 7 = h 151 7)
            have npsJ : sm h = sm h := rfl
            have ce1104 : h 151 7 = k151_7 := ek151_7.symm
            have ce1105 : h 151 8 = 0 := cf
            have ce1106 : h 151 27 = k151_27 := ek151_27.symm
            have j167 : ∀ j : Int, h 167 j = h 167 j := fun _ => rfl
            have j6 := j167 6
            exact J88_0 (1) (1) (1) (1) (0) h (my_fr.rf) (by omega) (by omega) (by omega) (by omega) (by omega) (by omega) (by omega) (by omega) (by omega) (by omega) (ek151_27.symm.trans (by omega)) (ek151_33.symm.trans (by omega)) (ek151_7.symm.trans (by omega)) (cf.trans (by omega)) n_Tok n_Mq n_Wrd n_Wd9 (Ko_rf) (by first | (intro q; exfalso; omega) | (intro _; assumption) | omega) (by first | (intro q; exfalso; omega) | (intro _ q; omega) | (intro _ q; exfalso; have w := n_Wrd; unfold Wrd at w; omega) | omega) (by omega) (by omega) (by omega) (by first | (intro q; exfalso; omega) | (intro q; omega) | omega) (by first | (intro q; exfalso; omega) | (intro q; omega) | omega)
end MYNModel_readPane9_f0
