/-! contracts, printed by wip/gen/gy.py -/
section MYNModel_readPane_f0
theorem c_Model_readPane_f0 {l : Launch} {rho : Nat → Int32} {d : Nat} {h : my_H} {Q : my_H → my_V → Prop} {wv : Int} (cf : h 151 8 = 0) (hwv : wv ≤ 5) (hwv0 : 0 ≤ wv) (n_Tok : Tok h) (n_Mq : Mq h wv) (n_Wrd : Wrd h) (k0 : ∀ (h' : my_H), my_fr [(10, 7), (10, 8), (10, 27), (66, -1), (67, -1), (68, -1), (69, -1), (70, -1), (71, -1), (72, -1), (73, -1), (74, -1), (75, -1), (77, -1), (78, -1), (79, -1)] h h' → 1 ≤ h' 151 8 → h' 151 8 ≤ 16005 → Tok h' → Mq h' wv → Wrd h' → Q h' (9, 0)) (k1 : ∀ (h' : my_H), my_fr [(10, 7), (10, 8), (10, 27), (66, -1), (67, -1), (68, -1), (69, -1), (70, -1), (71, -1), (72, -1), (73, -1), (74, -1), (75, -1), (77, -1), (78, -1), (79, -1)] h h' → 1 ≤ h' 151 7 → h' 151 7 ≤ 1001 → h' 151 8 = 0 → h 151 7 < h' 151 7 → Tok h' → Mq h' wv → Wrd h' → Q h' (9, 0)) : wp l rho (d + 4) 185 0 [(2, 151), (9, 0), (9, 0), (9, 0), (9, 0), (9, 0), (9, 0), (9, 0)] [] h Q := by
  refine v_know (x := 151) (j := 7) (b := 7) rfl is_151 rd_10 rfl (fun k151_7 ek151_7 pk151_7 qk151_7 => ?_)
  have J88_0 : ∀ (p88_0 p88_1 p88_2 p88_3 p88_4 : Int) (h88_0 : my_H), my_fr [(10, 7), (10, 8), (10, 27), (66, -1), (67, -1), (68, -1), (69, -1), (70, -1), (71, -1), (72, -1), (73, -1), (74, -1), (75, -1), (77, -1), (78, -1), (79, -1)] h h88_0 → 0 ≤ p88_0 → p88_0 ≤ 1 → 0 ≤ p88_1 → p88_1 ≤ 1 → 0 ≤ p88_2 → p88_2 ≤ 1 → 0 ≤ p88_3 → p88_3 ≤ 1 → 0 ≤ p88_4 → p88_4 ≤ 16005 → h88_0 151 7 = k151_7 → h88_0 151 8 = p88_4 → Tok h88_0 → Mq h88_0 wv → Wrd h88_0 → (h88_0 151 8 = 0 → h88_0 153 (h88_0 151 7) = 1) → (h88_0 151 8 = 0 → (p88_0 = 1 ∨ p88_1 = 1 ∨ p88_2 = 1 ∨ p88_3 = 1) → h88_0 167 6 ≤ 5) → h88_0 151 7 = h 151 7 → wp l rho (d + 4) 185 88 [(2, 151), (0, p88_0), (0, p88_1), (0, p88_2), (0, p88_3), (9, 0), (9, 0), (9, 0)] [] h88_0 Q := by
    intro p88_0 p88_1 p88_2 p88_3 p88_4 h88_0 gh_88_0 q0_88_0 q1_88_0 q2_88_0 q3_88_0 q4_88_0 q5_88_0 q6_88_0 q7_88_0 q8_88_0 q9_88_0 c151_7_88_0 c151_8_88_0 n_Tok_88_0 n_Mq_88_0 n_Wrd_88_0 wd_88_0 pn_88_0 am_88_0
    refine w_aload_n gz_185_88 rfl ?_
    refine v_getI (j := 8) gz_185_89 rfl is_151 rd_10 rfl (fun v1 ev1 pv1 qv1 => ?_)
    have zv1 := ev1.trans c151_8_88_0
    refine w_ifle (t := 96) gz_185_92 rfl (fun u2 => ?_) (fun u2 => ?_)
    ·
      refine w_aload_n gz_185_96 rfl ?_
      refine w_dup gz_185_97 rfl ?_
      refine v_getI (j := 7) gz_185_98 rfl is_151 rd_10 rfl (fun v3 ev3 pv3 qv3 => ?_)
      have zv3 := ev3.trans c151_7_88_0
      refine w_iconst gz_185_101 (by decide) ?_
      refine w_iadd gz_185_102 ⟨by omega, by omega⟩ ?_
      have w1 := wd_88_0 (by omega)
      have hi4 : 0 ≤ (v3 + 1) := by have q := Tok_at n_Tok_88_0; omega
      have hi5 : (v3 + 1) ≤ 1001 := by have q := Tok_at n_Tok_88_0; omega
      refine v_putI (j := 7) gz_185_103 rfl is_151 rd_10 rfl (by omega) (by omega) rfl (fun h6 fh6 => ?_)
      have gh6 : my_fr [(10, 7), (10, 8), (10, 27), (66, -1), (67, -1), (68, -1), (69, -1), (70, -1), (71, -1), (72, -1), (73, -1), (74, -1), (75, -1), (77, -1), (78, -1), (79, -1)] h h6 := my_fr.up gh_88_0 is_151 fh6 rfl
      have Mq_h6 : Mq h6 wv := Mq_ag (my_ag.up fh6 is_151 rfl) n_Mq_88_0
      have Wrd_h6 : Wrd h6 := Wrd_ag (my_ag.up fh6 is_151 rfl) n_Wrd_88_0
      have Tok_h6t7 : Tok h6 := Tok_inc n_Tok_88_0 (by omega) (by omega) fh6
      have k7 := my_up_self fh6
      refine w_bipush gz_185_106 (by decide) ?_
      refine w_aload_n gz_185_108 rfl ?_
      refine w_getX (v := 167) gz_185_109 is_151 rd_10 rfl (by decide) rfl ?_
      refine w_bipush gz_185_112 (by decide) ?_
      refine w_iald gz_185_114 is_167 rd_66 (by omega) (by omega) (fun v9 ev9 pv9 qv9 => ?_)
      have b167 : ∀ j : Int, h6 167 j = h88_0 167 j := fun j => ((my_up_role fh6 is_167 is_151 rfl).trans (rfl : h88_0 167 j = h88_0 167 j))
      have p5 := pn_88_0 (by omega)
      have q6 := b167 6
      refine w_iadd gz_185_115 ⟨by omega, by omega⟩ ?_
      refine w_istore (ls' := [(2, 151), (0, p88_0), (0, p88_1), (0, p88_2), (0, p88_3), (0, (36 + v9)), (9, 0), (9, 0)]) gz_185_116 gm_185 rfl rfl rfl ?_
      refine w_iload_n gz_185_118 rfl ?_
      refine w_ifeq (t := 131) gz_185_119 rfl (fun u10 => ?_) (fun u10 => ?_)
      ·
        refine w_iload_n gz_185_131 rfl ?_
        refine w_ifeq (t := 144) gz_185_132 rfl (fun u11 => ?_) (fun u11 => ?_)
        ·
          refine w_iload_n gz_185_144 rfl ?_
          refine w_ifeq (t := 157) gz_185_145 rfl (fun u12 => ?_) (fun u12 => ?_)
          ·
            refine w_iload gz_185_157 rfl ?_
            refine w_ifeq (t := 171) gz_185_159 rfl (fun u13 => ?_) (fun u13 => ?_)
            ·
              refine w_aload_n gz_185_171 rfl ?_
              refine w_aload_n gz_185_172 rfl ?_
              refine w_getX (v := 157) gz_185_173 is_151 rd_10 rfl (by decide) rfl ?_
              refine w_aload_n gz_185_176 rfl ?_
              refine v_getI (j := 33) gz_185_177 rfl is_151 rd_10 rfl (fun v15 ev15 pv15 qv15 => ?_)
              refine w_iald gz_185_180 is_157 rd_56 (by omega) (by omega) (fun v16 ev16 pv16 qv16 => ?_)
              refine w_iconst gz_185_181 (by decide) ?_
              refine w_isub gz_185_182 ⟨by omega, by omega⟩ ?_
              have ce17 : h6 151 7 = (v3 + 1) := (my_up_self fh6)
              refine w_inv (k := 0) (as := [(0, (v16 - 1))]) (r := []) (x := 151) (ls0 := [(2, 151), (0, (v16 - 1))]) gz_185_183 gm_187 rfl is_151 rd_10 rfl rfl rfl rfl rfl (c_Model_takeNumber2_f0 (d := (d + 2)) (x1 := (v16 - 1)) (by omega) (by omega) (((my_up_fld fh6 (by decide)).trans ev1.symm).trans (by omega)) Tok_h6t7 (fun h18 frh18 w19 w20 xp21 Tok_h18t22 => ?_) (fun h23 v24 frh23 w25 w26 w27 w28 w29 xp30 xp31 xp32 xp33 xp34 Tok_h23t35 => ?_))
              ·
                have gh18 : my_fr [(10, 7), (10, 8), (10, 27), (66, -1), (67, -1), (68, -1), (69, -1), (70, -1), (71, -1), (72, -1), (73, -1), (74, -1), (75, -1), (77, -1), (78, -1), (79, -1)] h h18 := my_fr.tr gh6 (frh18.mo rfl)
                have Mq_h18 : Mq h18 wv := Mq_ag (my_ag.fr frh18 rfl) Mq_h6
                have Wrd_h18 : Wrd h18 := Wrd_ag (my_ag.fr frh18 rfl) Wrd_h6
                show wp l rho (d + 4) 185 186 [(2, 151), (0, p88_0), (0, p88_1), (0, p88_2), (0, p88_3), (0, (36 + v9)), (9, 0), (9, 0)] [(0, 0)] h18 Q
                refine w_istore (ls' := [(2, 151), (0, p88_0), (0, p88_1), (0, p88_2), (0, p88_3), (0, (36 + v9)), (0, 0), (9, 0)]) gz_185_186 gm_185 rfl rfl rfl ?_
                refine w_aload_n gz_185_188 rfl ?_
                refine w_bipush gz_185_189 (by decide) ?_
                refine w_inv (k := 0) (as := [(0, 19)]) (r := []) (x := 151) (ls0 := [(2, 151), (0, 19)]) gz_185_191 gm_187 rfl is_151 rd_10 rfl rfl rfl rfl rfl (c_Model_takeNumber2_f1 (d := (d + 2)) (x1 := 19) (by omega) (by omega) ((h18 151 8)) ((rfl : h18 151 8 = h18 151 8)) (by omega) (by omega) Tok_h18t22 (fun w36 w37 xp38 Tok_h18t39 => ?_))
                show wp l rho (d + 4) 185 194 [(2, 151), (0, p88_0), (0, p88_1), (0, p88_2), (0, p88_3), (0, (36 + v9)), (0, 0), (9, 0)] [(0, 0)] h18 Q
                refine w_istore (ls' := [(2, 151), (0, p88_0), (0, p88_1), (0, p88_2), (0, p88_3), (0, (36 + v9)), (0, 0), (0, 0)]) gz_185_194 gm_185 rfl rfl rfl ?_
                refine w_aload_n gz_185_196 rfl ?_
                refine w_getX (v := 173) gz_185_197 is_151 rd_10 rfl (by decide) rfl ?_
                refine w_bipush gz_185_200 (by decide) ?_
                refine w_iload gz_185_202 rfl ?_
                refine w_iadd gz_185_204 ⟨by omega, by omega⟩ ?_
                refine w_aload_n gz_185_205 rfl ?_
                refine v_getI (j := 8) gz_185_206 rfl is_151 rd_10 rfl (fun v41 ev41 pv41 qv41 => ?_)
                have zv41 := ev41.trans (rfl : h18 151 8 = h18 151 8)
                refine w_ifne (t := 217) gz_185_209 rfl (fun u42 => ?_) (fun u42 => by exfalso; omega)
                refine w_aload_n gz_185_217 rfl ?_
                refine w_getX (v := 173) gz_185_218 is_151 rd_10 rfl (by decide) rfl ?_
                refine w_bipush gz_185_221 (by decide) ?_
                refine w_iload gz_185_223 rfl ?_
                refine w_iadd gz_185_225 ⟨by omega, by omega⟩ ?_
                have hi44 : 0 ≤ (24 + 0) := by omega
                have hi45 : (24 + 0) ≤ 27 := by omega
                refine w_iald gz_185_226 is_173 rd_72 (by omega) (by omega) (fun v46 ev46 pv46 qv46 => ?_)
                have hi47 : (-1) ≤ v46 := by omega
                have hi48 : v46 ≤ 19 := by omega
                have hi49 : 0 ≤ (24 + 0) := by omega
                have hi50 : (24 + 0) ≤ 27 := by omega
                refine w_iast gz_185_227 is_173 rd_72 (by omega) (by omega) (by omega) (by omega) (fun h51 fh51 => ?_)
                have gh51 : my_fr [(10, 7), (10, 8), (10, 27), (66, -1), (67, -1), (68, -1), (69, -1), (70, -1), (71, -1), (72, -1), (73, -1), (74, -1), (75, -1), (77, -1), (78, -1), (79, -1)] h h51 := my_fr.up gh18 is_173 fh51 rfl
                have Mq_h51 : Mq h51 wv := Mq_ag (my_ag.up fh51 is_173 rfl) Mq_h18
                have Wrd_h51 : Wrd h51 := Wrd_ag (my_ag.up fh51 is_173 rfl) Wrd_h18
                have Tok_h51 : Tok h51 := Tok_ag (my_ag.up fh51 is_173 rfl) Tok_h18t39
                refine w_aload_n gz_185_228 rfl ?_
                refine v_getI (j := 8) gz_185_229 rfl is_151 rd_10 rfl (fun v52 ev52 pv52 qv52 => ?_)
                have zv52 := ev52.trans ((my_up_role fh51 is_151 is_173 rfl).trans ev41.symm)
                refine w_ifne (t := 269) gz_185_232 rfl (fun u53 => ?_) (fun u53 => by exfalso; omega)
                refine w_aload_n gz_185_269 rfl ?_
                refine w_bipush gz_185_270 (by decide) ?_
                have ce54 : h51 151 7 = h18 151 7 := ((my_up_role fh51 is_151 is_173 rfl).trans (rfl : h18 151 7 = h18 151 7))
                refine w_inv (k := 0) (as := [(0, 59)]) (r := []) (x := 151) (ls0 := [(2, 151), (0, 59)]) gz_185_272 gm_183 rfl is_151 rd_10 rfl rfl rfl rfl rfl (c_Model_takeSign_f1 (d := (d + 2))  (v52) (ev52.symm) (by omega) (by omega) Tok_h51 (fun w55 w56 xp57 Tok_h51t58 => ?_))
                show wp l rho (d + 4) 185 275 [(2, 151), (0, p88_0), (0, p88_1), (0, p88_2), (0, p88_3), (0, (36 + v9)), (0, 0), (0, 0)] [] h51 Q
                have ce59 : h51 151 7 = h18 151 7 := ((my_up_role fh51 is_151 is_173 rfl).trans (rfl : h18 151 7 = h18 151 7))
                have c60 := ev52.symm
                exact w_vret gz_185_275 gm_185 (k0 h51 (gh51) (by omega) (by omega) Tok_h51t58 Mq_h51 Wrd_h51)
              ·
                have gh23 : my_fr [(10, 7), (10, 8), (10, 27), (66, -1), (67, -1), (68, -1), (69, -1), (70, -1), (71, -1), (72, -1), (73, -1), (74, -1), (75, -1), (77, -1), (78, -1), (79, -1)] h h23 := my_fr.tr gh6 (frh23.mo rfl)
                have Mq_h23 : Mq h23 wv := Mq_ag (my_ag.fr frh23 rfl) Mq_h6
                have Wrd_h23 : Wrd h23 := Wrd_ag (my_ag.fr frh23 rfl) Wrd_h6
                show wp l rho (d + 4) 185 186 [(2, 151), (0, p88_0), (0, p88_1), (0, p88_2), (0, p88_3), (0, (36 + v9)), (9, 0), (9, 0)] [(0, v24)] h23 Q
                refine w_istore (ls' := [(2, 151), (0, p88_0), (0, p88_1), (0, p88_2), (0, p88_3), (0, (36 + v9)), (0, v24), (9, 0)]) gz_185_186 gm_185 rfl rfl rfl ?_
                refine w_aload_n gz_185_188 rfl ?_
                refine w_bipush gz_185_189 (by decide) ?_
                have ce61 : h23 151 7 = (h23 151 7) := (rfl : h23 151 7 = h23 151 7)
                refine w_inv (k := 0) (as := [(0, 19)]) (r := []) (x := 151) (ls0 := [(2, 151), (0, 19)]) gz_185_191 gm_187 rfl is_151 rd_10 rfl rfl rfl rfl rfl (c_Model_takeNumber2_f0 (d := (d + 2)) (x1 := 19) (by omega) (by omega) (w29.trans (by omega)) Tok_h23t35 (fun h62 frh62 w63 w64 xp65 Tok_h62t66 => ?_) (fun h67 v68 frh67 w69 w70 w71 w72 w73 xp74 xp75 xp76 xp77 xp78 Tok_h67t79 => ?_))
                ·
                  have gh62 : my_fr [(10, 7), (10, 8), (10, 27), (66, -1), (67, -1), (68, -1), (69, -1), (70, -1), (71, -1), (72, -1), (73, -1), (74, -1), (75, -1), (77, -1), (78, -1), (79, -1)] h h62 := my_fr.tr gh23 (frh62.mo rfl)
                  have Mq_h62 : Mq h62 wv := Mq_ag (my_ag.fr frh62 rfl) Mq_h23
                  have Wrd_h62 : Wrd h62 := Wrd_ag (my_ag.fr frh62 rfl) Wrd_h23
                  show wp l rho (d + 4) 185 194 [(2, 151), (0, p88_0), (0, p88_1), (0, p88_2), (0, p88_3), (0, (36 + v9)), (0, v24), (9, 0)] [(0, 0)] h62 Q
                  refine w_istore (ls' := [(2, 151), (0, p88_0), (0, p88_1), (0, p88_2), (0, p88_3), (0, (36 + v9)), (0, v24), (0, 0)]) gz_185_194 gm_185 rfl rfl rfl ?_
                  refine w_aload_n gz_185_196 rfl ?_
                  refine w_getX (v := 173) gz_185_197 is_151 rd_10 rfl (by decide) rfl ?_
                  refine w_bipush gz_185_200 (by decide) ?_
                  refine w_iload gz_185_202 rfl ?_
                  refine w_iadd gz_185_204 ⟨by omega, by omega⟩ ?_
                  refine w_aload_n gz_185_205 rfl ?_
                  refine v_getI (j := 8) gz_185_206 rfl is_151 rd_10 rfl (fun v81 ev81 pv81 qv81 => ?_)
                  have zv81 := ev81.trans (rfl : h62 151 8 = h62 151 8)
                  refine w_ifne (t := 217) gz_185_209 rfl (fun u82 => ?_) (fun u82 => by exfalso; omega)
                  refine w_aload_n gz_185_217 rfl ?_
                  refine w_getX (v := 173) gz_185_218 is_151 rd_10 rfl (by decide) rfl ?_
                  refine w_bipush gz_185_221 (by decide) ?_
                  refine w_iload gz_185_223 rfl ?_
                  refine w_iadd gz_185_225 ⟨by omega, by omega⟩ ?_
                  have hi84 : 0 ≤ (24 + v24) := by omega
                  have hi85 : (24 + v24) ≤ 27 := by omega
                  refine w_iald gz_185_226 is_173 rd_72 (by omega) (by omega) (fun v86 ev86 pv86 qv86 => ?_)
                  have hi87 : (-1) ≤ v86 := by omega
                  have hi88 : v86 ≤ 19 := by omega
                  have hi89 : 0 ≤ (24 + v24) := by omega
                  have hi90 : (24 + v24) ≤ 27 := by omega
                  refine w_iast gz_185_227 is_173 rd_72 (by omega) (by omega) (by omega) (by omega) (fun h91 fh91 => ?_)
                  have gh91 : my_fr [(10, 7), (10, 8), (10, 27), (66, -1), (67, -1), (68, -1), (69, -1), (70, -1), (71, -1), (72, -1), (73, -1), (74, -1), (75, -1), (77, -1), (78, -1), (79, -1)] h h91 := my_fr.up gh62 is_173 fh91 rfl
                  have Mq_h91 : Mq h91 wv := Mq_ag (my_ag.up fh91 is_173 rfl) Mq_h62
                  have Wrd_h91 : Wrd h91 := Wrd_ag (my_ag.up fh91 is_173 rfl) Wrd_h62
                  have Tok_h91 : Tok h91 := Tok_ag (my_ag.up fh91 is_173 rfl) Tok_h62t66
                  refine w_aload_n gz_185_228 rfl ?_
                  refine v_getI (j := 8) gz_185_229 rfl is_151 rd_10 rfl (fun v92 ev92 pv92 qv92 => ?_)
                  have zv92 := ev92.trans ((my_up_role fh91 is_151 is_173 rfl).trans ev81.symm)
                  refine w_ifne (t := 269) gz_185_232 rfl (fun u93 => ?_) (fun u93 => by exfalso; omega)
                  refine w_aload_n gz_185_269 rfl ?_
                  refine w_bipush gz_185_270 (by decide) ?_
                  have ce94 : h91 151 7 = h62 151 7 := ((my_up_role fh91 is_151 is_173 rfl).trans (rfl : h62 151 7 = h62 151 7))
                  refine w_inv (k := 0) (as := [(0, 59)]) (r := []) (x := 151) (ls0 := [(2, 151), (0, 59)]) gz_185_272 gm_183 rfl is_151 rd_10 rfl rfl rfl rfl rfl (c_Model_takeSign_f1 (d := (d + 2))  (v92) (ev92.symm) (by omega) (by omega) Tok_h91 (fun w95 w96 xp97 Tok_h91t98 => ?_))
                  show wp l rho (d + 4) 185 275 [(2, 151), (0, p88_0), (0, p88_1), (0, p88_2), (0, p88_3), (0, (36 + v9)), (0, v24), (0, 0)] [] h91 Q
                  have ce99 : h91 151 7 = h62 151 7 := ((my_up_role fh91 is_151 is_173 rfl).trans (rfl : h62 151 7 = h62 151 7))
                  have c100 := ev92.symm
                  exact w_vret gz_185_275 gm_185 (k0 h91 (gh91) (by omega) (by omega) Tok_h91t98 Mq_h91 Wrd_h91)
                ·
                  have gh67 : my_fr [(10, 7), (10, 8), (10, 27), (66, -1), (67, -1), (68, -1), (69, -1), (70, -1), (71, -1), (72, -1), (73, -1), (74, -1), (75, -1), (77, -1), (78, -1), (79, -1)] h h67 := my_fr.tr gh23 (frh67.mo rfl)
                  have Mq_h67 : Mq h67 wv := Mq_ag (my_ag.fr frh67 rfl) Mq_h23
                  have Wrd_h67 : Wrd h67 := Wrd_ag (my_ag.fr frh67 rfl) Wrd_h23
                  show wp l rho (d + 4) 185 194 [(2, 151), (0, p88_0), (0, p88_1), (0, p88_2), (0, p88_3), (0, (36 + v9)), (0, v24), (9, 0)] [(0, v68)] h67 Q
                  refine w_istore (ls' := [(2, 151), (0, p88_0), (0, p88_1), (0, p88_2), (0, p88_3), (0, (36 + v9)), (0, v24), (0, v68)]) gz_185_194 gm_185 rfl rfl rfl ?_
                  refine w_aload_n gz_185_196 rfl ?_
                  refine w_getX (v := 173) gz_185_197 is_151 rd_10 rfl (by decide) rfl ?_
                  refine w_bipush gz_185_200 (by decide) ?_
                  refine w_iload gz_185_202 rfl ?_
                  refine w_iadd gz_185_204 ⟨by omega, by omega⟩ ?_
                  refine w_aload_n gz_185_205 rfl ?_
                  refine v_getI (j := 8) gz_185_206 rfl is_151 rd_10 rfl (fun v102 ev102 pv102 qv102 => ?_)
                  have zv102 := ev102.trans w73
                  refine w_ifne (t := 217) gz_185_209 rfl (fun u103 => by exfalso; omega) (fun u103 => ?_)
                  refine w_iload gz_185_212 rfl ?_
                  refine w_goto (t := 227) gz_185_214 rfl ?_
                  have hi104 : (-1) ≤ v68 := by omega
                  have hi105 : v68 ≤ 19 := by omega
                  have hi106 : 0 ≤ (24 + v24) := by omega
                  have hi107 : (24 + v24) ≤ 27 := by omega
                  refine w_iast gz_185_227 is_173 rd_72 (by omega) (by omega) (by omega) (by omega) (fun h108 fh108 => ?_)
                  have gh108 : my_fr [(10, 7), (10, 8), (10, 27), (66, -1), (67, -1), (68, -1), (69, -1), (70, -1), (71, -1), (72, -1), (73, -1), (74, -1), (75, -1), (77, -1), (78, -1), (79, -1)] h h108 := my_fr.up gh67 is_173 fh108 rfl
                  have Mq_h108 : Mq h108 wv := Mq_ag (my_ag.up fh108 is_173 rfl) Mq_h67
                  have Wrd_h108 : Wrd h108 := Wrd_ag (my_ag.up fh108 is_173 rfl) Wrd_h67
                  have Tok_h108 : Tok h108 := Tok_ag (my_ag.up fh108 is_173 rfl) Tok_h67t79
                  refine w_aload_n gz_185_228 rfl ?_
                  refine v_getI (j := 8) gz_185_229 rfl is_151 rd_10 rfl (fun v109 ev109 pv109 qv109 => ?_)
                  have zv109 := ev109.trans ((my_up_role fh108 is_151 is_173 rfl).trans ev102.symm)
                  refine w_ifne (t := 269) gz_185_232 rfl (fun u110 => by exfalso; omega) (fun u110 => ?_)
                  refine w_iload_n gz_185_235 rfl ?_
                  refine w_ifne (t := 252) gz_185_236 rfl (fun u111 => by exfalso; omega) (fun u111 => ?_)
                  refine w_iload_n gz_185_239 rfl ?_
                  refine w_ifne (t := 252) gz_185_240 rfl (fun u112 => by exfalso; omega) (fun u112 => ?_)
                  refine w_iload_n gz_185_243 rfl ?_
                  refine w_ifne (t := 252) gz_185_244 rfl (fun u113 => by exfalso; omega) (fun u113 => ?_)
                  refine w_iload gz_185_247 rfl ?_
                  refine w_ifeq (t := 269) gz_185_249 rfl (fun u114 => ?_) (fun u114 => by exfalso; omega)
                  refine w_aload_n gz_185_269 rfl ?_
                  refine w_bipush gz_185_270 (by decide) ?_
                  have ce115 : h108 151 7 = (h67 151 7) := ((my_up_role fh108 is_151 is_173 rfl).trans (rfl : h67 151 7 = h67 151 7))
                  refine w_inv (k := 0) (as := [(0, 59)]) (r := []) (x := 151) (ls0 := [(2, 151), (0, 59)]) gz_185_272 gm_183 rfl is_151 rd_10 rfl rfl rfl rfl rfl (c_Model_takeSign_f0 (d := (d + 2))  (ev109.symm.trans (by omega)) Tok_h108 (fun h116 frh116 w117 w118 xp119 Tok_h116t120 => ?_) (fun h121 frh121 w122 w123 w124 xp125 Tok_h121t126 => ?_))
                  ·
                    have gh116 : my_fr [(10, 7), (10, 8), (10, 27), (66, -1), (67, -1), (68, -1), (69, -1), (70, -1), (71, -1), (72, -1), (73, -1), (74, -1), (75, -1), (77, -1), (78, -1), (79, -1)] h h116 := my_fr.tr gh108 (frh116.mo rfl)
                    have Mq_h116 : Mq h116 wv := Mq_ag (my_ag.fr frh116 rfl) Mq_h108
                    have Wrd_h116 : Wrd h116 := Wrd_ag (my_ag.fr frh116 rfl) Wrd_h108
                    show wp l rho (d + 4) 185 275 [(2, 151), (0, p88_0), (0, p88_1), (0, p88_2), (0, p88_3), (0, (36 + v9)), (0, v24), (0, v68)] [] h116 Q
                    have c127 := (rfl : h116 151 8 = h116 151 8)
                    exact w_vret gz_185_275 gm_185 (k0 h116 (gh116) (by omega) (by omega) Tok_h116t120 Mq_h116 Wrd_h116)
                  ·
                    have gh121 : my_fr [(10, 7), (10, 8), (10, 27), (66, -1), (67, -1), (68, -1), (69, -1), (70, -1), (71, -1), (72, -1), (73, -1), (74, -1), (75, -1), (77, -1), (78, -1), (79, -1)] h h121 := my_fr.tr gh108 (frh121.mo rfl)
                    have Mq_h121 : Mq h121 wv := Mq_ag (my_ag.fr frh121 rfl) Mq_h108
                    have Wrd_h121 : Wrd h121 := Wrd_ag (my_ag.fr frh121 rfl) Wrd_h108
                    show wp l rho (d + 4) 185 275 [(2, 151), (0, p88_0), (0, p88_1), (0, p88_2), (0, p88_3), (0, (36 + v9)), (0, v24), (0, v68)] [] h121 Q
                    have ce128 : h121 151 7 = (h121 151 7) := (rfl : h121 151 7 = h121 151 7)
                    have c129 := (rfl : h121 151 7 = h121 151 7)
                    have c130 := w124
                    exact w_vret gz_185_275 gm_185 (k1 h121 (gh121) (by omega) (by omega) (by omega) (by first | assumption | omega | (subst_vars; omega)) Tok_h121t126 Mq_h121 Wrd_h121)
            ·
              refine w_aload_n gz_185_162 rfl ?_
              refine w_iload gz_185_163 rfl ?_
              have ce131 : h6 151 7 = (v3 + 1) := (my_up_self fh6)
              have hi132 : 36 ≤ (36 + v9) := by omega
              have hi133 : (36 + v9) ≤ 41 := by omega
              refine w_inv (k := 0) (as := [(0, (36 + v9))]) (r := []) (x := 151) (ls0 := [(2, 151), (0, (36 + v9))]) gz_185_165 gm_190 rfl is_151 rd_10 rfl rfl rfl rfl rfl (c_Model_readSum2_f0 (d := d) (x1 := (36 + v9)) (wv := wv) (by omega) (by omega) (((my_up_fld fh6 (by decide)).trans ev1.symm).trans (by omega)) (by first | assumption | omega) (by first | assumption | omega) Tok_h6t7 Mq_h6 (by first | assumption | omega | (subst_vars; omega)) (fun h134 frh134 w135 w136 xp137 Tok_h134t138 Mq_h134t139 => ?_) (fun h140 frh140 w141 w142 w143 xp144 xp145 xp146 Tok_h140t147 Mq_h140t148 => ?_))
              ·
                have gh134 : my_fr [(10, 7), (10, 8), (10, 27), (66, -1), (67, -1), (68, -1), (69, -1), (70, -1), (71, -1), (72, -1), (73, -1), (74, -1), (75, -1), (77, -1), (78, -1), (79, -1)] h h134 := my_fr.tr gh6 (frh134.mo rfl)
                have Wrd_h134 : Wrd h134 := Wrd_ag (my_ag.fr frh134 rfl) Wrd_h6
                show wp l rho (d + 4) 185 168 [(2, 151), (0, p88_0), (0, p88_1), (0, p88_2), (0, p88_3), (0, (36 + v9)), (9, 0), (9, 0)] [] h134 Q
                have pk := xp137
                refine w_goto (t := 228) gz_185_168 rfl ?_
                refine w_aload_n gz_185_228 rfl ?_
                refine v_getI (j := 8) gz_185_229 rfl is_151 rd_10 rfl (fun v149 ev149 pv149 qv149 => ?_)
                have zv149 := ev149.trans (rfl : h134 151 8 = h134 151 8)
                refine w_ifne (t := 269) gz_185_232 rfl (fun u150 => ?_) (fun u150 => by exfalso; omega)
                refine w_aload_n gz_185_269 rfl ?_
                refine w_bipush gz_185_270 (by decide) ?_
                refine w_inv (k := 0) (as := [(0, 59)]) (r := []) (x := 151) (ls0 := [(2, 151), (0, 59)]) gz_185_272 gm_183 rfl is_151 rd_10 rfl rfl rfl rfl rfl (c_Model_takeSign_f1 (d := (d + 2))  (v149) (ev149.symm) (by omega) (by omega) Tok_h134t138 (fun w151 w152 xp153 Tok_h134t154 => ?_))
                show wp l rho (d + 4) 185 275 [(2, 151), (0, p88_0), (0, p88_1), (0, p88_2), (0, p88_3), (0, (36 + v9)), (9, 0), (9, 0)] [] h134 Q
                have c155 := ev149.symm
                exact w_vret gz_185_275 gm_185 (k0 h134 (gh134) (by omega) (by omega) Tok_h134t154 Mq_h134t139 Wrd_h134)
              ·
                have gh140 : my_fr [(10, 7), (10, 8), (10, 27), (66, -1), (67, -1), (68, -1), (69, -1), (70, -1), (71, -1), (72, -1), (73, -1), (74, -1), (75, -1), (77, -1), (78, -1), (79, -1)] h h140 := my_fr.tr gh6 (frh140.mo rfl)
                have Wrd_h140 : Wrd h140 := Wrd_ag (my_ag.fr frh140 rfl) Wrd_h6
                show wp l rho (d + 4) 185 168 [(2, 151), (0, p88_0), (0, p88_1), (0, p88_2), (0, p88_3), (0, (36 + v9)), (9, 0), (9, 0)] [] h140 Q
                have pk := xp144
                have pk3 := xp145
                refine w_goto (t := 228) gz_185_168 rfl ?_
                refine w_aload_n gz_185_228 rfl ?_
                refine v_getI (j := 8) gz_185_229 rfl is_151 rd_10 rfl (fun v156 ev156 pv156 qv156 => ?_)
                have zv156 := ev156.trans w143
                refine w_ifne (t := 269) gz_185_232 rfl (fun u157 => by exfalso; omega) (fun u157 => ?_)
                refine w_iload_n gz_185_235 rfl ?_
                refine w_ifne (t := 252) gz_185_236 rfl (fun u158 => by exfalso; omega) (fun u158 => ?_)
                refine w_iload_n gz_185_239 rfl ?_
                refine w_ifne (t := 252) gz_185_240 rfl (fun u159 => by exfalso; omega) (fun u159 => ?_)
                refine w_iload_n gz_185_243 rfl ?_
                refine w_ifne (t := 252) gz_185_244 rfl (fun u160 => by exfalso; omega) (fun u160 => ?_)
                refine w_iload gz_185_247 rfl ?_
                refine w_ifeq (t := 269) gz_185_249 rfl (fun u161 => by exfalso; omega) (fun u161 => ?_)
                refine w_aload_n gz_185_252 rfl ?_
                refine w_iload gz_185_253 rfl ?_
                have d167 : ∀ j : Int, h140 167 j = h88_0 167 j := fun j => ((my_fr.at frh140 is_167 rfl).trans ((my_up_role fh6 is_167 is_151 rfl).trans (rfl : h88_0 167 j = h88_0 167 j)))
                have d6 := d167 6
                have mr0 := Mq_h140t148
                refine w_inv (k := 1) (as := [(0, (36 + v9))]) (r := []) (x := 151) (ls0 := [(2, 151), (0, (36 + v9)), (9, 0)]) gz_185_255 gm_182 rfl is_151 rd_10 rfl rfl rfl rfl rfl (c_Model_pane_f0 (d := (d + 3)) (x1 := (36 + v9)) (by omega) (by omega) (ev156.symm.trans (by omega)) (pk.1) (fun h162 frh162 w163 xp164 => ?_))
                have gh162 : my_fr [(10, 7), (10, 8), (10, 27), (66, -1), (67, -1), (68, -1), (69, -1), (70, -1), (71, -1), (72, -1), (73, -1), (74, -1), (75, -1), (77, -1), (78, -1), (79, -1)] h h162 := my_fr.tr gh140 (frh162.mo rfl)
                have Wrd_h162 : Wrd h162 := Wrd_ag (my_ag.fr frh162 rfl) Wrd_h140
                have Tok_h162 : Tok h162 := Tok_ag (my_ag.fr frh162 rfl) Tok_h140t147
                show wp l rho (d + 4) 185 258 [(2, 151), (0, p88_0), (0, p88_1), (0, p88_2), (0, p88_3), (0, (36 + v9)), (9, 0), (9, 0)] [] h162 Q
                have ag0 : my_ag M3F h140 h162 := my_ag.fr frh162 rfl
                have e27 := xp164
                have e67 : h162 167 6 = h140 167 6 := ag0.at mis_167 rfl
                refine w_aload_n gz_185_258 rfl ?_
                refine w_getX (v := 167) gz_185_259 is_151 rd_10 rfl (by decide) rfl ?_
                refine w_bipush gz_185_262 (by decide) ?_
                refine w_dup2 gz_185_264 rfl rfl ?_
                refine w_iald gz_185_265 is_167 rd_66 (by omega) (by omega) (fun v166 ev166 pv166 qv166 => ?_)
                have zv166 := ev166.trans ((my_fr.at frh162 is_167 rfl).trans ((my_fr.at frh140 is_167 rfl).trans ev9.symm))
                refine w_iconst gz_185_266 (by decide) ?_
                refine w_iadd gz_185_267 ⟨by omega, by omega⟩ ?_
                have hi167 : 0 ≤ (v166 + 1) := by omega
                have hi168 : (v166 + 1) ≤ 6 := by omega
                refine w_iast gz_185_268 is_167 rd_66 (by omega) (by omega) (by omega) (by omega) (fun h169 fh169 => ?_)
                have gh169 : my_fr [(10, 7), (10, 8), (10, 27), (66, -1), (67, -1), (68, -1), (69, -1), (70, -1), (71, -1), (72, -1), (73, -1), (74, -1), (75, -1), (77, -1), (78, -1), (79, -1)] h h169 := my_fr.up gh162 is_167 fh169 rfl
                have Wrd_h169 : Wrd h169 := Wrd_ag (my_ag.up fh169 is_167 rfl) Wrd_h162
                have Tok_h169 : Tok h169 := Tok_ag (my_ag.up fh169 is_167 rfl) Tok_h162
                have Mq_h169t170 : Mq h169 wv := Mq_add mr0 (by omega) pk pk3 ag0 e27 fh169 (by omega) (by omega)
                refine w_aload_n gz_185_269 rfl ?_
                refine w_bipush gz_185_270 (by decide) ?_
                have ce171 : h169 151 7 = (h140 151 7) := ((my_up_role fh169 is_151 is_167 rfl).trans ((my_fr.at frh162 is_151 rfl).trans (rfl : h140 151 7 = h140 151 7)))
                refine w_inv (k := 0) (as := [(0, 59)]) (r := []) (x := 151) (ls0 := [(2, 151), (0, 59)]) gz_185_272 gm_183 rfl is_151 rd_10 rfl rfl rfl rfl rfl (c_Model_takeSign_f0 (d := (d + 2))  (((my_up_role fh169 is_151 is_167 rfl).trans ((my_fr.at frh162 is_151 rfl).trans ev156.symm)).trans (by omega)) Tok_h169 (fun h172 frh172 w173 w174 xp175 Tok_h172t176 => ?_) (fun h177 frh177 w178 w179 w180 xp181 Tok_h177t182 => ?_))
                ·
                  have gh172 : my_fr [(10, 7), (10, 8), (10, 27), (66, -1), (67, -1), (68, -1), (69, -1), (70, -1), (71, -1), (72, -1), (73, -1), (74, -1), (75, -1), (77, -1), (78, -1), (79, -1)] h h172 := my_fr.tr gh169 (frh172.mo rfl)
                  have Wrd_h172 : Wrd h172 := Wrd_ag (my_ag.fr frh172 rfl) Wrd_h169
                  have Mq_h172 : Mq h172 wv := Mq_ag (my_ag.fr frh172 rfl) Mq_h169t170
                  show wp l rho (d + 4) 185 275 [(2, 151), (0, p88_0), (0, p88_1), (0, p88_2), (0, p88_3), (0, (36 + v9)), (9, 0), (9, 0)] [] h172 Q
                  have c183 := (rfl : h172 151 8 = h172 151 8)
                  exact w_vret gz_185_275 gm_185 (k0 h172 (gh172) (by omega) (by omega) Tok_h172t176 Mq_h172 Wrd_h172)
                ·
                  have gh177 : my_fr [(10, 7), (10, 8), (10, 27), (66, -1), (67, -1), (68, -1), (69, -1), (70, -1), (71, -1), (72, -1), (73, -1), (74, -1), (75, -1), (77, -1), (78, -1), (79, -1)] h h177 := my_fr.tr gh169 (frh177.mo rfl)
                  have Wrd_h177 : Wrd h177 := Wrd_ag (my_ag.fr frh177 rfl) Wrd_h169
                  have Mq_h177 : Mq h177 wv := Mq_ag (my_ag.fr frh177 rfl) Mq_h169t170
                  show wp l rho (d + 4) 185 275 [(2, 151), (0, p88_0), (0, p88_1), (0, p88_2), (0, p88_3), (0, (36 + v9)), (9, 0), (9, 0)] [] h177 Q
                  have ce184 : h177 151 7 = (h177 151 7) := (rfl : h177 151 7 = h177 151 7)
                  have c185 := (rfl : h177 151 7 = h177 151 7)
                  have c186 := w180
                  exact w_vret gz_185_275 gm_185 (k1 h177 (gh177) (by omega) (by omega) (by omega) (by first | assumption | omega | (subst_vars; omega)) Tok_h177t182 Mq_h177 Wrd_h177)
          ·
            refine w_aload_n gz_185_148 rfl ?_
            refine w_iload gz_185_149 rfl ?_
            have ce187 : h6 151 7 = (v3 + 1) := (my_up_self fh6)
            have hi188 : 36 ≤ (36 + v9) := by omega
            have hi189 : (36 + v9) ≤ 41 := by omega
            refine w_inv (k := 1) (as := [(0, (36 + v9))]) (r := []) (x := 151) (ls0 := [(2, 151), (0, (36 + v9)), (9, 0)]) gz_185_151 gm_189 rfl is_151 rd_10 rfl rfl rfl rfl rfl (c_Model_readJoin_f0 (d := d) (x1 := (36 + v9)) (wv := wv) (by omega) (by omega) (((my_up_fld fh6 (by decide)).trans ev1.symm).trans (by omega)) (by first | assumption | omega) (by first | assumption | omega) Tok_h6t7 Mq_h6 (by first | assumption | omega | (subst_vars; omega)) (fun h190 frh190 w191 w192 xp193 Tok_h190t194 Mq_h190t195 => ?_) (fun h196 frh196 w197 w198 w199 xp200 xp201 xp202 Tok_h196t203 Mq_h196t204 => ?_))
            ·
              have gh190 : my_fr [(10, 7), (10, 8), (10, 27), (66, -1), (67, -1), (68, -1), (69, -1), (70, -1), (71, -1), (72, -1), (73, -1), (74, -1), (75, -1), (77, -1), (78, -1), (79, -1)] h h190 := my_fr.tr gh6 (frh190.mo rfl)
              have Wrd_h190 : Wrd h190 := Wrd_ag (my_ag.fr frh190 rfl) Wrd_h6
              show wp l rho (d + 4) 185 154 [(2, 151), (0, p88_0), (0, p88_1), (0, p88_2), (0, p88_3), (0, (36 + v9)), (9, 0), (9, 0)] [] h190 Q
              have pk := xp193
              refine w_goto (t := 228) gz_185_154 rfl ?_
              refine w_aload_n gz_185_228 rfl ?_
              refine v_getI (j := 8) gz_185_229 rfl is_151 rd_10 rfl (fun v205 ev205 pv205 qv205 => ?_)
              have zv205 := ev205.trans (rfl : h190 151 8 = h190 151 8)
              refine w_ifne (t := 269) gz_185_232 rfl (fun u206 => ?_) (fun u206 => by exfalso; omega)
              refine w_aload_n gz_185_269 rfl ?_
              refine w_bipush gz_185_270 (by decide) ?_
              refine w_inv (k := 0) (as := [(0, 59)]) (r := []) (x := 151) (ls0 := [(2, 151), (0, 59)]) gz_185_272 gm_183 rfl is_151 rd_10 rfl rfl rfl rfl rfl (c_Model_takeSign_f1 (d := (d + 2))  (v205) (ev205.symm) (by omega) (by omega) Tok_h190t194 (fun w207 w208 xp209 Tok_h190t210 => ?_))
              show wp l rho (d + 4) 185 275 [(2, 151), (0, p88_0), (0, p88_1), (0, p88_2), (0, p88_3), (0, (36 + v9)), (9, 0), (9, 0)] [] h190 Q
              have c211 := ev205.symm
              exact w_vret gz_185_275 gm_185 (k0 h190 (gh190) (by omega) (by omega) Tok_h190t210 Mq_h190t195 Wrd_h190)
            ·
              have gh196 : my_fr [(10, 7), (10, 8), (10, 27), (66, -1), (67, -1), (68, -1), (69, -1), (70, -1), (71, -1), (72, -1), (73, -1), (74, -1), (75, -1), (77, -1), (78, -1), (79, -1)] h h196 := my_fr.tr gh6 (frh196.mo rfl)
              have Wrd_h196 : Wrd h196 := Wrd_ag (my_ag.fr frh196 rfl) Wrd_h6
              show wp l rho (d + 4) 185 154 [(2, 151), (0, p88_0), (0, p88_1), (0, p88_2), (0, p88_3), (0, (36 + v9)), (9, 0), (9, 0)] [] h196 Q
              have pk := xp200
              have pk3 := xp201
              refine w_goto (t := 228) gz_185_154 rfl ?_
              refine w_aload_n gz_185_228 rfl ?_
              refine v_getI (j := 8) gz_185_229 rfl is_151 rd_10 rfl (fun v212 ev212 pv212 qv212 => ?_)
              have zv212 := ev212.trans w199
              refine w_ifne (t := 269) gz_185_232 rfl (fun u213 => by exfalso; omega) (fun u213 => ?_)
              refine w_iload_n gz_185_235 rfl ?_
              refine w_ifne (t := 252) gz_185_236 rfl (fun u214 => by exfalso; omega) (fun u214 => ?_)
              refine w_iload_n gz_185_239 rfl ?_
              refine w_ifne (t := 252) gz_185_240 rfl (fun u215 => by exfalso; omega) (fun u215 => ?_)
              refine w_iload_n gz_185_243 rfl ?_
              refine w_ifne (t := 252) gz_185_244 rfl (fun u216 => ?_) (fun u216 => by exfalso; omega)
              refine w_aload_n gz_185_252 rfl ?_
              refine w_iload gz_185_253 rfl ?_
              have d167 : ∀ j : Int, h196 167 j = h88_0 167 j := fun j => ((my_fr.at frh196 is_167 rfl).trans ((my_up_role fh6 is_167 is_151 rfl).trans (rfl : h88_0 167 j = h88_0 167 j)))
              have d6 := d167 6
              have mr0 := Mq_h196t204
              refine w_inv (k := 1) (as := [(0, (36 + v9))]) (r := []) (x := 151) (ls0 := [(2, 151), (0, (36 + v9)), (9, 0)]) gz_185_255 gm_182 rfl is_151 rd_10 rfl rfl rfl rfl rfl (c_Model_pane_f0 (d := (d + 3)) (x1 := (36 + v9)) (by omega) (by omega) (ev212.symm.trans (by omega)) (pk.1) (fun h217 frh217 w218 xp219 => ?_))
              have gh217 : my_fr [(10, 7), (10, 8), (10, 27), (66, -1), (67, -1), (68, -1), (69, -1), (70, -1), (71, -1), (72, -1), (73, -1), (74, -1), (75, -1), (77, -1), (78, -1), (79, -1)] h h217 := my_fr.tr gh196 (frh217.mo rfl)
              have Wrd_h217 : Wrd h217 := Wrd_ag (my_ag.fr frh217 rfl) Wrd_h196
              have Tok_h217 : Tok h217 := Tok_ag (my_ag.fr frh217 rfl) Tok_h196t203
              show wp l rho (d + 4) 185 258 [(2, 151), (0, p88_0), (0, p88_1), (0, p88_2), (0, p88_3), (0, (36 + v9)), (9, 0), (9, 0)] [] h217 Q
              have ag0 : my_ag M3F h196 h217 := my_ag.fr frh217 rfl
              have e27 := xp219
              have e67 : h217 167 6 = h196 167 6 := ag0.at mis_167 rfl
              refine w_aload_n gz_185_258 rfl ?_
              refine w_getX (v := 167) gz_185_259 is_151 rd_10 rfl (by decide) rfl ?_
              refine w_bipush gz_185_262 (by decide) ?_
              refine w_dup2 gz_185_264 rfl rfl ?_
              refine w_iald gz_185_265 is_167 rd_66 (by omega) (by omega) (fun v221 ev221 pv221 qv221 => ?_)
              have zv221 := ev221.trans ((my_fr.at frh217 is_167 rfl).trans ((my_fr.at frh196 is_167 rfl).trans ev9.symm))
              refine w_iconst gz_185_266 (by decide) ?_
              refine w_iadd gz_185_267 ⟨by omega, by omega⟩ ?_
              have hi222 : 0 ≤ (v221 + 1) := by omega
              have hi223 : (v221 + 1) ≤ 6 := by omega
              refine w_iast gz_185_268 is_167 rd_66 (by omega) (by omega) (by omega) (by omega) (fun h224 fh224 => ?_)
              have gh224 : my_fr [(10, 7), (10, 8), (10, 27), (66, -1), (67, -1), (68, -1), (69, -1), (70, -1), (71, -1), (72, -1), (73, -1), (74, -1), (75, -1), (77, -1), (78, -1), (79, -1)] h h224 := my_fr.up gh217 is_167 fh224 rfl
              have Wrd_h224 : Wrd h224 := Wrd_ag (my_ag.up fh224 is_167 rfl) Wrd_h217
              have Tok_h224 : Tok h224 := Tok_ag (my_ag.up fh224 is_167 rfl) Tok_h217
              have Mq_h224t225 : Mq h224 wv := Mq_add mr0 (by omega) pk pk3 ag0 e27 fh224 (by omega) (by omega)
              refine w_aload_n gz_185_269 rfl ?_
              refine w_bipush gz_185_270 (by decide) ?_
              have ce226 : h224 151 7 = (h196 151 7) := ((my_up_role fh224 is_151 is_167 rfl).trans ((my_fr.at frh217 is_151 rfl).trans (rfl : h196 151 7 = h196 151 7)))
              refine w_inv (k := 0) (as := [(0, 59)]) (r := []) (x := 151) (ls0 := [(2, 151), (0, 59)]) gz_185_272 gm_183 rfl is_151 rd_10 rfl rfl rfl rfl rfl (c_Model_takeSign_f0 (d := (d + 2))  (((my_up_role fh224 is_151 is_167 rfl).trans ((my_fr.at frh217 is_151 rfl).trans ev212.symm)).trans (by omega)) Tok_h224 (fun h227 frh227 w228 w229 xp230 Tok_h227t231 => ?_) (fun h232 frh232 w233 w234 w235 xp236 Tok_h232t237 => ?_))
              ·
                have gh227 : my_fr [(10, 7), (10, 8), (10, 27), (66, -1), (67, -1), (68, -1), (69, -1), (70, -1), (71, -1), (72, -1), (73, -1), (74, -1), (75, -1), (77, -1), (78, -1), (79, -1)] h h227 := my_fr.tr gh224 (frh227.mo rfl)
                have Wrd_h227 : Wrd h227 := Wrd_ag (my_ag.fr frh227 rfl) Wrd_h224
                have Mq_h227 : Mq h227 wv := Mq_ag (my_ag.fr frh227 rfl) Mq_h224t225
                show wp l rho (d + 4) 185 275 [(2, 151), (0, p88_0), (0, p88_1), (0, p88_2), (0, p88_3), (0, (36 + v9)), (9, 0), (9, 0)] [] h227 Q
                have c238 := (rfl : h227 151 8 = h227 151 8)
                exact w_vret gz_185_275 gm_185 (k0 h227 (gh227) (by omega) (by omega) Tok_h227t231 Mq_h227 Wrd_h227)
              ·
                have gh232 : my_fr [(10, 7), (10, 8), (10, 27), (66, -1), (67, -1), (68, -1), (69, -1), (70, -1), (71, -1), (72, -1), (73, -1), (74, -1), (75, -1), (77, -1), (78, -1), (79, -1)] h h232 := my_fr.tr gh224 (frh232.mo rfl)
                have Wrd_h232 : Wrd h232 := Wrd_ag (my_ag.fr frh232 rfl) Wrd_h224
                have Mq_h232 : Mq h232 wv := Mq_ag (my_ag.fr frh232 rfl) Mq_h224t225
                show wp l rho (d + 4) 185 275 [(2, 151), (0, p88_0), (0, p88_1), (0, p88_2), (0, p88_3), (0, (36 + v9)), (9, 0), (9, 0)] [] h232 Q
                have ce239 : h232 151 7 = (h232 151 7) := (rfl : h232 151 7 = h232 151 7)
                have c240 := (rfl : h232 151 7 = h232 151 7)
                have c241 := w235
                exact w_vret gz_185_275 gm_185 (k1 h232 (gh232) (by omega) (by omega) (by omega) (by first | assumption | omega | (subst_vars; omega)) Tok_h232t237 Mq_h232 Wrd_h232)
        ·
          refine w_aload_n gz_185_135 rfl ?_
          refine w_iload gz_185_136 rfl ?_
          have ce242 : h6 151 7 = (v3 + 1) := (my_up_self fh6)
          have hi243 : 36 ≤ (36 + v9) := by omega
          have hi244 : (36 + v9) ≤ 41 := by omega
          refine w_inv (k := 3) (as := [(0, (36 + v9))]) (r := []) (x := 151) (ls0 := [(2, 151), (0, (36 + v9)), (9, 0), (9, 0), (9, 0)]) gz_185_138 gm_188 rfl is_151 rd_10 rfl rfl rfl rfl rfl (c_Model_readFew_f0 (d := (d + 1)) (x1 := (36 + v9)) (wv := wv) (by omega) (by omega) (((my_up_fld fh6 (by decide)).trans ev1.symm).trans (by omega)) (by first | assumption | omega) (by first | assumption | omega) Tok_h6t7 Mq_h6 (by first | assumption | omega | (subst_vars; omega)) (fun h245 frh245 xp246 Tok_h245t247 Mq_h245t248 => ?_))
          have gh245 : my_fr [(10, 7), (10, 8), (10, 27), (66, -1), (67, -1), (68, -1), (69, -1), (70, -1), (71, -1), (72, -1), (73, -1), (74, -1), (75, -1), (77, -1), (78, -1), (79, -1)] h h245 := my_fr.tr gh6 (frh245.mo rfl)
          have Wrd_h245 : Wrd h245 := Wrd_ag (my_ag.fr frh245 rfl) Wrd_h6
          show wp l rho (d + 4) 185 141 [(2, 151), (0, p88_0), (0, p88_1), (0, p88_2), (0, p88_3), (0, (36 + v9)), (9, 0), (9, 0)] [] h245 Q
          have pk := xp246
          refine w_goto (t := 228) gz_185_141 rfl ?_
          refine w_aload_n gz_185_228 rfl ?_
          refine v_getI (j := 8) gz_185_229 rfl is_151 rd_10 rfl (fun v249 ev249 pv249 qv249 => ?_)
          refine w_ifne (t := 269) gz_185_232 rfl (fun u250 => ?_) (fun u250 => ?_)
          ·
            refine w_aload_n gz_185_269 rfl ?_
            refine w_bipush gz_185_270 (by decide) ?_
            refine w_inv (k := 0) (as := [(0, 59)]) (r := []) (x := 151) (ls0 := [(2, 151), (0, 59)]) gz_185_272 gm_183 rfl is_151 rd_10 rfl rfl rfl rfl rfl (c_Model_takeSign_f1 (d := (d + 2))  (v249) (ev249.symm) (by omega) (by omega) Tok_h245t247 (fun w251 w252 xp253 Tok_h245t254 => ?_))
            show wp l rho (d + 4) 185 275 [(2, 151), (0, p88_0), (0, p88_1), (0, p88_2), (0, p88_3), (0, (36 + v9)), (9, 0), (9, 0)] [] h245 Q
            have c255 := ev249.symm
            exact w_vret gz_185_275 gm_185 (k0 h245 (gh245) (by omega) (by omega) Tok_h245t254 Mq_h245t248 Wrd_h245)
          ·
            refine w_iload_n gz_185_235 rfl ?_
            refine w_ifne (t := 252) gz_185_236 rfl (fun u256 => by exfalso; omega) (fun u256 => ?_)
            refine w_iload_n gz_185_239 rfl ?_
            refine w_ifne (t := 252) gz_185_240 rfl (fun u257 => ?_) (fun u257 => by exfalso; omega)
            refine w_aload_n gz_185_252 rfl ?_
            refine w_iload gz_185_253 rfl ?_
            have d167 : ∀ j : Int, h245 167 j = h88_0 167 j := fun j => ((my_fr.at frh245 is_167 rfl).trans ((my_up_role fh6 is_167 is_151 rfl).trans (rfl : h88_0 167 j = h88_0 167 j)))
            have d6 := d167 6
            have mr0 := Mq_h245t248
            refine w_inv (k := 1) (as := [(0, (36 + v9))]) (r := []) (x := 151) (ls0 := [(2, 151), (0, (36 + v9)), (9, 0)]) gz_185_255 gm_182 rfl is_151 rd_10 rfl rfl rfl rfl rfl (c_Model_pane_f0 (d := (d + 3)) (x1 := (36 + v9)) (by omega) (by omega) (ev249.symm.trans (by omega)) (pk.1) (fun h258 frh258 w259 xp260 => ?_))
            have gh258 : my_fr [(10, 7), (10, 8), (10, 27), (66, -1), (67, -1), (68, -1), (69, -1), (70, -1), (71, -1), (72, -1), (73, -1), (74, -1), (75, -1), (77, -1), (78, -1), (79, -1)] h h258 := my_fr.tr gh245 (frh258.mo rfl)
            have Wrd_h258 : Wrd h258 := Wrd_ag (my_ag.fr frh258 rfl) Wrd_h245
            have Tok_h258 : Tok h258 := Tok_ag (my_ag.fr frh258 rfl) Tok_h245t247
            show wp l rho (d + 4) 185 258 [(2, 151), (0, p88_0), (0, p88_1), (0, p88_2), (0, p88_3), (0, (36 + v9)), (9, 0), (9, 0)] [] h258 Q
            have ag0 : my_ag M3F h245 h258 := my_ag.fr frh258 rfl
            have e27 := xp260
            have e67 : h258 167 6 = h245 167 6 := ag0.at mis_167 rfl
            refine w_aload_n gz_185_258 rfl ?_
            refine w_getX (v := 167) gz_185_259 is_151 rd_10 rfl (by decide) rfl ?_
            refine w_bipush gz_185_262 (by decide) ?_
            refine w_dup2 gz_185_264 rfl rfl ?_
            refine w_iald gz_185_265 is_167 rd_66 (by omega) (by omega) (fun v262 ev262 pv262 qv262 => ?_)
            have zv262 := ev262.trans ((my_fr.at frh258 is_167 rfl).trans ((my_fr.at frh245 is_167 rfl).trans ev9.symm))
            refine w_iconst gz_185_266 (by decide) ?_
            refine w_iadd gz_185_267 ⟨by omega, by omega⟩ ?_
            have hi263 : 0 ≤ (v262 + 1) := by omega
            have hi264 : (v262 + 1) ≤ 6 := by omega
            refine w_iast gz_185_268 is_167 rd_66 (by omega) (by omega) (by omega) (by omega) (fun h265 fh265 => ?_)
            have gh265 : my_fr [(10, 7), (10, 8), (10, 27), (66, -1), (67, -1), (68, -1), (69, -1), (70, -1), (71, -1), (72, -1), (73, -1), (74, -1), (75, -1), (77, -1), (78, -1), (79, -1)] h h265 := my_fr.up gh258 is_167 fh265 rfl
            have Wrd_h265 : Wrd h265 := Wrd_ag (my_ag.up fh265 is_167 rfl) Wrd_h258
            have Tok_h265 : Tok h265 := Tok_ag (my_ag.up fh265 is_167 rfl) Tok_h258
            have Mq_h265t266 : Mq h265 wv := Mq_add mr0 (by omega) pk pk3 ag0 e27 fh265 (by omega) (by omega)
            refine w_aload_n gz_185_269 rfl ?_
            refine w_bipush gz_185_270 (by decide) ?_
            have ce267 : h265 151 7 = h245 151 7 := ((my_up_role fh265 is_151 is_167 rfl).trans ((my_fr.at frh258 is_151 rfl).trans (rfl : h245 151 7 = h245 151 7)))
            refine w_inv (k := 0) (as := [(0, 59)]) (r := []) (x := 151) (ls0 := [(2, 151), (0, 59)]) gz_185_272 gm_183 rfl is_151 rd_10 rfl rfl rfl rfl rfl (c_Model_takeSign_f0 (d := (d + 2))  (((my_up_role fh265 is_151 is_167 rfl).trans ((my_fr.at frh258 is_151 rfl).trans ev249.symm)).trans (by omega)) Tok_h265 (fun h268 frh268 w269 w270 xp271 Tok_h268t272 => ?_) (fun h273 frh273 w274 w275 w276 xp277 Tok_h273t278 => ?_))
            ·
              have gh268 : my_fr [(10, 7), (10, 8), (10, 27), (66, -1), (67, -1), (68, -1), (69, -1), (70, -1), (71, -1), (72, -1), (73, -1), (74, -1), (75, -1), (77, -1), (78, -1), (79, -1)] h h268 := my_fr.tr gh265 (frh268.mo rfl)
              have Wrd_h268 : Wrd h268 := Wrd_ag (my_ag.fr frh268 rfl) Wrd_h265
              have Mq_h268 : Mq h268 wv := Mq_ag (my_ag.fr frh268 rfl) Mq_h265t266
              show wp l rho (d + 4) 185 275 [(2, 151), (0, p88_0), (0, p88_1), (0, p88_2), (0, p88_3), (0, (36 + v9)), (9, 0), (9, 0)] [] h268 Q
              have c279 := (rfl : h268 151 8 = h268 151 8)
              exact w_vret gz_185_275 gm_185 (k0 h268 (gh268) (by omega) (by omega) Tok_h268t272 Mq_h268 Wrd_h268)
            ·
              have gh273 : my_fr [(10, 7), (10, 8), (10, 27), (66, -1), (67, -1), (68, -1), (69, -1), (70, -1), (71, -1), (72, -1), (73, -1), (74, -1), (75, -1), (77, -1), (78, -1), (79, -1)] h h273 := my_fr.tr gh265 (frh273.mo rfl)
              have Wrd_h273 : Wrd h273 := Wrd_ag (my_ag.fr frh273 rfl) Wrd_h265
              have Mq_h273 : Mq h273 wv := Mq_ag (my_ag.fr frh273 rfl) Mq_h265t266
              show wp l rho (d + 4) 185 275 [(2, 151), (0, p88_0), (0, p88_1), (0, p88_2), (0, p88_3), (0, (36 + v9)), (9, 0), (9, 0)] [] h273 Q
              have ce280 : h273 151 7 = (h273 151 7) := (rfl : h273 151 7 = h273 151 7)
              have c281 := (rfl : h273 151 7 = h273 151 7)
              have c282 := w276
              exact w_vret gz_185_275 gm_185 (k1 h273 (gh273) (by omega) (by omega) (by omega) (by first | assumption | omega | (subst_vars; omega)) Tok_h273t278 Mq_h273 Wrd_h273)
      ·
        refine w_aload_n gz_185_122 rfl ?_
        refine w_iload gz_185_123 rfl ?_
        have ce283 : h6 151 7 = (v3 + 1) := (my_up_self fh6)
        have hi284 : 36 ≤ (36 + v9) := by omega
        have hi285 : (36 + v9) ≤ 41 := by omega
        refine w_inv (k := 2) (as := [(0, (36 + v9))]) (r := []) (x := 151) (ls0 := [(2, 151), (0, (36 + v9)), (9, 0), (9, 0)]) gz_185_125 gm_186 rfl is_151 rd_10 rfl rfl rfl rfl rfl (c_Model_readCut2_f0 (d := (d + 1)) (x1 := (36 + v9)) (wv := wv) (by omega) (by omega) (((my_up_fld fh6 (by decide)).trans ev1.symm).trans (by omega)) (by first | assumption | omega) (by first | assumption | omega) Tok_h6t7 Mq_h6 (by first | assumption | omega | (subst_vars; omega)) (fun h286 frh286 w287 w288 xp289 Tok_h286t290 Mq_h286t291 => ?_) (fun h292 frh292 w293 w294 w295 xp296 xp297 xp298 Tok_h292t299 Mq_h292t300 => ?_))
        ·
          have gh286 : my_fr [(10, 7), (10, 8), (10, 27), (66, -1), (67, -1), (68, -1), (69, -1), (70, -1), (71, -1), (72, -1), (73, -1), (74, -1), (75, -1), (77, -1), (78, -1), (79, -1)] h h286 := my_fr.tr gh6 (frh286.mo rfl)
          have Wrd_h286 : Wrd h286 := Wrd_ag (my_ag.fr frh286 rfl) Wrd_h6
          show wp l rho (d + 4) 185 128 [(2, 151), (0, p88_0), (0, p88_1), (0, p88_2), (0, p88_3), (0, (36 + v9)), (9, 0), (9, 0)] [] h286 Q
          have pk := xp289
          refine w_goto (t := 228) gz_185_128 rfl ?_
          refine w_aload_n gz_185_228 rfl ?_
          refine v_getI (j := 8) gz_185_229 rfl is_151 rd_10 rfl (fun v301 ev301 pv301 qv301 => ?_)
          have zv301 := ev301.trans (rfl : h286 151 8 = h286 151 8)
          refine w_ifne (t := 269) gz_185_232 rfl (fun u302 => ?_) (fun u302 => by exfalso; omega)
          refine w_aload_n gz_185_269 rfl ?_
          refine w_bipush gz_185_270 (by decide) ?_
          refine w_inv (k := 0) (as := [(0, 59)]) (r := []) (x := 151) (ls0 := [(2, 151), (0, 59)]) gz_185_272 gm_183 rfl is_151 rd_10 rfl rfl rfl rfl rfl (c_Model_takeSign_f1 (d := (d + 2))  (v301) (ev301.symm) (by omega) (by omega) Tok_h286t290 (fun w303 w304 xp305 Tok_h286t306 => ?_))
          show wp l rho (d + 4) 185 275 [(2, 151), (0, p88_0), (0, p88_1), (0, p88_2), (0, p88_3), (0, (36 + v9)), (9, 0), (9, 0)] [] h286 Q
          have c307 := ev301.symm
          exact w_vret gz_185_275 gm_185 (k0 h286 (gh286) (by omega) (by omega) Tok_h286t306 Mq_h286t291 Wrd_h286)
        ·
          have gh292 : my_fr [(10, 7), (10, 8), (10, 27), (66, -1), (67, -1), (68, -1), (69, -1), (70, -1), (71, -1), (72, -1), (73, -1), (74, -1), (75, -1), (77, -1), (78, -1), (79, -1)] h h292 := my_fr.tr gh6 (frh292.mo rfl)
          have Wrd_h292 : Wrd h292 := Wrd_ag (my_ag.fr frh292 rfl) Wrd_h6
          show wp l rho (d + 4) 185 128 [(2, 151), (0, p88_0), (0, p88_1), (0, p88_2), (0, p88_3), (0, (36 + v9)), (9, 0), (9, 0)] [] h292 Q
          have pk := xp296
          have pk3 := xp297
          refine w_goto (t := 228) gz_185_128 rfl ?_
          refine w_aload_n gz_185_228 rfl ?_
          refine v_getI (j := 8) gz_185_229 rfl is_151 rd_10 rfl (fun v308 ev308 pv308 qv308 => ?_)
          have zv308 := ev308.trans w295
          refine w_ifne (t := 269) gz_185_232 rfl (fun u309 => by exfalso; omega) (fun u309 => ?_)
          refine w_iload_n gz_185_235 rfl ?_
          refine w_ifne (t := 252) gz_185_236 rfl (fun u310 => ?_) (fun u310 => by exfalso; omega)
          refine w_aload_n gz_185_252 rfl ?_
          refine w_iload gz_185_253 rfl ?_
          have d167 : ∀ j : Int, h292 167 j = h88_0 167 j := fun j => ((my_fr.at frh292 is_167 rfl).trans ((my_up_role fh6 is_167 is_151 rfl).trans (rfl : h88_0 167 j = h88_0 167 j)))
          have d6 := d167 6
          have mr0 := Mq_h292t300
          refine w_inv (k := 1) (as := [(0, (36 + v9))]) (r := []) (x := 151) (ls0 := [(2, 151), (0, (36 + v9)), (9, 0)]) gz_185_255 gm_182 rfl is_151 rd_10 rfl rfl rfl rfl rfl (c_Model_pane_f0 (d := (d + 3)) (x1 := (36 + v9)) (by omega) (by omega) (ev308.symm.trans (by omega)) (pk.1) (fun h311 frh311 w312 xp313 => ?_))
          have gh311 : my_fr [(10, 7), (10, 8), (10, 27), (66, -1), (67, -1), (68, -1), (69, -1), (70, -1), (71, -1), (72, -1), (73, -1), (74, -1), (75, -1), (77, -1), (78, -1), (79, -1)] h h311 := my_fr.tr gh292 (frh311.mo rfl)
          have Wrd_h311 : Wrd h311 := Wrd_ag (my_ag.fr frh311 rfl) Wrd_h292
          have Tok_h311 : Tok h311 := Tok_ag (my_ag.fr frh311 rfl) Tok_h292t299
          show wp l rho (d + 4) 185 258 [(2, 151), (0, p88_0), (0, p88_1), (0, p88_2), (0, p88_3), (0, (36 + v9)), (9, 0), (9, 0)] [] h311 Q
          have ag0 : my_ag M3F h292 h311 := my_ag.fr frh311 rfl
          have e27 := xp313
          have e67 : h311 167 6 = h292 167 6 := ag0.at mis_167 rfl
          refine w_aload_n gz_185_258 rfl ?_
          refine w_getX (v := 167) gz_185_259 is_151 rd_10 rfl (by decide) rfl ?_
          refine w_bipush gz_185_262 (by decide) ?_
          refine w_dup2 gz_185_264 rfl rfl ?_
          refine w_iald gz_185_265 is_167 rd_66 (by omega) (by omega) (fun v315 ev315 pv315 qv315 => ?_)
          have zv315 := ev315.trans ((my_fr.at frh311 is_167 rfl).trans ((my_fr.at frh292 is_167 rfl).trans ev9.symm))
          refine w_iconst gz_185_266 (by decide) ?_
          refine w_iadd gz_185_267 ⟨by omega, by omega⟩ ?_
          have hi316 : 0 ≤ (v315 + 1) := by omega
          have hi317 : (v315 + 1) ≤ 6 := by omega
          refine w_iast gz_185_268 is_167 rd_66 (by omega) (by omega) (by omega) (by omega) (fun h318 fh318 => ?_)
          have gh318 : my_fr [(10, 7), (10, 8), (10, 27), (66, -1), (67, -1), (68, -1), (69, -1), (70, -1), (71, -1), (72, -1), (73, -1), (74, -1), (75, -1), (77, -1), (78, -1), (79, -1)] h h318 := my_fr.up gh311 is_167 fh318 rfl
          have Wrd_h318 : Wrd h318 := Wrd_ag (my_ag.up fh318 is_167 rfl) Wrd_h311
          have Tok_h318 : Tok h318 := Tok_ag (my_ag.up fh318 is_167 rfl) Tok_h311
          have Mq_h318t319 : Mq h318 wv := Mq_add mr0 (by omega) pk pk3 ag0 e27 fh318 (by omega) (by omega)
          refine w_aload_n gz_185_269 rfl ?_
          refine w_bipush gz_185_270 (by decide) ?_
          have ce320 : h318 151 7 = (h292 151 7) := ((my_up_role fh318 is_151 is_167 rfl).trans ((my_fr.at frh311 is_151 rfl).trans (rfl : h292 151 7 = h292 151 7)))
          refine w_inv (k := 0) (as := [(0, 59)]) (r := []) (x := 151) (ls0 := [(2, 151), (0, 59)]) gz_185_272 gm_183 rfl is_151 rd_10 rfl rfl rfl rfl rfl (c_Model_takeSign_f0 (d := (d + 2))  (((my_up_role fh318 is_151 is_167 rfl).trans ((my_fr.at frh311 is_151 rfl).trans ev308.symm)).trans (by omega)) Tok_h318 (fun h321 frh321 w322 w323 xp324 Tok_h321t325 => ?_) (fun h326 frh326 w327 w328 w329 xp330 Tok_h326t331 => ?_))
          ·
            have gh321 : my_fr [(10, 7), (10, 8), (10, 27), (66, -1), (67, -1), (68, -1), (69, -1), (70, -1), (71, -1), (72, -1), (73, -1), (74, -1), (75, -1), (77, -1), (78, -1), (79, -1)] h h321 := my_fr.tr gh318 (frh321.mo rfl)
            have Wrd_h321 : Wrd h321 := Wrd_ag (my_ag.fr frh321 rfl) Wrd_h318
            have Mq_h321 : Mq h321 wv := Mq_ag (my_ag.fr frh321 rfl) Mq_h318t319
            show wp l rho (d + 4) 185 275 [(2, 151), (0, p88_0), (0, p88_1), (0, p88_2), (0, p88_3), (0, (36 + v9)), (9, 0), (9, 0)] [] h321 Q
            have c332 := (rfl : h321 151 8 = h321 151 8)
            exact w_vret gz_185_275 gm_185 (k0 h321 (gh321) (by omega) (by omega) Tok_h321t325 Mq_h321 Wrd_h321)
          ·
            have gh326 : my_fr [(10, 7), (10, 8), (10, 27), (66, -1), (67, -1), (68, -1), (69, -1), (70, -1), (71, -1), (72, -1), (73, -1), (74, -1), (75, -1), (77, -1), (78, -1), (79, -1)] h h326 := my_fr.tr gh318 (frh326.mo rfl)
            have Wrd_h326 : Wrd h326 := Wrd_ag (my_ag.fr frh326 rfl) Wrd_h318
            have Mq_h326 : Mq h326 wv := Mq_ag (my_ag.fr frh326 rfl) Mq_h318t319
            show wp l rho (d + 4) 185 275 [(2, 151), (0, p88_0), (0, p88_1), (0, p88_2), (0, p88_3), (0, (36 + v9)), (9, 0), (9, 0)] [] h326 Q
            have ce333 : h326 151 7 = (h326 151 7) := (rfl : h326 151 7 = h326 151 7)
            have c334 := (rfl : h326 151 7 = h326 151 7)
            have c335 := w329
            exact w_vret gz_185_275 gm_185 (k1 h326 (gh326) (by omega) (by omega) (by omega) (by first | assumption | omega | (subst_vars; omega)) Tok_h326t331 Mq_h326 Wrd_h326)
    ·
      have ce336 : h88_0 151 7 = k151_7 := c151_7_88_0
      have c337 := ev1.symm
      exact w_vret gz_185_95 gm_185 (k0 h88_0 (gh_88_0) (by omega) (by omega) n_Tok_88_0 n_Mq_88_0 n_Wrd_88_0)
  refine w_aload_n gz_185_0 rfl ?_
  refine w_iconst gz_185_1 (by decide) ?_
  refine w_inv (k := 0) (as := [(0, 3)]) (r := []) (x := 151) (ls0 := [(2, 151), (0, 3)]) gz_185_2 gm_177 rfl is_151 rd_10 rfl rfl rfl rfl rfl (c_Model_isWord_f0 (d := (d + 3)) (x1 := 3) (by omega) (by omega) (cf.trans (by omega)) (fun w338 => ?_) (fun w339 xp340 xp341 => ?_))
  ·
    show wp l rho (d + 4) 185 5 [(2, 151), (9, 0), (9, 0), (9, 0), (9, 0), (9, 0), (9, 0), (9, 0)] [(0, 0)] h Q
    refine w_istore_n (ls' := [(2, 151), (0, 0), (9, 0), (9, 0), (9, 0), (9, 0), (9, 0), (9, 0)]) gz_185_5 gm_185 rfl rfl rfl ?_
    refine w_aload_n gz_185_6 rfl ?_
    refine w_bipush gz_185_7 (by decide) ?_
    refine w_inv (k := 0) (as := [(0, 7)]) (r := []) (x := 151) (ls0 := [(2, 151), (0, 7)]) gz_185_9 gm_177 rfl is_151 rd_10 rfl rfl rfl rfl rfl (c_Model_isWord_f0 (d := (d + 3)) (x1 := 7) (by omega) (by omega) (cf.trans (by omega)) (fun w342 => ?_) (fun w343 xp344 xp345 => ?_))
    ·
      show wp l rho (d + 4) 185 12 [(2, 151), (0, 0), (9, 0), (9, 0), (9, 0), (9, 0), (9, 0), (9, 0)] [(0, 0)] h Q
      refine w_istore_n (ls' := [(2, 151), (0, 0), (0, 0), (9, 0), (9, 0), (9, 0), (9, 0), (9, 0)]) gz_185_12 gm_185 rfl rfl rfl ?_
      refine w_aload_n gz_185_13 rfl ?_
      refine w_bipush gz_185_14 (by decide) ?_
      refine w_inv (k := 0) (as := [(0, 8)]) (r := []) (x := 151) (ls0 := [(2, 151), (0, 8)]) gz_185_16 gm_177 rfl is_151 rd_10 rfl rfl rfl rfl rfl (c_Model_isWord_f0 (d := (d + 3)) (x1 := 8) (by omega) (by omega) (cf.trans (by omega)) (fun w346 => ?_) (fun w347 xp348 xp349 => ?_))
      ·
        show wp l rho (d + 4) 185 19 [(2, 151), (0, 0), (0, 0), (9, 0), (9, 0), (9, 0), (9, 0), (9, 0)] [(0, 0)] h Q
        refine w_istore_n (ls' := [(2, 151), (0, 0), (0, 0), (0, 0), (9, 0), (9, 0), (9, 0), (9, 0)]) gz_185_19 gm_185 rfl rfl rfl ?_
        refine w_aload_n gz_185_20 rfl ?_
        refine w_bipush gz_185_21 (by decide) ?_
        refine w_inv (k := 0) (as := [(0, 11)]) (r := []) (x := 151) (ls0 := [(2, 151), (0, 11)]) gz_185_23 gm_177 rfl is_151 rd_10 rfl rfl rfl rfl rfl (c_Model_isWord_f0 (d := (d + 3)) (x1 := 11) (by omega) (by omega) (cf.trans (by omega)) (fun w350 => ?_) (fun w351 xp352 xp353 => ?_))
        ·
          show wp l rho (d + 4) 185 26 [(2, 151), (0, 0), (0, 0), (0, 0), (9, 0), (9, 0), (9, 0), (9, 0)] [(0, 0)] h Q
          refine w_istore (ls' := [(2, 151), (0, 0), (0, 0), (0, 0), (0, 0), (9, 0), (9, 0), (9, 0)]) gz_185_26 gm_185 rfl rfl rfl ?_
          refine w_iload_n gz_185_28 rfl ?_
          refine w_ifne (t := 62) gz_185_29 rfl (fun u354 => by exfalso; omega) (fun u354 => ?_)
          refine w_iload_n gz_185_32 rfl ?_
          refine w_ifne (t := 62) gz_185_33 rfl (fun u355 => by exfalso; omega) (fun u355 => ?_)
          refine w_iload_n gz_185_36 rfl ?_
          refine w_ifne (t := 62) gz_185_37 rfl (fun u356 => by exfalso; omega) (fun u356 => ?_)
          refine w_iload gz_185_40 rfl ?_
          refine w_ifne (t := 62) gz_185_42 rfl (fun u357 => by exfalso; omega) (fun u357 => ?_)
          refine w_aload_n gz_185_45 rfl ?_
          refine w_bipush gz_185_46 (by decide) ?_
          refine w_inv (k := 0) (as := [(0, 10)]) (r := []) (x := 151) (ls0 := [(2, 151), (0, 10)]) gz_185_48 gm_177 rfl is_151 rd_10 rfl rfl rfl rfl rfl (c_Model_isWord_f0 (d := (d + 3)) (x1 := 10) (by omega) (by omega) (cf.trans (by omega)) (fun w358 => ?_) (fun w359 xp360 xp361 => ?_))
          ·
            show wp l rho (d + 4) 185 51 [(2, 151), (0, 0), (0, 0), (0, 0), (0, 0), (9, 0), (9, 0), (9, 0)] [(0, 0)] h Q
            refine w_ifne (t := 62) gz_185_51 rfl (fun u362 => by exfalso; omega) (fun u362 => ?_)
            refine w_aload_n gz_185_54 rfl ?_
            refine w_iconst gz_185_55 (by decide) ?_
            refine w_inv (k := 0) (as := [(0, 1)]) (r := []) (x := 151) (ls0 := [(2, 151), (0, 1)]) gz_185_56 gm_178 rfl is_151 rd_10 rfl rfl rfl rfl rfl ?_
            refine w_aload_n gz_178_0 rfl ?_
            refine v_getI (j := 8) gz_178_1 rfl is_151 rd_10 rfl (fun v363 ev363 pv363 qv363 => ?_)
            have zv363 := ev363.trans cf
            refine w_ifne (t := 25) gz_178_4 rfl (fun u364 => by exfalso; omega) (fun u364 => ?_)
            refine w_aload_n gz_178_7 rfl ?_
            refine w_iload_n gz_178_8 rfl ?_
            refine w_bipush gz_178_9 (by decide) ?_
            refine w_aload_n gz_178_11 rfl ?_
            refine w_getX (v := 154) gz_178_12 is_151 rd_10 rfl (by decide) rfl ?_
            refine w_aload_n gz_178_15 rfl ?_
            refine v_getI (j := 7) gz_178_16 rfl is_151 rd_10 rfl (fun v366 ev366 pv366 qv366 => ?_)
            have zv366 := ev366.trans ek151_7.symm
            refine w_iald gz_178_19 is_154 rd_53 (by omega) (by omega) (fun v367 ev367 pv367 qv367 => ?_)
            refine w_imul gz_178_20 ⟨by omega, by omega⟩ ?_
            refine w_iadd gz_178_21 ⟨by omega, by omega⟩ ?_
            refine v_putI (j := 8) gz_178_22 rfl is_151 rd_10 rfl (by omega) (by omega) rfl (fun h368 fh368 => ?_)
            have gh368 : my_fr [(10, 7), (10, 8), (10, 27), (66, -1), (67, -1), (68, -1), (69, -1), (70, -1), (71, -1), (72, -1), (73, -1), (74, -1), (75, -1), (77, -1), (78, -1), (79, -1)] h h368 := my_fr.up my_fr.rf is_151 fh368 rfl
            have Tok_h368 : Tok h368 := Tok_ag (my_ag.up fh368 is_151 rfl) n_Tok
            have Mq_h368 : Mq h368 wv := Mq_ag (my_ag.up fh368 is_151 rfl) n_Mq
            have Wrd_h368 : Wrd h368 := Wrd_ag (my_ag.up fh368 is_151 rfl) n_Wrd
            refine w_vret gz_178_25 gm_178 ?_
            show wp l rho (d + 4) 185 59 [(2, 151), (0, 0), (0, 0), (0, 0), (0, 0), (9, 0), (9, 0), (9, 0)] [] h368 Q
            refine w_goto (t := 88) gz_185_59 rfl ?_
            have ce369 : h368 151 7 = v366 := ((my_up_fld fh368 (by decide)).trans ev366.symm)
            have ce370 : h368 151 8 = (1 + (16 * v367)) := (my_up_self fh368)
            exact J88_0 (0) (0) (0) (0) ((1 + (16 * v367))) h368 (gh368) (by omega) (by omega) (by omega) (by omega) (by omega) (by omega) (by omega) (by omega) (by omega) (by omega) (((my_up_fld fh368 (by decide)).trans ev366.symm).trans (by omega)) ((my_up_self fh368).trans (by omega)) Tok_h368 Mq_h368 Wrd_h368 (by first | (intro q; exfalso; omega) | (intro _; assumption)) (by first | (intro q; exfalso; omega) | (intro _ q; omega) | (intro _ q; exfalso; have w := Wrd_h368; unfold Wrd at w; omega)) (by omega)
          ·
            show wp l rho (d + 4) 185 51 [(2, 151), (0, 0), (0, 0), (0, 0), (0, 0), (9, 0), (9, 0), (9, 0)] [(0, 1)] h Q
            refine w_ifne (t := 62) gz_185_51 rfl (fun u371 => ?_) (fun u371 => by exfalso; omega)
            refine w_aload_n gz_185_62 rfl ?_
            refine w_bipush gz_185_63 (by decide) ?_
            refine w_inv (k := 0) (as := [(0, 10)]) (r := []) (x := 151) (ls0 := [(2, 151), (0, 10)]) gz_185_65 gm_177 rfl is_151 rd_10 rfl rfl rfl rfl rfl (c_Model_isWord_f0 (d := (d + 3)) (x1 := 10) (by omega) (by omega) (cf.trans (by omega)) (fun w372 => ?_) (fun w373 xp374 xp375 => ?_))
            ·
              show wp l rho (d + 4) 185 68 [(2, 151), (0, 0), (0, 0), (0, 0), (0, 0), (9, 0), (9, 0), (9, 0)] [(0, 0)] h Q
              refine w_ifne (t := 88) gz_185_68 rfl (fun u376 => by exfalso; omega) (fun u376 => ?_)
              refine w_aload_n gz_185_71 rfl ?_
              refine w_getX (v := 167) gz_185_72 is_151 rd_10 rfl (by decide) rfl ?_
              refine w_bipush gz_185_75 (by decide) ?_
              refine w_iald gz_185_77 is_167 rd_66 (by omega) (by omega) (fun v378 ev378 pv378 qv378 => ?_)
              refine w_bipush gz_185_78 (by decide) ?_
              refine w_icne (t := 88) gz_185_80 rfl (fun u379 => ?_) (fun u379 => ?_)
              ·
                have ce380 : h 151 7 = k151_7 := ek151_7.symm
                have ce381 : h 151 8 = 0 := cf
                exact J88_0 (0) (0) (0) (0) (0) h (my_fr.rf) (by omega) (by omega) (by omega) (by omega) (by omega) (by omega) (by omega) (by omega) (by omega) (by omega) (ek151_7.symm.trans (by omega)) (cf.trans (by omega)) n_Tok n_Mq n_Wrd (by first | (intro q; exfalso; omega) | (intro _; assumption)) (by first | (intro q; exfalso; omega) | (intro _ q; omega) | (intro _ q; exfalso; have w := n_Wrd; unfold Wrd at w; omega)) (by omega)
              ·
                refine w_aload_n gz_185_83 rfl ?_
                refine w_iconst gz_185_84 (by decide) ?_
                refine w_inv (k := 0) (as := [(0, 5)]) (r := []) (x := 151) (ls0 := [(2, 151), (0, 5)]) gz_185_85 gm_178 rfl is_151 rd_10 rfl rfl rfl rfl rfl ?_
                refine w_aload_n gz_178_0 rfl ?_
                refine v_getI (j := 8) gz_178_1 rfl is_151 rd_10 rfl (fun v382 ev382 pv382 qv382 => ?_)
                have zv382 := ev382.trans cf
                refine w_ifne (t := 25) gz_178_4 rfl (fun u383 => by exfalso; omega) (fun u383 => ?_)
                refine w_aload_n gz_178_7 rfl ?_
                refine w_iload_n gz_178_8 rfl ?_
                refine w_bipush gz_178_9 (by decide) ?_
                refine w_aload_n gz_178_11 rfl ?_
                refine w_getX (v := 154) gz_178_12 is_151 rd_10 rfl (by decide) rfl ?_
                refine w_aload_n gz_178_15 rfl ?_
                refine v_getI (j := 7) gz_178_16 rfl is_151 rd_10 rfl (fun v385 ev385 pv385 qv385 => ?_)
                have zv385 := ev385.trans ek151_7.symm
                refine w_iald gz_178_19 is_154 rd_53 (by omega) (by omega) (fun v386 ev386 pv386 qv386 => ?_)
                refine w_imul gz_178_20 ⟨by omega, by omega⟩ ?_
                refine w_iadd gz_178_21 ⟨by omega, by omega⟩ ?_
                refine v_putI (j := 8) gz_178_22 rfl is_151 rd_10 rfl (by omega) (by omega) rfl (fun h387 fh387 => ?_)
                have gh387 : my_fr [(10, 7), (10, 8), (10, 27), (66, -1), (67, -1), (68, -1), (69, -1), (70, -1), (71, -1), (72, -1), (73, -1), (74, -1), (75, -1), (77, -1), (78, -1), (79, -1)] h h387 := my_fr.up my_fr.rf is_151 fh387 rfl
                have Tok_h387 : Tok h387 := Tok_ag (my_ag.up fh387 is_151 rfl) n_Tok
                have Mq_h387 : Mq h387 wv := Mq_ag (my_ag.up fh387 is_151 rfl) n_Mq
                have Wrd_h387 : Wrd h387 := Wrd_ag (my_ag.up fh387 is_151 rfl) n_Wrd
                refine w_vret gz_178_25 gm_178 ?_
                show wp l rho (d + 4) 185 88 [(2, 151), (0, 0), (0, 0), (0, 0), (0, 0), (9, 0), (9, 0), (9, 0)] [] h387 Q
                have ce388 : h387 151 7 = v385 := ((my_up_fld fh387 (by decide)).trans ev385.symm)
                have ce389 : h387 151 8 = (5 + (16 * v386)) := (my_up_self fh387)
                exact J88_0 (0) (0) (0) (0) ((5 + (16 * v386))) h387 (gh387) (by omega) (by omega) (by omega) (by omega) (by omega) (by omega) (by omega) (by omega) (by omega) (by omega) (((my_up_fld fh387 (by decide)).trans ev385.symm).trans (by omega)) ((my_up_self fh387).trans (by omega)) Tok_h387 Mq_h387 Wrd_h387 (by first | (intro q; exfalso; omega) | (intro _; assumption)) (by first | (intro q; exfalso; omega) | (intro _ q; omega) | (intro _ q; exfalso; have w := Wrd_h387; unfold Wrd at w; omega)) (by omega)
            ·
              show wp l rho (d + 4) 185 68 [(2, 151), (0, 0), (0, 0), (0, 0), (0, 0), (9, 0), (9, 0), (9, 0)] [(0, 1)] h Q
              refine w_ifne (t := 88) gz_185_68 rfl (fun u390 => ?_) (fun u390 => by exfalso; omega)
              have ce391 : h 151 7 = k151_7 := ek151_7.symm
              have ce392 : h 151 8 = 0 := cf
              exact J88_0 (0) (0) (0) (0) (0) h (my_fr.rf) (by omega) (by omega) (by omega) (by omega) (by omega) (by omega) (by omega) (by omega) (by omega) (by omega) (ek151_7.symm.trans (by omega)) (cf.trans (by omega)) n_Tok n_Mq n_Wrd (by first | (intro q; exfalso; omega) | (intro _; assumption)) (by first | (intro q; exfalso; omega) | (intro _ q; omega) | (intro _ q; exfalso; have w := n_Wrd; unfold Wrd at w; omega)) (by omega)
        ·
          show wp l rho (d + 4) 185 26 [(2, 151), (0, 0), (0, 0), (0, 0), (9, 0), (9, 0), (9, 0), (9, 0)] [(0, 1)] h Q
          refine w_istore (ls' := [(2, 151), (0, 0), (0, 0), (0, 0), (0, 1), (9, 0), (9, 0), (9, 0)]) gz_185_26 gm_185 rfl rfl rfl ?_
          refine w_iload_n gz_185_28 rfl ?_
          refine w_ifne (t := 62) gz_185_29 rfl (fun u393 => by exfalso; omega) (fun u393 => ?_)
          refine w_iload_n gz_185_32 rfl ?_
          refine w_ifne (t := 62) gz_185_33 rfl (fun u394 => by exfalso; omega) (fun u394 => ?_)
          refine w_iload_n gz_185_36 rfl ?_
          refine w_ifne (t := 62) gz_185_37 rfl (fun u395 => by exfalso; omega) (fun u395 => ?_)
          refine w_iload gz_185_40 rfl ?_
          refine w_ifne (t := 62) gz_185_42 rfl (fun u396 => ?_) (fun u396 => by exfalso; omega)
          refine w_aload_n gz_185_62 rfl ?_
          refine w_bipush gz_185_63 (by decide) ?_
          refine w_inv (k := 0) (as := [(0, 10)]) (r := []) (x := 151) (ls0 := [(2, 151), (0, 10)]) gz_185_65 gm_177 rfl is_151 rd_10 rfl rfl rfl rfl rfl (c_Model_isWord_f0 (d := (d + 3)) (x1 := 10) (by omega) (by omega) (cf.trans (by omega)) (fun w397 => ?_) (fun w398 xp399 xp400 => ?_))
          ·
            show wp l rho (d + 4) 185 68 [(2, 151), (0, 0), (0, 0), (0, 0), (0, 1), (9, 0), (9, 0), (9, 0)] [(0, 0)] h Q
            refine w_ifne (t := 88) gz_185_68 rfl (fun u401 => by exfalso; omega) (fun u401 => ?_)
            refine w_aload_n gz_185_71 rfl ?_
            refine w_getX (v := 167) gz_185_72 is_151 rd_10 rfl (by decide) rfl ?_
            refine w_bipush gz_185_75 (by decide) ?_
            refine w_iald gz_185_77 is_167 rd_66 (by omega) (by omega) (fun v403 ev403 pv403 qv403 => ?_)
            refine w_bipush gz_185_78 (by decide) ?_
            refine w_icne (t := 88) gz_185_80 rfl (fun u404 => ?_) (fun u404 => ?_)
            ·
              have ce405 : h 151 7 = k151_7 := ek151_7.symm
              have ce406 : h 151 8 = 0 := cf
              exact J88_0 (0) (0) (0) (1) (0) h (my_fr.rf) (by omega) (by omega) (by omega) (by omega) (by omega) (by omega) (by omega) (by omega) (by omega) (by omega) (ek151_7.symm.trans (by omega)) (cf.trans (by omega)) n_Tok n_Mq n_Wrd (by first | (intro q; exfalso; omega) | (intro _; assumption)) (by first | (intro q; exfalso; omega) | (intro _ q; omega) | (intro _ q; exfalso; have w := n_Wrd; unfold Wrd at w; omega)) (by omega)
            ·
              refine w_aload_n gz_185_83 rfl ?_
              refine w_iconst gz_185_84 (by decide) ?_
              refine w_inv (k := 0) (as := [(0, 5)]) (r := []) (x := 151) (ls0 := [(2, 151), (0, 5)]) gz_185_85 gm_178 rfl is_151 rd_10 rfl rfl rfl rfl rfl ?_
              refine w_aload_n gz_178_0 rfl ?_
              refine v_getI (j := 8) gz_178_1 rfl is_151 rd_10 rfl (fun v407 ev407 pv407 qv407 => ?_)
              have zv407 := ev407.trans cf
              refine w_ifne (t := 25) gz_178_4 rfl (fun u408 => by exfalso; omega) (fun u408 => ?_)
              refine w_aload_n gz_178_7 rfl ?_
              refine w_iload_n gz_178_8 rfl ?_
              refine w_bipush gz_178_9 (by decide) ?_
              refine w_aload_n gz_178_11 rfl ?_
              refine w_getX (v := 154) gz_178_12 is_151 rd_10 rfl (by decide) rfl ?_
              refine w_aload_n gz_178_15 rfl ?_
              refine v_getI (j := 7) gz_178_16 rfl is_151 rd_10 rfl (fun v410 ev410 pv410 qv410 => ?_)
              have zv410 := ev410.trans ek151_7.symm
              refine w_iald gz_178_19 is_154 rd_53 (by omega) (by omega) (fun v411 ev411 pv411 qv411 => ?_)
              refine w_imul gz_178_20 ⟨by omega, by omega⟩ ?_
              refine w_iadd gz_178_21 ⟨by omega, by omega⟩ ?_
              refine v_putI (j := 8) gz_178_22 rfl is_151 rd_10 rfl (by omega) (by omega) rfl (fun h412 fh412 => ?_)
              have gh412 : my_fr [(10, 7), (10, 8), (10, 27), (66, -1), (67, -1), (68, -1), (69, -1), (70, -1), (71, -1), (72, -1), (73, -1), (74, -1), (75, -1), (77, -1), (78, -1), (79, -1)] h h412 := my_fr.up my_fr.rf is_151 fh412 rfl
              have Tok_h412 : Tok h412 := Tok_ag (my_ag.up fh412 is_151 rfl) n_Tok
              have Mq_h412 : Mq h412 wv := Mq_ag (my_ag.up fh412 is_151 rfl) n_Mq
              have Wrd_h412 : Wrd h412 := Wrd_ag (my_ag.up fh412 is_151 rfl) n_Wrd
              refine w_vret gz_178_25 gm_178 ?_
              show wp l rho (d + 4) 185 88 [(2, 151), (0, 0), (0, 0), (0, 0), (0, 1), (9, 0), (9, 0), (9, 0)] [] h412 Q
              have ce413 : h412 151 7 = v410 := ((my_up_fld fh412 (by decide)).trans ev410.symm)
              have ce414 : h412 151 8 = (5 + (16 * v411)) := (my_up_self fh412)
              exact J88_0 (0) (0) (0) (1) ((5 + (16 * v411))) h412 (gh412) (by omega) (by omega) (by omega) (by omega) (by omega) (by omega) (by omega) (by omega) (by omega) (by omega) (((my_up_fld fh412 (by decide)).trans ev410.symm).trans (by omega)) ((my_up_self fh412).trans (by omega)) Tok_h412 Mq_h412 Wrd_h412 (by first | (intro q; exfalso; omega) | (intro _; assumption)) (by first | (intro q; exfalso; omega) | (intro _ q; omega) | (intro _ q; exfalso; have w := Wrd_h412; unfold Wrd at w; omega)) (by omega)
          ·
            show wp l rho (d + 4) 185 68 [(2, 151), (0, 0), (0, 0), (0, 0), (0, 1), (9, 0), (9, 0), (9, 0)] [(0, 1)] h Q
            refine w_ifne (t := 88) gz_185_68 rfl (fun u415 => ?_) (fun u415 => by exfalso; omega)
            have ce416 : h 151 7 = k151_7 := ek151_7.symm
            have ce417 : h 151 8 = 0 := cf
            exact J88_0 (0) (0) (0) (1) (0) h (my_fr.rf) (by omega) (by omega) (by omega) (by omega) (by omega) (by omega) (by omega) (by omega) (by omega) (by omega) (ek151_7.symm.trans (by omega)) (cf.trans (by omega)) n_Tok n_Mq n_Wrd (by first | (intro q; exfalso; omega) | (intro _; assumption)) (by first | (intro q; exfalso; omega) | (intro _ q; omega) | (intro _ q; exfalso; have w := n_Wrd; unfold Wrd at w; omega)) (by omega)
      ·
        show wp l rho (d + 4) 185 19 [(2, 151), (0, 0), (0, 0), (9, 0), (9, 0), (9, 0), (9, 0), (9, 0)] [(0, 1)] h Q
        refine w_istore_n (ls' := [(2, 151), (0, 0), (0, 0), (0, 1), (9, 0), (9, 0), (9, 0), (9, 0)]) gz_185_19 gm_185 rfl rfl rfl ?_
        refine w_aload_n gz_185_20 rfl ?_
        refine w_bipush gz_185_21 (by decide) ?_
        refine w_inv (k := 0) (as := [(0, 11)]) (r := []) (x := 151) (ls0 := [(2, 151), (0, 11)]) gz_185_23 gm_177 rfl is_151 rd_10 rfl rfl rfl rfl rfl (c_Model_isWord_f0 (d := (d + 3)) (x1 := 11) (by omega) (by omega) (cf.trans (by omega)) (fun w418 => ?_) (fun w419 xp420 xp421 => ?_))
        ·
          show wp l rho (d + 4) 185 26 [(2, 151), (0, 0), (0, 0), (0, 1), (9, 0), (9, 0), (9, 0), (9, 0)] [(0, 0)] h Q
          refine w_istore (ls' := [(2, 151), (0, 0), (0, 0), (0, 1), (0, 0), (9, 0), (9, 0), (9, 0)]) gz_185_26 gm_185 rfl rfl rfl ?_
          refine w_iload_n gz_185_28 rfl ?_
          refine w_ifne (t := 62) gz_185_29 rfl (fun u422 => by exfalso; omega) (fun u422 => ?_)
          refine w_iload_n gz_185_32 rfl ?_
          refine w_ifne (t := 62) gz_185_33 rfl (fun u423 => by exfalso; omega) (fun u423 => ?_)
          refine w_iload_n gz_185_36 rfl ?_
          refine w_ifne (t := 62) gz_185_37 rfl (fun u424 => ?_) (fun u424 => by exfalso; omega)
          refine w_aload_n gz_185_62 rfl ?_
          refine w_bipush gz_185_63 (by decide) ?_
          refine w_inv (k := 0) (as := [(0, 10)]) (r := []) (x := 151) (ls0 := [(2, 151), (0, 10)]) gz_185_65 gm_177 rfl is_151 rd_10 rfl rfl rfl rfl rfl (c_Model_isWord_f0 (d := (d + 3)) (x1 := 10) (by omega) (by omega) (cf.trans (by omega)) (fun w425 => ?_) (fun w426 xp427 xp428 => ?_))
          ·
            show wp l rho (d + 4) 185 68 [(2, 151), (0, 0), (0, 0), (0, 1), (0, 0), (9, 0), (9, 0), (9, 0)] [(0, 0)] h Q
            refine w_ifne (t := 88) gz_185_68 rfl (fun u429 => by exfalso; omega) (fun u429 => ?_)
            refine w_aload_n gz_185_71 rfl ?_
            refine w_getX (v := 167) gz_185_72 is_151 rd_10 rfl (by decide) rfl ?_
            refine w_bipush gz_185_75 (by decide) ?_
            refine w_iald gz_185_77 is_167 rd_66 (by omega) (by omega) (fun v431 ev431 pv431 qv431 => ?_)
            refine w_bipush gz_185_78 (by decide) ?_
            refine w_icne (t := 88) gz_185_80 rfl (fun u432 => ?_) (fun u432 => ?_)
            ·
              have ce433 : h 151 7 = k151_7 := ek151_7.symm
              have ce434 : h 151 8 = 0 := cf
              exact J88_0 (0) (0) (1) (0) (0) h (my_fr.rf) (by omega) (by omega) (by omega) (by omega) (by omega) (by omega) (by omega) (by omega) (by omega) (by omega) (ek151_7.symm.trans (by omega)) (cf.trans (by omega)) n_Tok n_Mq n_Wrd (by first | (intro q; exfalso; omega) | (intro _; assumption)) (by first | (intro q; exfalso; omega) | (intro _ q; omega) | (intro _ q; exfalso; have w := n_Wrd; unfold Wrd at w; omega)) (by omega)
            ·
              refine w_aload_n gz_185_83 rfl ?_
              refine w_iconst gz_185_84 (by decide) ?_
              refine w_inv (k := 0) (as := [(0, 5)]) (r := []) (x := 151) (ls0 := [(2, 151), (0, 5)]) gz_185_85 gm_178 rfl is_151 rd_10 rfl rfl rfl rfl rfl ?_
              refine w_aload_n gz_178_0 rfl ?_
              refine v_getI (j := 8) gz_178_1 rfl is_151 rd_10 rfl (fun v435 ev435 pv435 qv435 => ?_)
              have zv435 := ev435.trans cf
              refine w_ifne (t := 25) gz_178_4 rfl (fun u436 => by exfalso; omega) (fun u436 => ?_)
              refine w_aload_n gz_178_7 rfl ?_
              refine w_iload_n gz_178_8 rfl ?_
              refine w_bipush gz_178_9 (by decide) ?_
              refine w_aload_n gz_178_11 rfl ?_
              refine w_getX (v := 154) gz_178_12 is_151 rd_10 rfl (by decide) rfl ?_
              refine w_aload_n gz_178_15 rfl ?_
              refine v_getI (j := 7) gz_178_16 rfl is_151 rd_10 rfl (fun v438 ev438 pv438 qv438 => ?_)
              have zv438 := ev438.trans ek151_7.symm
              refine w_iald gz_178_19 is_154 rd_53 (by omega) (by omega) (fun v439 ev439 pv439 qv439 => ?_)
              refine w_imul gz_178_20 ⟨by omega, by omega⟩ ?_
              refine w_iadd gz_178_21 ⟨by omega, by omega⟩ ?_
              refine v_putI (j := 8) gz_178_22 rfl is_151 rd_10 rfl (by omega) (by omega) rfl (fun h440 fh440 => ?_)
              have gh440 : my_fr [(10, 7), (10, 8), (10, 27), (66, -1), (67, -1), (68, -1), (69, -1), (70, -1), (71, -1), (72, -1), (73, -1), (74, -1), (75, -1), (77, -1), (78, -1), (79, -1)] h h440 := my_fr.up my_fr.rf is_151 fh440 rfl
              have Tok_h440 : Tok h440 := Tok_ag (my_ag.up fh440 is_151 rfl) n_Tok
              have Mq_h440 : Mq h440 wv := Mq_ag (my_ag.up fh440 is_151 rfl) n_Mq
              have Wrd_h440 : Wrd h440 := Wrd_ag (my_ag.up fh440 is_151 rfl) n_Wrd
              refine w_vret gz_178_25 gm_178 ?_
              show wp l rho (d + 4) 185 88 [(2, 151), (0, 0), (0, 0), (0, 1), (0, 0), (9, 0), (9, 0), (9, 0)] [] h440 Q
              have ce441 : h440 151 7 = v438 := ((my_up_fld fh440 (by decide)).trans ev438.symm)
              have ce442 : h440 151 8 = (5 + (16 * v439)) := (my_up_self fh440)
              exact J88_0 (0) (0) (1) (0) ((5 + (16 * v439))) h440 (gh440) (by omega) (by omega) (by omega) (by omega) (by omega) (by omega) (by omega) (by omega) (by omega) (by omega) (((my_up_fld fh440 (by decide)).trans ev438.symm).trans (by omega)) ((my_up_self fh440).trans (by omega)) Tok_h440 Mq_h440 Wrd_h440 (by first | (intro q; exfalso; omega) | (intro _; assumption)) (by first | (intro q; exfalso; omega) | (intro _ q; omega) | (intro _ q; exfalso; have w := Wrd_h440; unfold Wrd at w; omega)) (by omega)
          ·
            show wp l rho (d + 4) 185 68 [(2, 151), (0, 0), (0, 0), (0, 1), (0, 0), (9, 0), (9, 0), (9, 0)] [(0, 1)] h Q
            refine w_ifne (t := 88) gz_185_68 rfl (fun u443 => ?_) (fun u443 => by exfalso; omega)
            have ce444 : h 151 7 = k151_7 := ek151_7.symm
            have ce445 : h 151 8 = 0 := cf
            exact J88_0 (0) (0) (1) (0) (0) h (my_fr.rf) (by omega) (by omega) (by omega) (by omega) (by omega) (by omega) (by omega) (by omega) (by omega) (by omega) (ek151_7.symm.trans (by omega)) (cf.trans (by omega)) n_Tok n_Mq n_Wrd (by first | (intro q; exfalso; omega) | (intro _; assumption)) (by first | (intro q; exfalso; omega) | (intro _ q; omega) | (intro _ q; exfalso; have w := n_Wrd; unfold Wrd at w; omega)) (by omega)
        ·
          show wp l rho (d + 4) 185 26 [(2, 151), (0, 0), (0, 0), (0, 1), (9, 0), (9, 0), (9, 0), (9, 0)] [(0, 1)] h Q
          refine w_istore (ls' := [(2, 151), (0, 0), (0, 0), (0, 1), (0, 1), (9, 0), (9, 0), (9, 0)]) gz_185_26 gm_185 rfl rfl rfl ?_
          refine w_iload_n gz_185_28 rfl ?_
          refine w_ifne (t := 62) gz_185_29 rfl (fun u446 => by exfalso; omega) (fun u446 => ?_)
          refine w_iload_n gz_185_32 rfl ?_
          refine w_ifne (t := 62) gz_185_33 rfl (fun u447 => by exfalso; omega) (fun u447 => ?_)
          refine w_iload_n gz_185_36 rfl ?_
          refine w_ifne (t := 62) gz_185_37 rfl (fun u448 => ?_) (fun u448 => by exfalso; omega)
          refine w_aload_n gz_185_62 rfl ?_
          refine w_bipush gz_185_63 (by decide) ?_
          refine w_inv (k := 0) (as := [(0, 10)]) (r := []) (x := 151) (ls0 := [(2, 151), (0, 10)]) gz_185_65 gm_177 rfl is_151 rd_10 rfl rfl rfl rfl rfl (c_Model_isWord_f0 (d := (d + 3)) (x1 := 10) (by omega) (by omega) (cf.trans (by omega)) (fun w449 => ?_) (fun w450 xp451 xp452 => ?_))
          ·
            show wp l rho (d + 4) 185 68 [(2, 151), (0, 0), (0, 0), (0, 1), (0, 1), (9, 0), (9, 0), (9, 0)] [(0, 0)] h Q
            refine w_ifne (t := 88) gz_185_68 rfl (fun u453 => by exfalso; omega) (fun u453 => ?_)
            refine w_aload_n gz_185_71 rfl ?_
            refine w_getX (v := 167) gz_185_72 is_151 rd_10 rfl (by decide) rfl ?_
            refine w_bipush gz_185_75 (by decide) ?_
            refine w_iald gz_185_77 is_167 rd_66 (by omega) (by omega) (fun v455 ev455 pv455 qv455 => ?_)
            refine w_bipush gz_185_78 (by decide) ?_
            refine w_icne (t := 88) gz_185_80 rfl (fun u456 => ?_) (fun u456 => ?_)
            ·
              have ce457 : h 151 7 = k151_7 := ek151_7.symm
              have ce458 : h 151 8 = 0 := cf
              exact J88_0 (0) (0) (1) (1) (0) h (my_fr.rf) (by omega) (by omega) (by omega) (by omega) (by omega) (by omega) (by omega) (by omega) (by omega) (by omega) (ek151_7.symm.trans (by omega)) (cf.trans (by omega)) n_Tok n_Mq n_Wrd (by first | (intro q; exfalso; omega) | (intro _; assumption)) (by first | (intro q; exfalso; omega) | (intro _ q; omega) | (intro _ q; exfalso; have w := n_Wrd; unfold Wrd at w; omega)) (by omega)
            ·
              refine w_aload_n gz_185_83 rfl ?_
              refine w_iconst gz_185_84 (by decide) ?_
              refine w_inv (k := 0) (as := [(0, 5)]) (r := []) (x := 151) (ls0 := [(2, 151), (0, 5)]) gz_185_85 gm_178 rfl is_151 rd_10 rfl rfl rfl rfl rfl ?_
              refine w_aload_n gz_178_0 rfl ?_
              refine v_getI (j := 8) gz_178_1 rfl is_151 rd_10 rfl (fun v459 ev459 pv459 qv459 => ?_)
              have zv459 := ev459.trans cf
              refine w_ifne (t := 25) gz_178_4 rfl (fun u460 => by exfalso; omega) (fun u460 => ?_)
              refine w_aload_n gz_178_7 rfl ?_
              refine w_iload_n gz_178_8 rfl ?_
              refine w_bipush gz_178_9 (by decide) ?_
              refine w_aload_n gz_178_11 rfl ?_
              refine w_getX (v := 154) gz_178_12 is_151 rd_10 rfl (by decide) rfl ?_
              refine w_aload_n gz_178_15 rfl ?_
              refine v_getI (j := 7) gz_178_16 rfl is_151 rd_10 rfl (fun v462 ev462 pv462 qv462 => ?_)
              have zv462 := ev462.trans ek151_7.symm
              refine w_iald gz_178_19 is_154 rd_53 (by omega) (by omega) (fun v463 ev463 pv463 qv463 => ?_)
              refine w_imul gz_178_20 ⟨by omega, by omega⟩ ?_
              refine w_iadd gz_178_21 ⟨by omega, by omega⟩ ?_
              refine v_putI (j := 8) gz_178_22 rfl is_151 rd_10 rfl (by omega) (by omega) rfl (fun h464 fh464 => ?_)
              have gh464 : my_fr [(10, 7), (10, 8), (10, 27), (66, -1), (67, -1), (68, -1), (69, -1), (70, -1), (71, -1), (72, -1), (73, -1), (74, -1), (75, -1), (77, -1), (78, -1), (79, -1)] h h464 := my_fr.up my_fr.rf is_151 fh464 rfl
              have Tok_h464 : Tok h464 := Tok_ag (my_ag.up fh464 is_151 rfl) n_Tok
              have Mq_h464 : Mq h464 wv := Mq_ag (my_ag.up fh464 is_151 rfl) n_Mq
              have Wrd_h464 : Wrd h464 := Wrd_ag (my_ag.up fh464 is_151 rfl) n_Wrd
              refine w_vret gz_178_25 gm_178 ?_
              show wp l rho (d + 4) 185 88 [(2, 151), (0, 0), (0, 0), (0, 1), (0, 1), (9, 0), (9, 0), (9, 0)] [] h464 Q
              have ce465 : h464 151 7 = v462 := ((my_up_fld fh464 (by decide)).trans ev462.symm)
              have ce466 : h464 151 8 = (5 + (16 * v463)) := (my_up_self fh464)
              exact J88_0 (0) (0) (1) (1) ((5 + (16 * v463))) h464 (gh464) (by omega) (by omega) (by omega) (by omega) (by omega) (by omega) (by omega) (by omega) (by omega) (by omega) (((my_up_fld fh464 (by decide)).trans ev462.symm).trans (by omega)) ((my_up_self fh464).trans (by omega)) Tok_h464 Mq_h464 Wrd_h464 (by first | (intro q; exfalso; omega) | (intro _; assumption)) (by first | (intro q; exfalso; omega) | (intro _ q; omega) | (intro _ q; exfalso; have w := Wrd_h464; unfold Wrd at w; omega)) (by omega)
          ·
            show wp l rho (d + 4) 185 68 [(2, 151), (0, 0), (0, 0), (0, 1), (0, 1), (9, 0), (9, 0), (9, 0)] [(0, 1)] h Q
            refine w_ifne (t := 88) gz_185_68 rfl (fun u467 => ?_) (fun u467 => by exfalso; omega)
            have ce468 : h 151 7 = k151_7 := ek151_7.symm
            have ce469 : h 151 8 = 0 := cf
            exact J88_0 (0) (0) (1) (1) (0) h (my_fr.rf) (by omega) (by omega) (by omega) (by omega) (by omega) (by omega) (by omega) (by omega) (by omega) (by omega) (ek151_7.symm.trans (by omega)) (cf.trans (by omega)) n_Tok n_Mq n_Wrd (by first | (intro q; exfalso; omega) | (intro _; assumption)) (by first | (intro q; exfalso; omega) | (intro _ q; omega) | (intro _ q; exfalso; have w := n_Wrd; unfold Wrd at w; omega)) (by omega)
    ·
      show wp l rho (d + 4) 185 12 [(2, 151), (0, 0), (9, 0), (9, 0), (9, 0), (9, 0), (9, 0), (9, 0)] [(0, 1)] h Q
      refine w_istore_n (ls' := [(2, 151), (0, 0), (0, 1), (9, 0), (9, 0), (9, 0), (9, 0), (9, 0)]) gz_185_12 gm_185 rfl rfl rfl ?_
      refine w_aload_n gz_185_13 rfl ?_
      refine w_bipush gz_185_14 (by decide) ?_
      refine w_inv (k := 0) (as := [(0, 8)]) (r := []) (x := 151) (ls0 := [(2, 151), (0, 8)]) gz_185_16 gm_177 rfl is_151 rd_10 rfl rfl rfl rfl rfl (c_Model_isWord_f0 (d := (d + 3)) (x1 := 8) (by omega) (by omega) (cf.trans (by omega)) (fun w470 => ?_) (fun w471 xp472 xp473 => ?_))
      ·
        show wp l rho (d + 4) 185 19 [(2, 151), (0, 0), (0, 1), (9, 0), (9, 0), (9, 0), (9, 0), (9, 0)] [(0, 0)] h Q
        refine w_istore_n (ls' := [(2, 151), (0, 0), (0, 1), (0, 0), (9, 0), (9, 0), (9, 0), (9, 0)]) gz_185_19 gm_185 rfl rfl rfl ?_
        refine w_aload_n gz_185_20 rfl ?_
        refine w_bipush gz_185_21 (by decide) ?_
        refine w_inv (k := 0) (as := [(0, 11)]) (r := []) (x := 151) (ls0 := [(2, 151), (0, 11)]) gz_185_23 gm_177 rfl is_151 rd_10 rfl rfl rfl rfl rfl (c_Model_isWord_f0 (d := (d + 3)) (x1 := 11) (by omega) (by omega) (cf.trans (by omega)) (fun w474 => ?_) (fun w475 xp476 xp477 => ?_))
        ·
          show wp l rho (d + 4) 185 26 [(2, 151), (0, 0), (0, 1), (0, 0), (9, 0), (9, 0), (9, 0), (9, 0)] [(0, 0)] h Q
          refine w_istore (ls' := [(2, 151), (0, 0), (0, 1), (0, 0), (0, 0), (9, 0), (9, 0), (9, 0)]) gz_185_26 gm_185 rfl rfl rfl ?_
          refine w_iload_n gz_185_28 rfl ?_
          refine w_ifne (t := 62) gz_185_29 rfl (fun u478 => by exfalso; omega) (fun u478 => ?_)
          refine w_iload_n gz_185_32 rfl ?_
          refine w_ifne (t := 62) gz_185_33 rfl (fun u479 => ?_) (fun u479 => by exfalso; omega)
          refine w_aload_n gz_185_62 rfl ?_
          refine w_bipush gz_185_63 (by decide) ?_
          refine w_inv (k := 0) (as := [(0, 10)]) (r := []) (x := 151) (ls0 := [(2, 151), (0, 10)]) gz_185_65 gm_177 rfl is_151 rd_10 rfl rfl rfl rfl rfl (c_Model_isWord_f0 (d := (d + 3)) (x1 := 10) (by omega) (by omega) (cf.trans (by omega)) (fun w480 => ?_) (fun w481 xp482 xp483 => ?_))
          ·
            show wp l rho (d + 4) 185 68 [(2, 151), (0, 0), (0, 1), (0, 0), (0, 0), (9, 0), (9, 0), (9, 0)] [(0, 0)] h Q
            refine w_ifne (t := 88) gz_185_68 rfl (fun u484 => by exfalso; omega) (fun u484 => ?_)
            refine w_aload_n gz_185_71 rfl ?_
            refine w_getX (v := 167) gz_185_72 is_151 rd_10 rfl (by decide) rfl ?_
            refine w_bipush gz_185_75 (by decide) ?_
            refine w_iald gz_185_77 is_167 rd_66 (by omega) (by omega) (fun v486 ev486 pv486 qv486 => ?_)
            refine w_bipush gz_185_78 (by decide) ?_
            refine w_icne (t := 88) gz_185_80 rfl (fun u487 => ?_) (fun u487 => ?_)
            ·
              have ce488 : h 151 7 = k151_7 := ek151_7.symm
              have ce489 : h 151 8 = 0 := cf
              exact J88_0 (0) (1) (0) (0) (0) h (my_fr.rf) (by omega) (by omega) (by omega) (by omega) (by omega) (by omega) (by omega) (by omega) (by omega) (by omega) (ek151_7.symm.trans (by omega)) (cf.trans (by omega)) n_Tok n_Mq n_Wrd (by first | (intro q; exfalso; omega) | (intro _; assumption)) (by first | (intro q; exfalso; omega) | (intro _ q; omega) | (intro _ q; exfalso; have w := n_Wrd; unfold Wrd at w; omega)) (by omega)
            ·
              refine w_aload_n gz_185_83 rfl ?_
              refine w_iconst gz_185_84 (by decide) ?_
              refine w_inv (k := 0) (as := [(0, 5)]) (r := []) (x := 151) (ls0 := [(2, 151), (0, 5)]) gz_185_85 gm_178 rfl is_151 rd_10 rfl rfl rfl rfl rfl ?_
              refine w_aload_n gz_178_0 rfl ?_
              refine v_getI (j := 8) gz_178_1 rfl is_151 rd_10 rfl (fun v490 ev490 pv490 qv490 => ?_)
              have zv490 := ev490.trans cf
              refine w_ifne (t := 25) gz_178_4 rfl (fun u491 => by exfalso; omega) (fun u491 => ?_)
              refine w_aload_n gz_178_7 rfl ?_
              refine w_iload_n gz_178_8 rfl ?_
              refine w_bipush gz_178_9 (by decide) ?_
              refine w_aload_n gz_178_11 rfl ?_
              refine w_getX (v := 154) gz_178_12 is_151 rd_10 rfl (by decide) rfl ?_
              refine w_aload_n gz_178_15 rfl ?_
              refine v_getI (j := 7) gz_178_16 rfl is_151 rd_10 rfl (fun v493 ev493 pv493 qv493 => ?_)
              have zv493 := ev493.trans ek151_7.symm
              refine w_iald gz_178_19 is_154 rd_53 (by omega) (by omega) (fun v494 ev494 pv494 qv494 => ?_)
              refine w_imul gz_178_20 ⟨by omega, by omega⟩ ?_
              refine w_iadd gz_178_21 ⟨by omega, by omega⟩ ?_
              refine v_putI (j := 8) gz_178_22 rfl is_151 rd_10 rfl (by omega) (by omega) rfl (fun h495 fh495 => ?_)
              have gh495 : my_fr [(10, 7), (10, 8), (10, 27), (66, -1), (67, -1), (68, -1), (69, -1), (70, -1), (71, -1), (72, -1), (73, -1), (74, -1), (75, -1), (77, -1), (78, -1), (79, -1)] h h495 := my_fr.up my_fr.rf is_151 fh495 rfl
              have Tok_h495 : Tok h495 := Tok_ag (my_ag.up fh495 is_151 rfl) n_Tok
              have Mq_h495 : Mq h495 wv := Mq_ag (my_ag.up fh495 is_151 rfl) n_Mq
              have Wrd_h495 : Wrd h495 := Wrd_ag (my_ag.up fh495 is_151 rfl) n_Wrd
              refine w_vret gz_178_25 gm_178 ?_
              show wp l rho (d + 4) 185 88 [(2, 151), (0, 0), (0, 1), (0, 0), (0, 0), (9, 0), (9, 0), (9, 0)] [] h495 Q
              have ce496 : h495 151 7 = v493 := ((my_up_fld fh495 (by decide)).trans ev493.symm)
              have ce497 : h495 151 8 = (5 + (16 * v494)) := (my_up_self fh495)
              exact J88_0 (0) (1) (0) (0) ((5 + (16 * v494))) h495 (gh495) (by omega) (by omega) (by omega) (by omega) (by omega) (by omega) (by omega) (by omega) (by omega) (by omega) (((my_up_fld fh495 (by decide)).trans ev493.symm).trans (by omega)) ((my_up_self fh495).trans (by omega)) Tok_h495 Mq_h495 Wrd_h495 (by first | (intro q; exfalso; omega) | (intro _; assumption)) (by first | (intro q; exfalso; omega) | (intro _ q; omega) | (intro _ q; exfalso; have w := Wrd_h495; unfold Wrd at w; omega)) (by omega)
          ·
            show wp l rho (d + 4) 185 68 [(2, 151), (0, 0), (0, 1), (0, 0), (0, 0), (9, 0), (9, 0), (9, 0)] [(0, 1)] h Q
            refine w_ifne (t := 88) gz_185_68 rfl (fun u498 => ?_) (fun u498 => by exfalso; omega)
            have ce499 : h 151 7 = k151_7 := ek151_7.symm
            have ce500 : h 151 8 = 0 := cf
            exact J88_0 (0) (1) (0) (0) (0) h (my_fr.rf) (by omega) (by omega) (by omega) (by omega) (by omega) (by omega) (by omega) (by omega) (by omega) (by omega) (ek151_7.symm.trans (by omega)) (cf.trans (by omega)) n_Tok n_Mq n_Wrd (by first | (intro q; exfalso; omega) | (intro _; assumption)) (by first | (intro q; exfalso; omega) | (intro _ q; omega) | (intro _ q; exfalso; have w := n_Wrd; unfold Wrd at w; omega)) (by omega)
        ·
          show wp l rho (d + 4) 185 26 [(2, 151), (0, 0), (0, 1), (0, 0), (9, 0), (9, 0), (9, 0), (9, 0)] [(0, 1)] h Q
          refine w_istore (ls' := [(2, 151), (0, 0), (0, 1), (0, 0), (0, 1), (9, 0), (9, 0), (9, 0)]) gz_185_26 gm_185 rfl rfl rfl ?_
          refine w_iload_n gz_185_28 rfl ?_
          refine w_ifne (t := 62) gz_185_29 rfl (fun u501 => by exfalso; omega) (fun u501 => ?_)
          refine w_iload_n gz_185_32 rfl ?_
          refine w_ifne (t := 62) gz_185_33 rfl (fun u502 => ?_) (fun u502 => by exfalso; omega)
          refine w_aload_n gz_185_62 rfl ?_
          refine w_bipush gz_185_63 (by decide) ?_
          refine w_inv (k := 0) (as := [(0, 10)]) (r := []) (x := 151) (ls0 := [(2, 151), (0, 10)]) gz_185_65 gm_177 rfl is_151 rd_10 rfl rfl rfl rfl rfl (c_Model_isWord_f0 (d := (d + 3)) (x1 := 10) (by omega) (by omega) (cf.trans (by omega)) (fun w503 => ?_) (fun w504 xp505 xp506 => ?_))
          ·
            show wp l rho (d + 4) 185 68 [(2, 151), (0, 0), (0, 1), (0, 0), (0, 1), (9, 0), (9, 0), (9, 0)] [(0, 0)] h Q
            refine w_ifne (t := 88) gz_185_68 rfl (fun u507 => by exfalso; omega) (fun u507 => ?_)
            refine w_aload_n gz_185_71 rfl ?_
            refine w_getX (v := 167) gz_185_72 is_151 rd_10 rfl (by decide) rfl ?_
            refine w_bipush gz_185_75 (by decide) ?_
            refine w_iald gz_185_77 is_167 rd_66 (by omega) (by omega) (fun v509 ev509 pv509 qv509 => ?_)
            refine w_bipush gz_185_78 (by decide) ?_
            refine w_icne (t := 88) gz_185_80 rfl (fun u510 => ?_) (fun u510 => ?_)
            ·
              have ce511 : h 151 7 = k151_7 := ek151_7.symm
              have ce512 : h 151 8 = 0 := cf
              exact J88_0 (0) (1) (0) (1) (0) h (my_fr.rf) (by omega) (by omega) (by omega) (by omega) (by omega) (by omega) (by omega) (by omega) (by omega) (by omega) (ek151_7.symm.trans (by omega)) (cf.trans (by omega)) n_Tok n_Mq n_Wrd (by first | (intro q; exfalso; omega) | (intro _; assumption)) (by first | (intro q; exfalso; omega) | (intro _ q; omega) | (intro _ q; exfalso; have w := n_Wrd; unfold Wrd at w; omega)) (by omega)
            ·
              refine w_aload_n gz_185_83 rfl ?_
              refine w_iconst gz_185_84 (by decide) ?_
              refine w_inv (k := 0) (as := [(0, 5)]) (r := []) (x := 151) (ls0 := [(2, 151), (0, 5)]) gz_185_85 gm_178 rfl is_151 rd_10 rfl rfl rfl rfl rfl ?_
              refine w_aload_n gz_178_0 rfl ?_
              refine v_getI (j := 8) gz_178_1 rfl is_151 rd_10 rfl (fun v513 ev513 pv513 qv513 => ?_)
              have zv513 := ev513.trans cf
              refine w_ifne (t := 25) gz_178_4 rfl (fun u514 => by exfalso; omega) (fun u514 => ?_)
              refine w_aload_n gz_178_7 rfl ?_
              refine w_iload_n gz_178_8 rfl ?_
              refine w_bipush gz_178_9 (by decide) ?_
              refine w_aload_n gz_178_11 rfl ?_
              refine w_getX (v := 154) gz_178_12 is_151 rd_10 rfl (by decide) rfl ?_
              refine w_aload_n gz_178_15 rfl ?_
              refine v_getI (j := 7) gz_178_16 rfl is_151 rd_10 rfl (fun v516 ev516 pv516 qv516 => ?_)
              have zv516 := ev516.trans ek151_7.symm
              refine w_iald gz_178_19 is_154 rd_53 (by omega) (by omega) (fun v517 ev517 pv517 qv517 => ?_)
              refine w_imul gz_178_20 ⟨by omega, by omega⟩ ?_
              refine w_iadd gz_178_21 ⟨by omega, by omega⟩ ?_
              refine v_putI (j := 8) gz_178_22 rfl is_151 rd_10 rfl (by omega) (by omega) rfl (fun h518 fh518 => ?_)
              have gh518 : my_fr [(10, 7), (10, 8), (10, 27), (66, -1), (67, -1), (68, -1), (69, -1), (70, -1), (71, -1), (72, -1), (73, -1), (74, -1), (75, -1), (77, -1), (78, -1), (79, -1)] h h518 := my_fr.up my_fr.rf is_151 fh518 rfl
              have Tok_h518 : Tok h518 := Tok_ag (my_ag.up fh518 is_151 rfl) n_Tok
              have Mq_h518 : Mq h518 wv := Mq_ag (my_ag.up fh518 is_151 rfl) n_Mq
              have Wrd_h518 : Wrd h518 := Wrd_ag (my_ag.up fh518 is_151 rfl) n_Wrd
              refine w_vret gz_178_25 gm_178 ?_
              show wp l rho (d + 4) 185 88 [(2, 151), (0, 0), (0, 1), (0, 0), (0, 1), (9, 0), (9, 0), (9, 0)] [] h518 Q
              have ce519 : h518 151 7 = v516 := ((my_up_fld fh518 (by decide)).trans ev516.symm)
              have ce520 : h518 151 8 = (5 + (16 * v517)) := (my_up_self fh518)
              exact J88_0 (0) (1) (0) (1) ((5 + (16 * v517))) h518 (gh518) (by omega) (by omega) (by omega) (by omega) (by omega) (by omega) (by omega) (by omega) (by omega) (by omega) (((my_up_fld fh518 (by decide)).trans ev516.symm).trans (by omega)) ((my_up_self fh518).trans (by omega)) Tok_h518 Mq_h518 Wrd_h518 (by first | (intro q; exfalso; omega) | (intro _; assumption)) (by first | (intro q; exfalso; omega) | (intro _ q; omega) | (intro _ q; exfalso; have w := Wrd_h518; unfold Wrd at w; omega)) (by omega)
          ·
            show wp l rho (d + 4) 185 68 [(2, 151), (0, 0), (0, 1), (0, 0), (0, 1), (9, 0), (9, 0), (9, 0)] [(0, 1)] h Q
            refine w_ifne (t := 88) gz_185_68 rfl (fun u521 => ?_) (fun u521 => by exfalso; omega)
            have ce522 : h 151 7 = k151_7 := ek151_7.symm
            have ce523 : h 151 8 = 0 := cf
            exact J88_0 (0) (1) (0) (1) (0) h (my_fr.rf) (by omega) (by omega) (by omega) (by omega) (by omega) (by omega) (by omega) (by omega) (by omega) (by omega) (ek151_7.symm.trans (by omega)) (cf.trans (by omega)) n_Tok n_Mq n_Wrd (by first | (intro q; exfalso; omega) | (intro _; assumption)) (by first | (intro q; exfalso; omega) | (intro _ q; omega) | (intro _ q; exfalso; have w := n_Wrd; unfold Wrd at w; omega)) (by omega)
      ·
        show wp l rho (d + 4) 185 19 [(2, 151), (0, 0), (0, 1), (9, 0), (9, 0), (9, 0), (9, 0), (9, 0)] [(0, 1)] h Q
        refine w_istore_n (ls' := [(2, 151), (0, 0), (0, 1), (0, 1), (9, 0), (9, 0), (9, 0), (9, 0)]) gz_185_19 gm_185 rfl rfl rfl ?_
        refine w_aload_n gz_185_20 rfl ?_
        refine w_bipush gz_185_21 (by decide) ?_
        refine w_inv (k := 0) (as := [(0, 11)]) (r := []) (x := 151) (ls0 := [(2, 151), (0, 11)]) gz_185_23 gm_177 rfl is_151 rd_10 rfl rfl rfl rfl rfl (c_Model_isWord_f0 (d := (d + 3)) (x1 := 11) (by omega) (by omega) (cf.trans (by omega)) (fun w524 => ?_) (fun w525 xp526 xp527 => ?_))
        ·
          show wp l rho (d + 4) 185 26 [(2, 151), (0, 0), (0, 1), (0, 1), (9, 0), (9, 0), (9, 0), (9, 0)] [(0, 0)] h Q
          refine w_istore (ls' := [(2, 151), (0, 0), (0, 1), (0, 1), (0, 0), (9, 0), (9, 0), (9, 0)]) gz_185_26 gm_185 rfl rfl rfl ?_
          refine w_iload_n gz_185_28 rfl ?_
          refine w_ifne (t := 62) gz_185_29 rfl (fun u528 => by exfalso; omega) (fun u528 => ?_)
          refine w_iload_n gz_185_32 rfl ?_
          refine w_ifne (t := 62) gz_185_33 rfl (fun u529 => ?_) (fun u529 => by exfalso; omega)
          refine w_aload_n gz_185_62 rfl ?_
          refine w_bipush gz_185_63 (by decide) ?_
          refine w_inv (k := 0) (as := [(0, 10)]) (r := []) (x := 151) (ls0 := [(2, 151), (0, 10)]) gz_185_65 gm_177 rfl is_151 rd_10 rfl rfl rfl rfl rfl (c_Model_isWord_f0 (d := (d + 3)) (x1 := 10) (by omega) (by omega) (cf.trans (by omega)) (fun w530 => ?_) (fun w531 xp532 xp533 => ?_))
          ·
            show wp l rho (d + 4) 185 68 [(2, 151), (0, 0), (0, 1), (0, 1), (0, 0), (9, 0), (9, 0), (9, 0)] [(0, 0)] h Q
            refine w_ifne (t := 88) gz_185_68 rfl (fun u534 => by exfalso; omega) (fun u534 => ?_)
            refine w_aload_n gz_185_71 rfl ?_
            refine w_getX (v := 167) gz_185_72 is_151 rd_10 rfl (by decide) rfl ?_
            refine w_bipush gz_185_75 (by decide) ?_
            refine w_iald gz_185_77 is_167 rd_66 (by omega) (by omega) (fun v536 ev536 pv536 qv536 => ?_)
            refine w_bipush gz_185_78 (by decide) ?_
            refine w_icne (t := 88) gz_185_80 rfl (fun u537 => ?_) (fun u537 => ?_)
            ·
              have ce538 : h 151 7 = k151_7 := ek151_7.symm
              have ce539 : h 151 8 = 0 := cf
              exact J88_0 (0) (1) (1) (0) (0) h (my_fr.rf) (by omega) (by omega) (by omega) (by omega) (by omega) (by omega) (by omega) (by omega) (by omega) (by omega) (ek151_7.symm.trans (by omega)) (cf.trans (by omega)) n_Tok n_Mq n_Wrd (by first | (intro q; exfalso; omega) | (intro _; assumption)) (by first | (intro q; exfalso; omega) | (intro _ q; omega) | (intro _ q; exfalso; have w := n_Wrd; unfold Wrd at w; omega)) (by omega)
            ·
              refine w_aload_n gz_185_83 rfl ?_
              refine w_iconst gz_185_84 (by decide) ?_
              refine w_inv (k := 0) (as := [(0, 5)]) (r := []) (x := 151) (ls0 := [(2, 151), (0, 5)]) gz_185_85 gm_178 rfl is_151 rd_10 rfl rfl rfl rfl rfl ?_
              refine w_aload_n gz_178_0 rfl ?_
              refine v_getI (j := 8) gz_178_1 rfl is_151 rd_10 rfl (fun v540 ev540 pv540 qv540 => ?_)
              have zv540 := ev540.trans cf
              refine w_ifne (t := 25) gz_178_4 rfl (fun u541 => by exfalso; omega) (fun u541 => ?_)
              refine w_aload_n gz_178_7 rfl ?_
              refine w_iload_n gz_178_8 rfl ?_
              refine w_bipush gz_178_9 (by decide) ?_
              refine w_aload_n gz_178_11 rfl ?_
              refine w_getX (v := 154) gz_178_12 is_151 rd_10 rfl (by decide) rfl ?_
              refine w_aload_n gz_178_15 rfl ?_
              refine v_getI (j := 7) gz_178_16 rfl is_151 rd_10 rfl (fun v543 ev543 pv543 qv543 => ?_)
              have zv543 := ev543.trans ek151_7.symm
              refine w_iald gz_178_19 is_154 rd_53 (by omega) (by omega) (fun v544 ev544 pv544 qv544 => ?_)
              refine w_imul gz_178_20 ⟨by omega, by omega⟩ ?_
              refine w_iadd gz_178_21 ⟨by omega, by omega⟩ ?_
              refine v_putI (j := 8) gz_178_22 rfl is_151 rd_10 rfl (by omega) (by omega) rfl (fun h545 fh545 => ?_)
              have gh545 : my_fr [(10, 7), (10, 8), (10, 27), (66, -1), (67, -1), (68, -1), (69, -1), (70, -1), (71, -1), (72, -1), (73, -1), (74, -1), (75, -1), (77, -1), (78, -1), (79, -1)] h h545 := my_fr.up my_fr.rf is_151 fh545 rfl
              have Tok_h545 : Tok h545 := Tok_ag (my_ag.up fh545 is_151 rfl) n_Tok
              have Mq_h545 : Mq h545 wv := Mq_ag (my_ag.up fh545 is_151 rfl) n_Mq
              have Wrd_h545 : Wrd h545 := Wrd_ag (my_ag.up fh545 is_151 rfl) n_Wrd
              refine w_vret gz_178_25 gm_178 ?_
              show wp l rho (d + 4) 185 88 [(2, 151), (0, 0), (0, 1), (0, 1), (0, 0), (9, 0), (9, 0), (9, 0)] [] h545 Q
              have ce546 : h545 151 7 = v543 := ((my_up_fld fh545 (by decide)).trans ev543.symm)
              have ce547 : h545 151 8 = (5 + (16 * v544)) := (my_up_self fh545)
              exact J88_0 (0) (1) (1) (0) ((5 + (16 * v544))) h545 (gh545) (by omega) (by omega) (by omega) (by omega) (by omega) (by omega) (by omega) (by omega) (by omega) (by omega) (((my_up_fld fh545 (by decide)).trans ev543.symm).trans (by omega)) ((my_up_self fh545).trans (by omega)) Tok_h545 Mq_h545 Wrd_h545 (by first | (intro q; exfalso; omega) | (intro _; assumption)) (by first | (intro q; exfalso; omega) | (intro _ q; omega) | (intro _ q; exfalso; have w := Wrd_h545; unfold Wrd at w; omega)) (by omega)
          ·
            show wp l rho (d + 4) 185 68 [(2, 151), (0, 0), (0, 1), (0, 1), (0, 0), (9, 0), (9, 0), (9, 0)] [(0, 1)] h Q
            refine w_ifne (t := 88) gz_185_68 rfl (fun u548 => ?_) (fun u548 => by exfalso; omega)
            have ce549 : h 151 7 = k151_7 := ek151_7.symm
            have ce550 : h 151 8 = 0 := cf
            exact J88_0 (0) (1) (1) (0) (0) h (my_fr.rf) (by omega) (by omega) (by omega) (by omega) (by omega) (by omega) (by omega) (by omega) (by omega) (by omega) (ek151_7.symm.trans (by omega)) (cf.trans (by omega)) n_Tok n_Mq n_Wrd (by first | (intro q; exfalso; omega) | (intro _; assumption)) (by first | (intro q; exfalso; omega) | (intro _ q; omega) | (intro _ q; exfalso; have w := n_Wrd; unfold Wrd at w; omega)) (by omega)
        ·
          show wp l rho (d + 4) 185 26 [(2, 151), (0, 0), (0, 1), (0, 1), (9, 0), (9, 0), (9, 0), (9, 0)] [(0, 1)] h Q
          refine w_istore (ls' := [(2, 151), (0, 0), (0, 1), (0, 1), (0, 1), (9, 0), (9, 0), (9, 0)]) gz_185_26 gm_185 rfl rfl rfl ?_
          refine w_iload_n gz_185_28 rfl ?_
          refine w_ifne (t := 62) gz_185_29 rfl (fun u551 => by exfalso; omega) (fun u551 => ?_)
          refine w_iload_n gz_185_32 rfl ?_
          refine w_ifne (t := 62) gz_185_33 rfl (fun u552 => ?_) (fun u552 => by exfalso; omega)
          refine w_aload_n gz_185_62 rfl ?_
          refine w_bipush gz_185_63 (by decide) ?_
          refine w_inv (k := 0) (as := [(0, 10)]) (r := []) (x := 151) (ls0 := [(2, 151), (0, 10)]) gz_185_65 gm_177 rfl is_151 rd_10 rfl rfl rfl rfl rfl (c_Model_isWord_f0 (d := (d + 3)) (x1 := 10) (by omega) (by omega) (cf.trans (by omega)) (fun w553 => ?_) (fun w554 xp555 xp556 => ?_))
          ·
            show wp l rho (d + 4) 185 68 [(2, 151), (0, 0), (0, 1), (0, 1), (0, 1), (9, 0), (9, 0), (9, 0)] [(0, 0)] h Q
            refine w_ifne (t := 88) gz_185_68 rfl (fun u557 => by exfalso; omega) (fun u557 => ?_)
            refine w_aload_n gz_185_71 rfl ?_
            refine w_getX (v := 167) gz_185_72 is_151 rd_10 rfl (by decide) rfl ?_
            refine w_bipush gz_185_75 (by decide) ?_
            refine w_iald gz_185_77 is_167 rd_66 (by omega) (by omega) (fun v559 ev559 pv559 qv559 => ?_)
            refine w_bipush gz_185_78 (by decide) ?_
            refine w_icne (t := 88) gz_185_80 rfl (fun u560 => ?_) (fun u560 => ?_)
            ·
              have ce561 : h 151 7 = k151_7 := ek151_7.symm
              have ce562 : h 151 8 = 0 := cf
              exact J88_0 (0) (1) (1) (1) (0) h (my_fr.rf) (by omega) (by omega) (by omega) (by omega) (by omega) (by omega) (by omega) (by omega) (by omega) (by omega) (ek151_7.symm.trans (by omega)) (cf.trans (by omega)) n_Tok n_Mq n_Wrd (by first | (intro q; exfalso; omega) | (intro _; assumption)) (by first | (intro q; exfalso; omega) | (intro _ q; omega) | (intro _ q; exfalso; have w := n_Wrd; unfold Wrd at w; omega)) (by omega)
            ·
              refine w_aload_n gz_185_83 rfl ?_
              refine w_iconst gz_185_84 (by decide) ?_
              refine w_inv (k := 0) (as := [(0, 5)]) (r := []) (x := 151) (ls0 := [(2, 151), (0, 5)]) gz_185_85 gm_178 rfl is_151 rd_10 rfl rfl rfl rfl rfl ?_
              refine w_aload_n gz_178_0 rfl ?_
              refine v_getI (j := 8) gz_178_1 rfl is_151 rd_10 rfl (fun v563 ev563 pv563 qv563 => ?_)
              have zv563 := ev563.trans cf
              refine w_ifne (t := 25) gz_178_4 rfl (fun u564 => by exfalso; omega) (fun u564 => ?_)
              refine w_aload_n gz_178_7 rfl ?_
              refine w_iload_n gz_178_8 rfl ?_
              refine w_bipush gz_178_9 (by decide) ?_
              refine w_aload_n gz_178_11 rfl ?_
              refine w_getX (v := 154) gz_178_12 is_151 rd_10 rfl (by decide) rfl ?_
              refine w_aload_n gz_178_15 rfl ?_
              refine v_getI (j := 7) gz_178_16 rfl is_151 rd_10 rfl (fun v566 ev566 pv566 qv566 => ?_)
              have zv566 := ev566.trans ek151_7.symm
              refine w_iald gz_178_19 is_154 rd_53 (by omega) (by omega) (fun v567 ev567 pv567 qv567 => ?_)
              refine w_imul gz_178_20 ⟨by omega, by omega⟩ ?_
              refine w_iadd gz_178_21 ⟨by omega, by omega⟩ ?_
              refine v_putI (j := 8) gz_178_22 rfl is_151 rd_10 rfl (by omega) (by omega) rfl (fun h568 fh568 => ?_)
              have gh568 : my_fr [(10, 7), (10, 8), (10, 27), (66, -1), (67, -1), (68, -1), (69, -1), (70, -1), (71, -1), (72, -1), (73, -1), (74, -1), (75, -1), (77, -1), (78, -1), (79, -1)] h h568 := my_fr.up my_fr.rf is_151 fh568 rfl
              have Tok_h568 : Tok h568 := Tok_ag (my_ag.up fh568 is_151 rfl) n_Tok
              have Mq_h568 : Mq h568 wv := Mq_ag (my_ag.up fh568 is_151 rfl) n_Mq
              have Wrd_h568 : Wrd h568 := Wrd_ag (my_ag.up fh568 is_151 rfl) n_Wrd
              refine w_vret gz_178_25 gm_178 ?_
              show wp l rho (d + 4) 185 88 [(2, 151), (0, 0), (0, 1), (0, 1), (0, 1), (9, 0), (9, 0), (9, 0)] [] h568 Q
              have ce569 : h568 151 7 = v566 := ((my_up_fld fh568 (by decide)).trans ev566.symm)
              have ce570 : h568 151 8 = (5 + (16 * v567)) := (my_up_self fh568)
              exact J88_0 (0) (1) (1) (1) ((5 + (16 * v567))) h568 (gh568) (by omega) (by omega) (by omega) (by omega) (by omega) (by omega) (by omega) (by omega) (by omega) (by omega) (((my_up_fld fh568 (by decide)).trans ev566.symm).trans (by omega)) ((my_up_self fh568).trans (by omega)) Tok_h568 Mq_h568 Wrd_h568 (by first | (intro q; exfalso; omega) | (intro _; assumption)) (by first | (intro q; exfalso; omega) | (intro _ q; omega) | (intro _ q; exfalso; have w := Wrd_h568; unfold Wrd at w; omega)) (by omega)
          ·
            show wp l rho (d + 4) 185 68 [(2, 151), (0, 0), (0, 1), (0, 1), (0, 1), (9, 0), (9, 0), (9, 0)] [(0, 1)] h Q
            refine w_ifne (t := 88) gz_185_68 rfl (fun u571 => ?_) (fun u571 => by exfalso; omega)
            have ce572 : h 151 7 = k151_7 := ek151_7.symm
            have ce573 : h 151 8 = 0 := cf
            exact J88_0 (0) (1) (1) (1) (0) h (my_fr.rf) (by omega) (by omega) (by omega) (by omega) (by omega) (by omega) (by omega) (by omega) (by omega) (by omega) (ek151_7.symm.trans (by omega)) (cf.trans (by omega)) n_Tok n_Mq n_Wrd (by first | (intro q; exfalso; omega) | (intro _; assumption)) (by first | (intro q; exfalso; omega) | (intro _ q; omega) | (intro _ q; exfalso; have w := n_Wrd; unfold Wrd at w; omega)) (by omega)
  ·
    show wp l rho (d + 4) 185 5 [(2, 151), (9, 0), (9, 0), (9, 0), (9, 0), (9, 0), (9, 0), (9, 0)] [(0, 1)] h Q
    refine w_istore_n (ls' := [(2, 151), (0, 1), (9, 0), (9, 0), (9, 0), (9, 0), (9, 0), (9, 0)]) gz_185_5 gm_185 rfl rfl rfl ?_
    refine w_aload_n gz_185_6 rfl ?_
    refine w_bipush gz_185_7 (by decide) ?_
    refine w_inv (k := 0) (as := [(0, 7)]) (r := []) (x := 151) (ls0 := [(2, 151), (0, 7)]) gz_185_9 gm_177 rfl is_151 rd_10 rfl rfl rfl rfl rfl (c_Model_isWord_f0 (d := (d + 3)) (x1 := 7) (by omega) (by omega) (cf.trans (by omega)) (fun w574 => ?_) (fun w575 xp576 xp577 => ?_))
    ·
      show wp l rho (d + 4) 185 12 [(2, 151), (0, 1), (9, 0), (9, 0), (9, 0), (9, 0), (9, 0), (9, 0)] [(0, 0)] h Q
      refine w_istore_n (ls' := [(2, 151), (0, 1), (0, 0), (9, 0), (9, 0), (9, 0), (9, 0), (9, 0)]) gz_185_12 gm_185 rfl rfl rfl ?_
      refine w_aload_n gz_185_13 rfl ?_
      refine w_bipush gz_185_14 (by decide) ?_
      refine w_inv (k := 0) (as := [(0, 8)]) (r := []) (x := 151) (ls0 := [(2, 151), (0, 8)]) gz_185_16 gm_177 rfl is_151 rd_10 rfl rfl rfl rfl rfl (c_Model_isWord_f0 (d := (d + 3)) (x1 := 8) (by omega) (by omega) (cf.trans (by omega)) (fun w578 => ?_) (fun w579 xp580 xp581 => ?_))
      ·
        show wp l rho (d + 4) 185 19 [(2, 151), (0, 1), (0, 0), (9, 0), (9, 0), (9, 0), (9, 0), (9, 0)] [(0, 0)] h Q
        refine w_istore_n (ls' := [(2, 151), (0, 1), (0, 0), (0, 0), (9, 0), (9, 0), (9, 0), (9, 0)]) gz_185_19 gm_185 rfl rfl rfl ?_
        refine w_aload_n gz_185_20 rfl ?_
        refine w_bipush gz_185_21 (by decide) ?_
        refine w_inv (k := 0) (as := [(0, 11)]) (r := []) (x := 151) (ls0 := [(2, 151), (0, 11)]) gz_185_23 gm_177 rfl is_151 rd_10 rfl rfl rfl rfl rfl (c_Model_isWord_f0 (d := (d + 3)) (x1 := 11) (by omega) (by omega) (cf.trans (by omega)) (fun w582 => ?_) (fun w583 xp584 xp585 => ?_))
        ·
          show wp l rho (d + 4) 185 26 [(2, 151), (0, 1), (0, 0), (0, 0), (9, 0), (9, 0), (9, 0), (9, 0)] [(0, 0)] h Q
          refine w_istore (ls' := [(2, 151), (0, 1), (0, 0), (0, 0), (0, 0), (9, 0), (9, 0), (9, 0)]) gz_185_26 gm_185 rfl rfl rfl ?_
          refine w_iload_n gz_185_28 rfl ?_
          refine w_ifne (t := 62) gz_185_29 rfl (fun u586 => ?_) (fun u586 => by exfalso; omega)
          refine w_aload_n gz_185_62 rfl ?_
          refine w_bipush gz_185_63 (by decide) ?_
          refine w_inv (k := 0) (as := [(0, 10)]) (r := []) (x := 151) (ls0 := [(2, 151), (0, 10)]) gz_185_65 gm_177 rfl is_151 rd_10 rfl rfl rfl rfl rfl (c_Model_isWord_f0 (d := (d + 3)) (x1 := 10) (by omega) (by omega) (cf.trans (by omega)) (fun w587 => ?_) (fun w588 xp589 xp590 => ?_))
          ·
            show wp l rho (d + 4) 185 68 [(2, 151), (0, 1), (0, 0), (0, 0), (0, 0), (9, 0), (9, 0), (9, 0)] [(0, 0)] h Q
            refine w_ifne (t := 88) gz_185_68 rfl (fun u591 => by exfalso; omega) (fun u591 => ?_)
            refine w_aload_n gz_185_71 rfl ?_
            refine w_getX (v := 167) gz_185_72 is_151 rd_10 rfl (by decide) rfl ?_
            refine w_bipush gz_185_75 (by decide) ?_
            refine w_iald gz_185_77 is_167 rd_66 (by omega) (by omega) (fun v593 ev593 pv593 qv593 => ?_)
            refine w_bipush gz_185_78 (by decide) ?_
            refine w_icne (t := 88) gz_185_80 rfl (fun u594 => ?_) (fun u594 => ?_)
            ·
              have ce595 : h 151 7 = k151_7 := ek151_7.symm
              have ce596 : h 151 8 = 0 := cf
              exact J88_0 (1) (0) (0) (0) (0) h (my_fr.rf) (by omega) (by omega) (by omega) (by omega) (by omega) (by omega) (by omega) (by omega) (by omega) (by omega) (ek151_7.symm.trans (by omega)) (cf.trans (by omega)) n_Tok n_Mq n_Wrd (by first | (intro q; exfalso; omega) | (intro _; assumption)) (by first | (intro q; exfalso; omega) | (intro _ q; omega) | (intro _ q; exfalso; have w := n_Wrd; unfold Wrd at w; omega)) (by omega)
            ·
              refine w_aload_n gz_185_83 rfl ?_
              refine w_iconst gz_185_84 (by decide) ?_
              refine w_inv (k := 0) (as := [(0, 5)]) (r := []) (x := 151) (ls0 := [(2, 151), (0, 5)]) gz_185_85 gm_178 rfl is_151 rd_10 rfl rfl rfl rfl rfl ?_
              refine w_aload_n gz_178_0 rfl ?_
              refine v_getI (j := 8) gz_178_1 rfl is_151 rd_10 rfl (fun v597 ev597 pv597 qv597 => ?_)
              have zv597 := ev597.trans cf
              refine w_ifne (t := 25) gz_178_4 rfl (fun u598 => by exfalso; omega) (fun u598 => ?_)
              refine w_aload_n gz_178_7 rfl ?_
              refine w_iload_n gz_178_8 rfl ?_
              refine w_bipush gz_178_9 (by decide) ?_
              refine w_aload_n gz_178_11 rfl ?_
              refine w_getX (v := 154) gz_178_12 is_151 rd_10 rfl (by decide) rfl ?_
              refine w_aload_n gz_178_15 rfl ?_
              refine v_getI (j := 7) gz_178_16 rfl is_151 rd_10 rfl (fun v600 ev600 pv600 qv600 => ?_)
              have zv600 := ev600.trans ek151_7.symm
              refine w_iald gz_178_19 is_154 rd_53 (by omega) (by omega) (fun v601 ev601 pv601 qv601 => ?_)
              refine w_imul gz_178_20 ⟨by omega, by omega⟩ ?_
              refine w_iadd gz_178_21 ⟨by omega, by omega⟩ ?_
              refine v_putI (j := 8) gz_178_22 rfl is_151 rd_10 rfl (by omega) (by omega) rfl (fun h602 fh602 => ?_)
              have gh602 : my_fr [(10, 7), (10, 8), (10, 27), (66, -1), (67, -1), (68, -1), (69, -1), (70, -1), (71, -1), (72, -1), (73, -1), (74, -1), (75, -1), (77, -1), (78, -1), (79, -1)] h h602 := my_fr.up my_fr.rf is_151 fh602 rfl
              have Tok_h602 : Tok h602 := Tok_ag (my_ag.up fh602 is_151 rfl) n_Tok
              have Mq_h602 : Mq h602 wv := Mq_ag (my_ag.up fh602 is_151 rfl) n_Mq
              have Wrd_h602 : Wrd h602 := Wrd_ag (my_ag.up fh602 is_151 rfl) n_Wrd
              refine w_vret gz_178_25 gm_178 ?_
              show wp l rho (d + 4) 185 88 [(2, 151), (0, 1), (0, 0), (0, 0), (0, 0), (9, 0), (9, 0), (9, 0)] [] h602 Q
              have ce603 : h602 151 7 = v600 := ((my_up_fld fh602 (by decide)).trans ev600.symm)
              have ce604 : h602 151 8 = (5 + (16 * v601)) := (my_up_self fh602)
              exact J88_0 (1) (0) (0) (0) ((5 + (16 * v601))) h602 (gh602) (by omega) (by omega) (by omega) (by omega) (by omega) (by omega) (by omega) (by omega) (by omega) (by omega) (((my_up_fld fh602 (by decide)).trans ev600.symm).trans (by omega)) ((my_up_self fh602).trans (by omega)) Tok_h602 Mq_h602 Wrd_h602 (by first | (intro q; exfalso; omega) | (intro _; assumption)) (by first | (intro q; exfalso; omega) | (intro _ q; omega) | (intro _ q; exfalso; have w := Wrd_h602; unfold Wrd at w; omega)) (by omega)
          ·
            show wp l rho (d + 4) 185 68 [(2, 151), (0, 1), (0, 0), (0, 0), (0, 0), (9, 0), (9, 0), (9, 0)] [(0, 1)] h Q
            refine w_ifne (t := 88) gz_185_68 rfl (fun u605 => ?_) (fun u605 => by exfalso; omega)
            have ce606 : h 151 7 = k151_7 := ek151_7.symm
            have ce607 : h 151 8 = 0 := cf
            exact J88_0 (1) (0) (0) (0) (0) h (my_fr.rf) (by omega) (by omega) (by omega) (by omega) (by omega) (by omega) (by omega) (by omega) (by omega) (by omega) (ek151_7.symm.trans (by omega)) (cf.trans (by omega)) n_Tok n_Mq n_Wrd (by first | (intro q; exfalso; omega) | (intro _; assumption)) (by first | (intro q; exfalso; omega) | (intro _ q; omega) | (intro _ q; exfalso; have w := n_Wrd; unfold Wrd at w; omega)) (by omega)
        ·
          show wp l rho (d + 4) 185 26 [(2, 151), (0, 1), (0, 0), (0, 0), (9, 0), (9, 0), (9, 0), (9, 0)] [(0, 1)] h Q
          refine w_istore (ls' := [(2, 151), (0, 1), (0, 0), (0, 0), (0, 1), (9, 0), (9, 0), (9, 0)]) gz_185_26 gm_185 rfl rfl rfl ?_
          refine w_iload_n gz_185_28 rfl ?_
          refine w_ifne (t := 62) gz_185_29 rfl (fun u608 => ?_) (fun u608 => by exfalso; omega)
          refine w_aload_n gz_185_62 rfl ?_
          refine w_bipush gz_185_63 (by decide) ?_
          refine w_inv (k := 0) (as := [(0, 10)]) (r := []) (x := 151) (ls0 := [(2, 151), (0, 10)]) gz_185_65 gm_177 rfl is_151 rd_10 rfl rfl rfl rfl rfl (c_Model_isWord_f0 (d := (d + 3)) (x1 := 10) (by omega) (by omega) (cf.trans (by omega)) (fun w609 => ?_) (fun w610 xp611 xp612 => ?_))
          ·
            show wp l rho (d + 4) 185 68 [(2, 151), (0, 1), (0, 0), (0, 0), (0, 1), (9, 0), (9, 0), (9, 0)] [(0, 0)] h Q
            refine w_ifne (t := 88) gz_185_68 rfl (fun u613 => by exfalso; omega) (fun u613 => ?_)
            refine w_aload_n gz_185_71 rfl ?_
            refine w_getX (v := 167) gz_185_72 is_151 rd_10 rfl (by decide) rfl ?_
            refine w_bipush gz_185_75 (by decide) ?_
            refine w_iald gz_185_77 is_167 rd_66 (by omega) (by omega) (fun v615 ev615 pv615 qv615 => ?_)
            refine w_bipush gz_185_78 (by decide) ?_
            refine w_icne (t := 88) gz_185_80 rfl (fun u616 => ?_) (fun u616 => ?_)
            ·
              have ce617 : h 151 7 = k151_7 := ek151_7.symm
              have ce618 : h 151 8 = 0 := cf
              exact J88_0 (1) (0) (0) (1) (0) h (my_fr.rf) (by omega) (by omega) (by omega) (by omega) (by omega) (by omega) (by omega) (by omega) (by omega) (by omega) (ek151_7.symm.trans (by omega)) (cf.trans (by omega)) n_Tok n_Mq n_Wrd (by first | (intro q; exfalso; omega) | (intro _; assumption)) (by first | (intro q; exfalso; omega) | (intro _ q; omega) | (intro _ q; exfalso; have w := n_Wrd; unfold Wrd at w; omega)) (by omega)
            ·
              refine w_aload_n gz_185_83 rfl ?_
              refine w_iconst gz_185_84 (by decide) ?_
              refine w_inv (k := 0) (as := [(0, 5)]) (r := []) (x := 151) (ls0 := [(2, 151), (0, 5)]) gz_185_85 gm_178 rfl is_151 rd_10 rfl rfl rfl rfl rfl ?_
              refine w_aload_n gz_178_0 rfl ?_
              refine v_getI (j := 8) gz_178_1 rfl is_151 rd_10 rfl (fun v619 ev619 pv619 qv619 => ?_)
              have zv619 := ev619.trans cf
              refine w_ifne (t := 25) gz_178_4 rfl (fun u620 => by exfalso; omega) (fun u620 => ?_)
              refine w_aload_n gz_178_7 rfl ?_
              refine w_iload_n gz_178_8 rfl ?_
              refine w_bipush gz_178_9 (by decide) ?_
              refine w_aload_n gz_178_11 rfl ?_
              refine w_getX (v := 154) gz_178_12 is_151 rd_10 rfl (by decide) rfl ?_
              refine w_aload_n gz_178_15 rfl ?_
              refine v_getI (j := 7) gz_178_16 rfl is_151 rd_10 rfl (fun v622 ev622 pv622 qv622 => ?_)
              have zv622 := ev622.trans ek151_7.symm
              refine w_iald gz_178_19 is_154 rd_53 (by omega) (by omega) (fun v623 ev623 pv623 qv623 => ?_)
              refine w_imul gz_178_20 ⟨by omega, by omega⟩ ?_
              refine w_iadd gz_178_21 ⟨by omega, by omega⟩ ?_
              refine v_putI (j := 8) gz_178_22 rfl is_151 rd_10 rfl (by omega) (by omega) rfl (fun h624 fh624 => ?_)
              have gh624 : my_fr [(10, 7), (10, 8), (10, 27), (66, -1), (67, -1), (68, -1), (69, -1), (70, -1), (71, -1), (72, -1), (73, -1), (74, -1), (75, -1), (77, -1), (78, -1), (79, -1)] h h624 := my_fr.up my_fr.rf is_151 fh624 rfl
              have Tok_h624 : Tok h624 := Tok_ag (my_ag.up fh624 is_151 rfl) n_Tok
              have Mq_h624 : Mq h624 wv := Mq_ag (my_ag.up fh624 is_151 rfl) n_Mq
              have Wrd_h624 : Wrd h624 := Wrd_ag (my_ag.up fh624 is_151 rfl) n_Wrd
              refine w_vret gz_178_25 gm_178 ?_
              show wp l rho (d + 4) 185 88 [(2, 151), (0, 1), (0, 0), (0, 0), (0, 1), (9, 0), (9, 0), (9, 0)] [] h624 Q
              have ce625 : h624 151 7 = v622 := ((my_up_fld fh624 (by decide)).trans ev622.symm)
              have ce626 : h624 151 8 = (5 + (16 * v623)) := (my_up_self fh624)
              exact J88_0 (1) (0) (0) (1) ((5 + (16 * v623))) h624 (gh624) (by omega) (by omega) (by omega) (by omega) (by omega) (by omega) (by omega) (by omega) (by omega) (by omega) (((my_up_fld fh624 (by decide)).trans ev622.symm).trans (by omega)) ((my_up_self fh624).trans (by omega)) Tok_h624 Mq_h624 Wrd_h624 (by first | (intro q; exfalso; omega) | (intro _; assumption)) (by first | (intro q; exfalso; omega) | (intro _ q; omega) | (intro _ q; exfalso; have w := Wrd_h624; unfold Wrd at w; omega)) (by omega)
          ·
            show wp l rho (d + 4) 185 68 [(2, 151), (0, 1), (0, 0), (0, 0), (0, 1), (9, 0), (9, 0), (9, 0)] [(0, 1)] h Q
            refine w_ifne (t := 88) gz_185_68 rfl (fun u627 => ?_) (fun u627 => by exfalso; omega)
            have ce628 : h 151 7 = k151_7 := ek151_7.symm
            have ce629 : h 151 8 = 0 := cf
            exact J88_0 (1) (0) (0) (1) (0) h (my_fr.rf) (by omega) (by omega) (by omega) (by omega) (by omega) (by omega) (by omega) (by omega) (by omega) (by omega) (ek151_7.symm.trans (by omega)) (cf.trans (by omega)) n_Tok n_Mq n_Wrd (by first | (intro q; exfalso; omega) | (intro _; assumption)) (by first | (intro q; exfalso; omega) | (intro _ q; omega) | (intro _ q; exfalso; have w := n_Wrd; unfold Wrd at w; omega)) (by omega)
      ·
        show wp l rho (d + 4) 185 19 [(2, 151), (0, 1), (0, 0), (9, 0), (9, 0), (9, 0), (9, 0), (9, 0)] [(0, 1)] h Q
        refine w_istore_n (ls' := [(2, 151), (0, 1), (0, 0), (0, 1), (9, 0), (9, 0), (9, 0), (9, 0)]) gz_185_19 gm_185 rfl rfl rfl ?_
        refine w_aload_n gz_185_20 rfl ?_
        refine w_bipush gz_185_21 (by decide) ?_
        refine w_inv (k := 0) (as := [(0, 11)]) (r := []) (x := 151) (ls0 := [(2, 151), (0, 11)]) gz_185_23 gm_177 rfl is_151 rd_10 rfl rfl rfl rfl rfl (c_Model_isWord_f0 (d := (d + 3)) (x1 := 11) (by omega) (by omega) (cf.trans (by omega)) (fun w630 => ?_) (fun w631 xp632 xp633 => ?_))
        ·
          show wp l rho (d + 4) 185 26 [(2, 151), (0, 1), (0, 0), (0, 1), (9, 0), (9, 0), (9, 0), (9, 0)] [(0, 0)] h Q
          refine w_istore (ls' := [(2, 151), (0, 1), (0, 0), (0, 1), (0, 0), (9, 0), (9, 0), (9, 0)]) gz_185_26 gm_185 rfl rfl rfl ?_
          refine w_iload_n gz_185_28 rfl ?_
          refine w_ifne (t := 62) gz_185_29 rfl (fun u634 => ?_) (fun u634 => by exfalso; omega)
          refine w_aload_n gz_185_62 rfl ?_
          refine w_bipush gz_185_63 (by decide) ?_
          refine w_inv (k := 0) (as := [(0, 10)]) (r := []) (x := 151) (ls0 := [(2, 151), (0, 10)]) gz_185_65 gm_177 rfl is_151 rd_10 rfl rfl rfl rfl rfl (c_Model_isWord_f0 (d := (d + 3)) (x1 := 10) (by omega) (by omega) (cf.trans (by omega)) (fun w635 => ?_) (fun w636 xp637 xp638 => ?_))
          ·
            show wp l rho (d + 4) 185 68 [(2, 151), (0, 1), (0, 0), (0, 1), (0, 0), (9, 0), (9, 0), (9, 0)] [(0, 0)] h Q
            refine w_ifne (t := 88) gz_185_68 rfl (fun u639 => by exfalso; omega) (fun u639 => ?_)
            refine w_aload_n gz_185_71 rfl ?_
            refine w_getX (v := 167) gz_185_72 is_151 rd_10 rfl (by decide) rfl ?_
            refine w_bipush gz_185_75 (by decide) ?_
            refine w_iald gz_185_77 is_167 rd_66 (by omega) (by omega) (fun v641 ev641 pv641 qv641 => ?_)
            refine w_bipush gz_185_78 (by decide) ?_
            refine w_icne (t := 88) gz_185_80 rfl (fun u642 => ?_) (fun u642 => ?_)
            ·
              have ce643 : h 151 7 = k151_7 := ek151_7.symm
              have ce644 : h 151 8 = 0 := cf
              exact J88_0 (1) (0) (1) (0) (0) h (my_fr.rf) (by omega) (by omega) (by omega) (by omega) (by omega) (by omega) (by omega) (by omega) (by omega) (by omega) (ek151_7.symm.trans (by omega)) (cf.trans (by omega)) n_Tok n_Mq n_Wrd (by first | (intro q; exfalso; omega) | (intro _; assumption)) (by first | (intro q; exfalso; omega) | (intro _ q; omega) | (intro _ q; exfalso; have w := n_Wrd; unfold Wrd at w; omega)) (by omega)
            ·
              refine w_aload_n gz_185_83 rfl ?_
              refine w_iconst gz_185_84 (by decide) ?_
              refine w_inv (k := 0) (as := [(0, 5)]) (r := []) (x := 151) (ls0 := [(2, 151), (0, 5)]) gz_185_85 gm_178 rfl is_151 rd_10 rfl rfl rfl rfl rfl ?_
              refine w_aload_n gz_178_0 rfl ?_
              refine v_getI (j := 8) gz_178_1 rfl is_151 rd_10 rfl (fun v645 ev645 pv645 qv645 => ?_)
              have zv645 := ev645.trans cf
              refine w_ifne (t := 25) gz_178_4 rfl (fun u646 => by exfalso; omega) (fun u646 => ?_)
              refine w_aload_n gz_178_7 rfl ?_
              refine w_iload_n gz_178_8 rfl ?_
              refine w_bipush gz_178_9 (by decide) ?_
              refine w_aload_n gz_178_11 rfl ?_
              refine w_getX (v := 154) gz_178_12 is_151 rd_10 rfl (by decide) rfl ?_
              refine w_aload_n gz_178_15 rfl ?_
              refine v_getI (j := 7) gz_178_16 rfl is_151 rd_10 rfl (fun v648 ev648 pv648 qv648 => ?_)
              have zv648 := ev648.trans ek151_7.symm
              refine w_iald gz_178_19 is_154 rd_53 (by omega) (by omega) (fun v649 ev649 pv649 qv649 => ?_)
              refine w_imul gz_178_20 ⟨by omega, by omega⟩ ?_
              refine w_iadd gz_178_21 ⟨by omega, by omega⟩ ?_
              refine v_putI (j := 8) gz_178_22 rfl is_151 rd_10 rfl (by omega) (by omega) rfl (fun h650 fh650 => ?_)
              have gh650 : my_fr [(10, 7), (10, 8), (10, 27), (66, -1), (67, -1), (68, -1), (69, -1), (70, -1), (71, -1), (72, -1), (73, -1), (74, -1), (75, -1), (77, -1), (78, -1), (79, -1)] h h650 := my_fr.up my_fr.rf is_151 fh650 rfl
              have Tok_h650 : Tok h650 := Tok_ag (my_ag.up fh650 is_151 rfl) n_Tok
              have Mq_h650 : Mq h650 wv := Mq_ag (my_ag.up fh650 is_151 rfl) n_Mq
              have Wrd_h650 : Wrd h650 := Wrd_ag (my_ag.up fh650 is_151 rfl) n_Wrd
              refine w_vret gz_178_25 gm_178 ?_
              show wp l rho (d + 4) 185 88 [(2, 151), (0, 1), (0, 0), (0, 1), (0, 0), (9, 0), (9, 0), (9, 0)] [] h650 Q
              have ce651 : h650 151 7 = v648 := ((my_up_fld fh650 (by decide)).trans ev648.symm)
              have ce652 : h650 151 8 = (5 + (16 * v649)) := (my_up_self fh650)
              exact J88_0 (1) (0) (1) (0) ((5 + (16 * v649))) h650 (gh650) (by omega) (by omega) (by omega) (by omega) (by omega) (by omega) (by omega) (by omega) (by omega) (by omega) (((my_up_fld fh650 (by decide)).trans ev648.symm).trans (by omega)) ((my_up_self fh650).trans (by omega)) Tok_h650 Mq_h650 Wrd_h650 (by first | (intro q; exfalso; omega) | (intro _; assumption)) (by first | (intro q; exfalso; omega) | (intro _ q; omega) | (intro _ q; exfalso; have w := Wrd_h650; unfold Wrd at w; omega)) (by omega)
          ·
            show wp l rho (d + 4) 185 68 [(2, 151), (0, 1), (0, 0), (0, 1), (0, 0), (9, 0), (9, 0), (9, 0)] [(0, 1)] h Q
            refine w_ifne (t := 88) gz_185_68 rfl (fun u653 => ?_) (fun u653 => by exfalso; omega)
            have ce654 : h 151 7 = k151_7 := ek151_7.symm
            have ce655 : h 151 8 = 0 := cf
            exact J88_0 (1) (0) (1) (0) (0) h (my_fr.rf) (by omega) (by omega) (by omega) (by omega) (by omega) (by omega) (by omega) (by omega) (by omega) (by omega) (ek151_7.symm.trans (by omega)) (cf.trans (by omega)) n_Tok n_Mq n_Wrd (by first | (intro q; exfalso; omega) | (intro _; assumption)) (by first | (intro q; exfalso; omega) | (intro _ q; omega) | (intro _ q; exfalso; have w := n_Wrd; unfold Wrd at w; omega)) (by omega)
        ·
          show wp l rho (d + 4) 185 26 [(2, 151), (0, 1), (0, 0), (0, 1), (9, 0), (9, 0), (9, 0), (9, 0)] [(0, 1)] h Q
          refine w_istore (ls' := [(2, 151), (0, 1), (0, 0), (0, 1), (0, 1), (9, 0), (9, 0), (9, 0)]) gz_185_26 gm_185 rfl rfl rfl ?_
          refine w_iload_n gz_185_28 rfl ?_
          refine w_ifne (t := 62) gz_185_29 rfl (fun u656 => ?_) (fun u656 => by exfalso; omega)
          refine w_aload_n gz_185_62 rfl ?_
          refine w_bipush gz_185_63 (by decide) ?_
          refine w_inv (k := 0) (as := [(0, 10)]) (r := []) (x := 151) (ls0 := [(2, 151), (0, 10)]) gz_185_65 gm_177 rfl is_151 rd_10 rfl rfl rfl rfl rfl (c_Model_isWord_f0 (d := (d + 3)) (x1 := 10) (by omega) (by omega) (cf.trans (by omega)) (fun w657 => ?_) (fun w658 xp659 xp660 => ?_))
          ·
            show wp l rho (d + 4) 185 68 [(2, 151), (0, 1), (0, 0), (0, 1), (0, 1), (9, 0), (9, 0), (9, 0)] [(0, 0)] h Q
            refine w_ifne (t := 88) gz_185_68 rfl (fun u661 => by exfalso; omega) (fun u661 => ?_)
            refine w_aload_n gz_185_71 rfl ?_
            refine w_getX (v := 167) gz_185_72 is_151 rd_10 rfl (by decide) rfl ?_
            refine w_bipush gz_185_75 (by decide) ?_
            refine w_iald gz_185_77 is_167 rd_66 (by omega) (by omega) (fun v663 ev663 pv663 qv663 => ?_)
            refine w_bipush gz_185_78 (by decide) ?_
            refine w_icne (t := 88) gz_185_80 rfl (fun u664 => ?_) (fun u664 => ?_)
            ·
              have ce665 : h 151 7 = k151_7 := ek151_7.symm
              have ce666 : h 151 8 = 0 := cf
              exact J88_0 (1) (0) (1) (1) (0) h (my_fr.rf) (by omega) (by omega) (by omega) (by omega) (by omega) (by omega) (by omega) (by omega) (by omega) (by omega) (ek151_7.symm.trans (by omega)) (cf.trans (by omega)) n_Tok n_Mq n_Wrd (by first | (intro q; exfalso; omega) | (intro _; assumption)) (by first | (intro q; exfalso; omega) | (intro _ q; omega) | (intro _ q; exfalso; have w := n_Wrd; unfold Wrd at w; omega)) (by omega)
            ·
              refine w_aload_n gz_185_83 rfl ?_
              refine w_iconst gz_185_84 (by decide) ?_
              refine w_inv (k := 0) (as := [(0, 5)]) (r := []) (x := 151) (ls0 := [(2, 151), (0, 5)]) gz_185_85 gm_178 rfl is_151 rd_10 rfl rfl rfl rfl rfl ?_
              refine w_aload_n gz_178_0 rfl ?_
              refine v_getI (j := 8) gz_178_1 rfl is_151 rd_10 rfl (fun v667 ev667 pv667 qv667 => ?_)
              have zv667 := ev667.trans cf
              refine w_ifne (t := 25) gz_178_4 rfl (fun u668 => by exfalso; omega) (fun u668 => ?_)
              refine w_aload_n gz_178_7 rfl ?_
              refine w_iload_n gz_178_8 rfl ?_
              refine w_bipush gz_178_9 (by decide) ?_
              refine w_aload_n gz_178_11 rfl ?_
              refine w_getX (v := 154) gz_178_12 is_151 rd_10 rfl (by decide) rfl ?_
              refine w_aload_n gz_178_15 rfl ?_
              refine v_getI (j := 7) gz_178_16 rfl is_151 rd_10 rfl (fun v670 ev670 pv670 qv670 => ?_)
              have zv670 := ev670.trans ek151_7.symm
              refine w_iald gz_178_19 is_154 rd_53 (by omega) (by omega) (fun v671 ev671 pv671 qv671 => ?_)
              refine w_imul gz_178_20 ⟨by omega, by omega⟩ ?_
              refine w_iadd gz_178_21 ⟨by omega, by omega⟩ ?_
              refine v_putI (j := 8) gz_178_22 rfl is_151 rd_10 rfl (by omega) (by omega) rfl (fun h672 fh672 => ?_)
              have gh672 : my_fr [(10, 7), (10, 8), (10, 27), (66, -1), (67, -1), (68, -1), (69, -1), (70, -1), (71, -1), (72, -1), (73, -1), (74, -1), (75, -1), (77, -1), (78, -1), (79, -1)] h h672 := my_fr.up my_fr.rf is_151 fh672 rfl
              have Tok_h672 : Tok h672 := Tok_ag (my_ag.up fh672 is_151 rfl) n_Tok
              have Mq_h672 : Mq h672 wv := Mq_ag (my_ag.up fh672 is_151 rfl) n_Mq
              have Wrd_h672 : Wrd h672 := Wrd_ag (my_ag.up fh672 is_151 rfl) n_Wrd
              refine w_vret gz_178_25 gm_178 ?_
              show wp l rho (d + 4) 185 88 [(2, 151), (0, 1), (0, 0), (0, 1), (0, 1), (9, 0), (9, 0), (9, 0)] [] h672 Q
              have ce673 : h672 151 7 = v670 := ((my_up_fld fh672 (by decide)).trans ev670.symm)
              have ce674 : h672 151 8 = (5 + (16 * v671)) := (my_up_self fh672)
              exact J88_0 (1) (0) (1) (1) ((5 + (16 * v671))) h672 (gh672) (by omega) (by omega) (by omega) (by omega) (by omega) (by omega) (by omega) (by omega) (by omega) (by omega) (((my_up_fld fh672 (by decide)).trans ev670.symm).trans (by omega)) ((my_up_self fh672).trans (by omega)) Tok_h672 Mq_h672 Wrd_h672 (by first | (intro q; exfalso; omega) | (intro _; assumption)) (by first | (intro q; exfalso; omega) | (intro _ q; omega) | (intro _ q; exfalso; have w := Wrd_h672; unfold Wrd at w; omega)) (by omega)
          ·
            show wp l rho (d + 4) 185 68 [(2, 151), (0, 1), (0, 0), (0, 1), (0, 1), (9, 0), (9, 0), (9, 0)] [(0, 1)] h Q
            refine w_ifne (t := 88) gz_185_68 rfl (fun u675 => ?_) (fun u675 => by exfalso; omega)
            have ce676 : h 151 7 = k151_7 := ek151_7.symm
            have ce677 : h 151 8 = 0 := cf
            exact J88_0 (1) (0) (1) (1) (0) h (my_fr.rf) (by omega) (by omega) (by omega) (by omega) (by omega) (by omega) (by omega) (by omega) (by omega) (by omega) (ek151_7.symm.trans (by omega)) (cf.trans (by omega)) n_Tok n_Mq n_Wrd (by first | (intro q; exfalso; omega) | (intro _; assumption)) (by first | (intro q; exfalso; omega) | (intro _ q; omega) | (intro _ q; exfalso; have w := n_Wrd; unfold Wrd at w; omega)) (by omega)
    ·
      show wp l rho (d + 4) 185 12 [(2, 151), (0, 1), (9, 0), (9, 0), (9, 0), (9, 0), (9, 0), (9, 0)] [(0, 1)] h Q
      refine w_istore_n (ls' := [(2, 151), (0, 1), (0, 1), (9, 0), (9, 0), (9, 0), (9, 0), (9, 0)]) gz_185_12 gm_185 rfl rfl rfl ?_
      refine w_aload_n gz_185_13 rfl ?_
      refine w_bipush gz_185_14 (by decide) ?_
      refine w_inv (k := 0) (as := [(0, 8)]) (r := []) (x := 151) (ls0 := [(2, 151), (0, 8)]) gz_185_16 gm_177 rfl is_151 rd_10 rfl rfl rfl rfl rfl (c_Model_isWord_f0 (d := (d + 3)) (x1 := 8) (by omega) (by omega) (cf.trans (by omega)) (fun w678 => ?_) (fun w679 xp680 xp681 => ?_))
      ·
        show wp l rho (d + 4) 185 19 [(2, 151), (0, 1), (0, 1), (9, 0), (9, 0), (9, 0), (9, 0), (9, 0)] [(0, 0)] h Q
        refine w_istore_n (ls' := [(2, 151), (0, 1), (0, 1), (0, 0), (9, 0), (9, 0), (9, 0), (9, 0)]) gz_185_19 gm_185 rfl rfl rfl ?_
        refine w_aload_n gz_185_20 rfl ?_
        refine w_bipush gz_185_21 (by decide) ?_
        refine w_inv (k := 0) (as := [(0, 11)]) (r := []) (x := 151) (ls0 := [(2, 151), (0, 11)]) gz_185_23 gm_177 rfl is_151 rd_10 rfl rfl rfl rfl rfl (c_Model_isWord_f0 (d := (d + 3)) (x1 := 11) (by omega) (by omega) (cf.trans (by omega)) (fun w682 => ?_) (fun w683 xp684 xp685 => ?_))
        ·
          show wp l rho (d + 4) 185 26 [(2, 151), (0, 1), (0, 1), (0, 0), (9, 0), (9, 0), (9, 0), (9, 0)] [(0, 0)] h Q
          refine w_istore (ls' := [(2, 151), (0, 1), (0, 1), (0, 0), (0, 0), (9, 0), (9, 0), (9, 0)]) gz_185_26 gm_185 rfl rfl rfl ?_
          refine w_iload_n gz_185_28 rfl ?_
          refine w_ifne (t := 62) gz_185_29 rfl (fun u686 => ?_) (fun u686 => by exfalso; omega)
          refine w_aload_n gz_185_62 rfl ?_
          refine w_bipush gz_185_63 (by decide) ?_
          refine w_inv (k := 0) (as := [(0, 10)]) (r := []) (x := 151) (ls0 := [(2, 151), (0, 10)]) gz_185_65 gm_177 rfl is_151 rd_10 rfl rfl rfl rfl rfl (c_Model_isWord_f0 (d := (d + 3)) (x1 := 10) (by omega) (by omega) (cf.trans (by omega)) (fun w687 => ?_) (fun w688 xp689 xp690 => ?_))
          ·
            show wp l rho (d + 4) 185 68 [(2, 151), (0, 1), (0, 1), (0, 0), (0, 0), (9, 0), (9, 0), (9, 0)] [(0, 0)] h Q
            refine w_ifne (t := 88) gz_185_68 rfl (fun u691 => by exfalso; omega) (fun u691 => ?_)
            refine w_aload_n gz_185_71 rfl ?_
            refine w_getX (v := 167) gz_185_72 is_151 rd_10 rfl (by decide) rfl ?_
            refine w_bipush gz_185_75 (by decide) ?_
            refine w_iald gz_185_77 is_167 rd_66 (by omega) (by omega) (fun v693 ev693 pv693 qv693 => ?_)
            refine w_bipush gz_185_78 (by decide) ?_
            refine w_icne (t := 88) gz_185_80 rfl (fun u694 => ?_) (fun u694 => ?_)
            ·
              have ce695 : h 151 7 = k151_7 := ek151_7.symm
              have ce696 : h 151 8 = 0 := cf
              exact J88_0 (1) (1) (0) (0) (0) h (my_fr.rf) (by omega) (by omega) (by omega) (by omega) (by omega) (by omega) (by omega) (by omega) (by omega) (by omega) (ek151_7.symm.trans (by omega)) (cf.trans (by omega)) n_Tok n_Mq n_Wrd (by first | (intro q; exfalso; omega) | (intro _; assumption)) (by first | (intro q; exfalso; omega) | (intro _ q; omega) | (intro _ q; exfalso; have w := n_Wrd; unfold Wrd at w; omega)) (by omega)
            ·
              refine w_aload_n gz_185_83 rfl ?_
              refine w_iconst gz_185_84 (by decide) ?_
              refine w_inv (k := 0) (as := [(0, 5)]) (r := []) (x := 151) (ls0 := [(2, 151), (0, 5)]) gz_185_85 gm_178 rfl is_151 rd_10 rfl rfl rfl rfl rfl ?_
              refine w_aload_n gz_178_0 rfl ?_
              refine v_getI (j := 8) gz_178_1 rfl is_151 rd_10 rfl (fun v697 ev697 pv697 qv697 => ?_)
              have zv697 := ev697.trans cf
              refine w_ifne (t := 25) gz_178_4 rfl (fun u698 => by exfalso; omega) (fun u698 => ?_)
              refine w_aload_n gz_178_7 rfl ?_
              refine w_iload_n gz_178_8 rfl ?_
              refine w_bipush gz_178_9 (by decide) ?_
              refine w_aload_n gz_178_11 rfl ?_
              refine w_getX (v := 154) gz_178_12 is_151 rd_10 rfl (by decide) rfl ?_
              refine w_aload_n gz_178_15 rfl ?_
              refine v_getI (j := 7) gz_178_16 rfl is_151 rd_10 rfl (fun v700 ev700 pv700 qv700 => ?_)
              have zv700 := ev700.trans ek151_7.symm
              refine w_iald gz_178_19 is_154 rd_53 (by omega) (by omega) (fun v701 ev701 pv701 qv701 => ?_)
              refine w_imul gz_178_20 ⟨by omega, by omega⟩ ?_
              refine w_iadd gz_178_21 ⟨by omega, by omega⟩ ?_
              refine v_putI (j := 8) gz_178_22 rfl is_151 rd_10 rfl (by omega) (by omega) rfl (fun h702 fh702 => ?_)
              have gh702 : my_fr [(10, 7), (10, 8), (10, 27), (66, -1), (67, -1), (68, -1), (69, -1), (70, -1), (71, -1), (72, -1), (73, -1), (74, -1), (75, -1), (77, -1), (78, -1), (79, -1)] h h702 := my_fr.up my_fr.rf is_151 fh702 rfl
              have Tok_h702 : Tok h702 := Tok_ag (my_ag.up fh702 is_151 rfl) n_Tok
              have Mq_h702 : Mq h702 wv := Mq_ag (my_ag.up fh702 is_151 rfl) n_Mq
              have Wrd_h702 : Wrd h702 := Wrd_ag (my_ag.up fh702 is_151 rfl) n_Wrd
              refine w_vret gz_178_25 gm_178 ?_
              show wp l rho (d + 4) 185 88 [(2, 151), (0, 1), (0, 1), (0, 0), (0, 0), (9, 0), (9, 0), (9, 0)] [] h702 Q
              have ce703 : h702 151 7 = v700 := ((my_up_fld fh702 (by decide)).trans ev700.symm)
              have ce704 : h702 151 8 = (5 + (16 * v701)) := (my_up_self fh702)
              exact J88_0 (1) (1) (0) (0) ((5 + (16 * v701))) h702 (gh702) (by omega) (by omega) (by omega) (by omega) (by omega) (by omega) (by omega) (by omega) (by omega) (by omega) (((my_up_fld fh702 (by decide)).trans ev700.symm).trans (by omega)) ((my_up_self fh702).trans (by omega)) Tok_h702 Mq_h702 Wrd_h702 (by first | (intro q; exfalso; omega) | (intro _; assumption)) (by first | (intro q; exfalso; omega) | (intro _ q; omega) | (intro _ q; exfalso; have w := Wrd_h702; unfold Wrd at w; omega)) (by omega)
          ·
            show wp l rho (d + 4) 185 68 [(2, 151), (0, 1), (0, 1), (0, 0), (0, 0), (9, 0), (9, 0), (9, 0)] [(0, 1)] h Q
            refine w_ifne (t := 88) gz_185_68 rfl (fun u705 => ?_) (fun u705 => by exfalso; omega)
            have ce706 : h 151 7 = k151_7 := ek151_7.symm
            have ce707 : h 151 8 = 0 := cf
            exact J88_0 (1) (1) (0) (0) (0) h (my_fr.rf) (by omega) (by omega) (by omega) (by omega) (by omega) (by omega) (by omega) (by omega) (by omega) (by omega) (ek151_7.symm.trans (by omega)) (cf.trans (by omega)) n_Tok n_Mq n_Wrd (by first | (intro q; exfalso; omega) | (intro _; assumption)) (by first | (intro q; exfalso; omega) | (intro _ q; omega) | (intro _ q; exfalso; have w := n_Wrd; unfold Wrd at w; omega)) (by omega)
        ·
          show wp l rho (d + 4) 185 26 [(2, 151), (0, 1), (0, 1), (0, 0), (9, 0), (9, 0), (9, 0), (9, 0)] [(0, 1)] h Q
          refine w_istore (ls' := [(2, 151), (0, 1), (0, 1), (0, 0), (0, 1), (9, 0), (9, 0), (9, 0)]) gz_185_26 gm_185 rfl rfl rfl ?_
          refine w_iload_n gz_185_28 rfl ?_
          refine w_ifne (t := 62) gz_185_29 rfl (fun u708 => ?_) (fun u708 => by exfalso; omega)
          refine w_aload_n gz_185_62 rfl ?_
          refine w_bipush gz_185_63 (by decide) ?_
          refine w_inv (k := 0) (as := [(0, 10)]) (r := []) (x := 151) (ls0 := [(2, 151), (0, 10)]) gz_185_65 gm_177 rfl is_151 rd_10 rfl rfl rfl rfl rfl (c_Model_isWord_f0 (d := (d + 3)) (x1 := 10) (by omega) (by omega) (cf.trans (by omega)) (fun w709 => ?_) (fun w710 xp711 xp712 => ?_))
          ·
            show wp l rho (d + 4) 185 68 [(2, 151), (0, 1), (0, 1), (0, 0), (0, 1), (9, 0), (9, 0), (9, 0)] [(0, 0)] h Q
            refine w_ifne (t := 88) gz_185_68 rfl (fun u713 => by exfalso; omega) (fun u713 => ?_)
            refine w_aload_n gz_185_71 rfl ?_
            refine w_getX (v := 167) gz_185_72 is_151 rd_10 rfl (by decide) rfl ?_
            refine w_bipush gz_185_75 (by decide) ?_
            refine w_iald gz_185_77 is_167 rd_66 (by omega) (by omega) (fun v715 ev715 pv715 qv715 => ?_)
            refine w_bipush gz_185_78 (by decide) ?_
            refine w_icne (t := 88) gz_185_80 rfl (fun u716 => ?_) (fun u716 => ?_)
            ·
              have ce717 : h 151 7 = k151_7 := ek151_7.symm
              have ce718 : h 151 8 = 0 := cf
              exact J88_0 (1) (1) (0) (1) (0) h (my_fr.rf) (by omega) (by omega) (by omega) (by omega) (by omega) (by omega) (by omega) (by omega) (by omega) (by omega) (ek151_7.symm.trans (by omega)) (cf.trans (by omega)) n_Tok n_Mq n_Wrd (by first | (intro q; exfalso; omega) | (intro _; assumption)) (by first | (intro q; exfalso; omega) | (intro _ q; omega) | (intro _ q; exfalso; have w := n_Wrd; unfold Wrd at w; omega)) (by omega)
            ·
              refine w_aload_n gz_185_83 rfl ?_
              refine w_iconst gz_185_84 (by decide) ?_
              refine w_inv (k := 0) (as := [(0, 5)]) (r := []) (x := 151) (ls0 := [(2, 151), (0, 5)]) gz_185_85 gm_178 rfl is_151 rd_10 rfl rfl rfl rfl rfl ?_
              refine w_aload_n gz_178_0 rfl ?_
              refine v_getI (j := 8) gz_178_1 rfl is_151 rd_10 rfl (fun v719 ev719 pv719 qv719 => ?_)
              have zv719 := ev719.trans cf
              refine w_ifne (t := 25) gz_178_4 rfl (fun u720 => by exfalso; omega) (fun u720 => ?_)
              refine w_aload_n gz_178_7 rfl ?_
              refine w_iload_n gz_178_8 rfl ?_
              refine w_bipush gz_178_9 (by decide) ?_
              refine w_aload_n gz_178_11 rfl ?_
              refine w_getX (v := 154) gz_178_12 is_151 rd_10 rfl (by decide) rfl ?_
              refine w_aload_n gz_178_15 rfl ?_
              refine v_getI (j := 7) gz_178_16 rfl is_151 rd_10 rfl (fun v722 ev722 pv722 qv722 => ?_)
              have zv722 := ev722.trans ek151_7.symm
              refine w_iald gz_178_19 is_154 rd_53 (by omega) (by omega) (fun v723 ev723 pv723 qv723 => ?_)
              refine w_imul gz_178_20 ⟨by omega, by omega⟩ ?_
              refine w_iadd gz_178_21 ⟨by omega, by omega⟩ ?_
              refine v_putI (j := 8) gz_178_22 rfl is_151 rd_10 rfl (by omega) (by omega) rfl (fun h724 fh724 => ?_)
              have gh724 : my_fr [(10, 7), (10, 8), (10, 27), (66, -1), (67, -1), (68, -1), (69, -1), (70, -1), (71, -1), (72, -1), (73, -1), (74, -1), (75, -1), (77, -1), (78, -1), (79, -1)] h h724 := my_fr.up my_fr.rf is_151 fh724 rfl
              have Tok_h724 : Tok h724 := Tok_ag (my_ag.up fh724 is_151 rfl) n_Tok
              have Mq_h724 : Mq h724 wv := Mq_ag (my_ag.up fh724 is_151 rfl) n_Mq
              have Wrd_h724 : Wrd h724 := Wrd_ag (my_ag.up fh724 is_151 rfl) n_Wrd
              refine w_vret gz_178_25 gm_178 ?_
              show wp l rho (d + 4) 185 88 [(2, 151), (0, 1), (0, 1), (0, 0), (0, 1), (9, 0), (9, 0), (9, 0)] [] h724 Q
              have ce725 : h724 151 7 = v722 := ((my_up_fld fh724 (by decide)).trans ev722.symm)
              have ce726 : h724 151 8 = (5 + (16 * v723)) := (my_up_self fh724)
              exact J88_0 (1) (1) (0) (1) ((5 + (16 * v723))) h724 (gh724) (by omega) (by omega) (by omega) (by omega) (by omega) (by omega) (by omega) (by omega) (by omega) (by omega) (((my_up_fld fh724 (by decide)).trans ev722.symm).trans (by omega)) ((my_up_self fh724).trans (by omega)) Tok_h724 Mq_h724 Wrd_h724 (by first | (intro q; exfalso; omega) | (intro _; assumption)) (by first | (intro q; exfalso; omega) | (intro _ q; omega) | (intro _ q; exfalso; have w := Wrd_h724; unfold Wrd at w; omega)) (by omega)
          ·
            show wp l rho (d + 4) 185 68 [(2, 151), (0, 1), (0, 1), (0, 0), (0, 1), (9, 0), (9, 0), (9, 0)] [(0, 1)] h Q
            refine w_ifne (t := 88) gz_185_68 rfl (fun u727 => ?_) (fun u727 => by exfalso; omega)
            have ce728 : h 151 7 = k151_7 := ek151_7.symm
            have ce729 : h 151 8 = 0 := cf
            exact J88_0 (1) (1) (0) (1) (0) h (my_fr.rf) (by omega) (by omega) (by omega) (by omega) (by omega) (by omega) (by omega) (by omega) (by omega) (by omega) (ek151_7.symm.trans (by omega)) (cf.trans (by omega)) n_Tok n_Mq n_Wrd (by first | (intro q; exfalso; omega) | (intro _; assumption)) (by first | (intro q; exfalso; omega) | (intro _ q; omega) | (intro _ q; exfalso; have w := n_Wrd; unfold Wrd at w; omega)) (by omega)
      ·
        show wp l rho (d + 4) 185 19 [(2, 151), (0, 1), (0, 1), (9, 0), (9, 0), (9, 0), (9, 0), (9, 0)] [(0, 1)] h Q
        refine w_istore_n (ls' := [(2, 151), (0, 1), (0, 1), (0, 1), (9, 0), (9, 0), (9, 0), (9, 0)]) gz_185_19 gm_185 rfl rfl rfl ?_
        refine w_aload_n gz_185_20 rfl ?_
        refine w_bipush gz_185_21 (by decide) ?_
        refine w_inv (k := 0) (as := [(0, 11)]) (r := []) (x := 151) (ls0 := [(2, 151), (0, 11)]) gz_185_23 gm_177 rfl is_151 rd_10 rfl rfl rfl rfl rfl (c_Model_isWord_f0 (d := (d + 3)) (x1 := 11) (by omega) (by omega) (cf.trans (by omega)) (fun w730 => ?_) (fun w731 xp732 xp733 => ?_))
        ·
          show wp l rho (d + 4) 185 26 [(2, 151), (0, 1), (0, 1), (0, 1), (9, 0), (9, 0), (9, 0), (9, 0)] [(0, 0)] h Q
          refine w_istore (ls' := [(2, 151), (0, 1), (0, 1), (0, 1), (0, 0), (9, 0), (9, 0), (9, 0)]) gz_185_26 gm_185 rfl rfl rfl ?_
          refine w_iload_n gz_185_28 rfl ?_
          refine w_ifne (t := 62) gz_185_29 rfl (fun u734 => ?_) (fun u734 => by exfalso; omega)
          refine w_aload_n gz_185_62 rfl ?_
          refine w_bipush gz_185_63 (by decide) ?_
          refine w_inv (k := 0) (as := [(0, 10)]) (r := []) (x := 151) (ls0 := [(2, 151), (0, 10)]) gz_185_65 gm_177 rfl is_151 rd_10 rfl rfl rfl rfl rfl (c_Model_isWord_f0 (d := (d + 3)) (x1 := 10) (by omega) (by omega) (cf.trans (by omega)) (fun w735 => ?_) (fun w736 xp737 xp738 => ?_))
          ·
            show wp l rho (d + 4) 185 68 [(2, 151), (0, 1), (0, 1), (0, 1), (0, 0), (9, 0), (9, 0), (9, 0)] [(0, 0)] h Q
            refine w_ifne (t := 88) gz_185_68 rfl (fun u739 => by exfalso; omega) (fun u739 => ?_)
            refine w_aload_n gz_185_71 rfl ?_
            refine w_getX (v := 167) gz_185_72 is_151 rd_10 rfl (by decide) rfl ?_
            refine w_bipush gz_185_75 (by decide) ?_
            refine w_iald gz_185_77 is_167 rd_66 (by omega) (by omega) (fun v741 ev741 pv741 qv741 => ?_)
            refine w_bipush gz_185_78 (by decide) ?_
            refine w_icne (t := 88) gz_185_80 rfl (fun u742 => ?_) (fun u742 => ?_)
            ·
              have ce743 : h 151 7 = k151_7 := ek151_7.symm
              have ce744 : h 151 8 = 0 := cf
              exact J88_0 (1) (1) (1) (0) (0) h (my_fr.rf) (by omega) (by omega) (by omega) (by omega) (by omega) (by omega) (by omega) (by omega) (by omega) (by omega) (ek151_7.symm.trans (by omega)) (cf.trans (by omega)) n_Tok n_Mq n_Wrd (by first | (intro q; exfalso; omega) | (intro _; assumption)) (by first | (intro q; exfalso; omega) | (intro _ q; omega) | (intro _ q; exfalso; have w := n_Wrd; unfold Wrd at w; omega)) (by omega)
            ·
              refine w_aload_n gz_185_83 rfl ?_
              refine w_iconst gz_185_84 (by decide) ?_
              refine w_inv (k := 0) (as := [(0, 5)]) (r := []) (x := 151) (ls0 := [(2, 151), (0, 5)]) gz_185_85 gm_178 rfl is_151 rd_10 rfl rfl rfl rfl rfl ?_
              refine w_aload_n gz_178_0 rfl ?_
              refine v_getI (j := 8) gz_178_1 rfl is_151 rd_10 rfl (fun v745 ev745 pv745 qv745 => ?_)
              have zv745 := ev745.trans cf
              refine w_ifne (t := 25) gz_178_4 rfl (fun u746 => by exfalso; omega) (fun u746 => ?_)
              refine w_aload_n gz_178_7 rfl ?_
              refine w_iload_n gz_178_8 rfl ?_
              refine w_bipush gz_178_9 (by decide) ?_
              refine w_aload_n gz_178_11 rfl ?_
              refine w_getX (v := 154) gz_178_12 is_151 rd_10 rfl (by decide) rfl ?_
              refine w_aload_n gz_178_15 rfl ?_
              refine v_getI (j := 7) gz_178_16 rfl is_151 rd_10 rfl (fun v748 ev748 pv748 qv748 => ?_)
              have zv748 := ev748.trans ek151_7.symm
              refine w_iald gz_178_19 is_154 rd_53 (by omega) (by omega) (fun v749 ev749 pv749 qv749 => ?_)
              refine w_imul gz_178_20 ⟨by omega, by omega⟩ ?_
              refine w_iadd gz_178_21 ⟨by omega, by omega⟩ ?_
              refine v_putI (j := 8) gz_178_22 rfl is_151 rd_10 rfl (by omega) (by omega) rfl (fun h750 fh750 => ?_)
              have gh750 : my_fr [(10, 7), (10, 8), (10, 27), (66, -1), (67, -1), (68, -1), (69, -1), (70, -1), (71, -1), (72, -1), (73, -1), (74, -1), (75, -1), (77, -1), (78, -1), (79, -1)] h h750 := my_fr.up my_fr.rf is_151 fh750 rfl
              have Tok_h750 : Tok h750 := Tok_ag (my_ag.up fh750 is_151 rfl) n_Tok
              have Mq_h750 : Mq h750 wv := Mq_ag (my_ag.up fh750 is_151 rfl) n_Mq
              have Wrd_h750 : Wrd h750 := Wrd_ag (my_ag.up fh750 is_151 rfl) n_Wrd
              refine w_vret gz_178_25 gm_178 ?_
              show wp l rho (d + 4) 185 88 [(2, 151), (0, 1), (0, 1), (0, 1), (0, 0), (9, 0), (9, 0), (9, 0)] [] h750 Q
              have ce751 : h750 151 7 = v748 := ((my_up_fld fh750 (by decide)).trans ev748.symm)
              have ce752 : h750 151 8 = (5 + (16 * v749)) := (my_up_self fh750)
              exact J88_0 (1) (1) (1) (0) ((5 + (16 * v749))) h750 (gh750) (by omega) (by omega) (by omega) (by omega) (by omega) (by omega) (by omega) (by omega) (by omega) (by omega) (((my_up_fld fh750 (by decide)).trans ev748.symm).trans (by omega)) ((my_up_self fh750).trans (by omega)) Tok_h750 Mq_h750 Wrd_h750 (by first | (intro q; exfalso; omega) | (intro _; assumption)) (by first | (intro q; exfalso; omega) | (intro _ q; omega) | (intro _ q; exfalso; have w := Wrd_h750; unfold Wrd at w; omega)) (by omega)
          ·
            show wp l rho (d + 4) 185 68 [(2, 151), (0, 1), (0, 1), (0, 1), (0, 0), (9, 0), (9, 0), (9, 0)] [(0, 1)] h Q
            refine w_ifne (t := 88) gz_185_68 rfl (fun u753 => ?_) (fun u753 => by exfalso; omega)
            have ce754 : h 151 7 = k151_7 := ek151_7.symm
            have ce755 : h 151 8 = 0 := cf
            exact J88_0 (1) (1) (1) (0) (0) h (my_fr.rf) (by omega) (by omega) (by omega) (by omega) (by omega) (by omega) (by omega) (by omega) (by omega) (by omega) (ek151_7.symm.trans (by omega)) (cf.trans (by omega)) n_Tok n_Mq n_Wrd (by first | (intro q; exfalso; omega) | (intro _; assumption)) (by first | (intro q; exfalso; omega) | (intro _ q; omega) | (intro _ q; exfalso; have w := n_Wrd; unfold Wrd at w; omega)) (by omega)
        ·
          show wp l rho (d + 4) 185 26 [(2, 151), (0, 1), (0, 1), (0, 1), (9, 0), (9, 0), (9, 0), (9, 0)] [(0, 1)] h Q
          refine w_istore (ls' := [(2, 151), (0, 1), (0, 1), (0, 1), (0, 1), (9, 0), (9, 0), (9, 0)]) gz_185_26 gm_185 rfl rfl rfl ?_
          refine w_iload_n gz_185_28 rfl ?_
          refine w_ifne (t := 62) gz_185_29 rfl (fun u756 => ?_) (fun u756 => by exfalso; omega)
          refine w_aload_n gz_185_62 rfl ?_
          refine w_bipush gz_185_63 (by decide) ?_
          refine w_inv (k := 0) (as := [(0, 10)]) (r := []) (x := 151) (ls0 := [(2, 151), (0, 10)]) gz_185_65 gm_177 rfl is_151 rd_10 rfl rfl rfl rfl rfl (c_Model_isWord_f0 (d := (d + 3)) (x1 := 10) (by omega) (by omega) (cf.trans (by omega)) (fun w757 => ?_) (fun w758 xp759 xp760 => ?_))
          ·
            show wp l rho (d + 4) 185 68 [(2, 151), (0, 1), (0, 1), (0, 1), (0, 1), (9, 0), (9, 0), (9, 0)] [(0, 0)] h Q
            refine w_ifne (t := 88) gz_185_68 rfl (fun u761 => by exfalso; omega) (fun u761 => ?_)
            refine w_aload_n gz_185_71 rfl ?_
            refine w_getX (v := 167) gz_185_72 is_151 rd_10 rfl (by decide) rfl ?_
            refine w_bipush gz_185_75 (by decide) ?_
            refine w_iald gz_185_77 is_167 rd_66 (by omega) (by omega) (fun v763 ev763 pv763 qv763 => ?_)
            refine w_bipush gz_185_78 (by decide) ?_
            refine w_icne (t := 88) gz_185_80 rfl (fun u764 => ?_) (fun u764 => ?_)
            ·
              have ce765 : h 151 7 = k151_7 := ek151_7.symm
              have ce766 : h 151 8 = 0 := cf
              exact J88_0 (1) (1) (1) (1) (0) h (my_fr.rf) (by omega) (by omega) (by omega) (by omega) (by omega) (by omega) (by omega) (by omega) (by omega) (by omega) (ek151_7.symm.trans (by omega)) (cf.trans (by omega)) n_Tok n_Mq n_Wrd (by first | (intro q; exfalso; omega) | (intro _; assumption)) (by first | (intro q; exfalso; omega) | (intro _ q; omega) | (intro _ q; exfalso; have w := n_Wrd; unfold Wrd at w; omega)) (by omega)
            ·
              refine w_aload_n gz_185_83 rfl ?_
              refine w_iconst gz_185_84 (by decide) ?_
              refine w_inv (k := 0) (as := [(0, 5)]) (r := []) (x := 151) (ls0 := [(2, 151), (0, 5)]) gz_185_85 gm_178 rfl is_151 rd_10 rfl rfl rfl rfl rfl ?_
              refine w_aload_n gz_178_0 rfl ?_
              refine v_getI (j := 8) gz_178_1 rfl is_151 rd_10 rfl (fun v767 ev767 pv767 qv767 => ?_)
              have zv767 := ev767.trans cf
              refine w_ifne (t := 25) gz_178_4 rfl (fun u768 => by exfalso; omega) (fun u768 => ?_)
              refine w_aload_n gz_178_7 rfl ?_
              refine w_iload_n gz_178_8 rfl ?_
              refine w_bipush gz_178_9 (by decide) ?_
              refine w_aload_n gz_178_11 rfl ?_
              refine w_getX (v := 154) gz_178_12 is_151 rd_10 rfl (by decide) rfl ?_
              refine w_aload_n gz_178_15 rfl ?_
              refine v_getI (j := 7) gz_178_16 rfl is_151 rd_10 rfl (fun v770 ev770 pv770 qv770 => ?_)
              have zv770 := ev770.trans ek151_7.symm
              refine w_iald gz_178_19 is_154 rd_53 (by omega) (by omega) (fun v771 ev771 pv771 qv771 => ?_)
              refine w_imul gz_178_20 ⟨by omega, by omega⟩ ?_
              refine w_iadd gz_178_21 ⟨by omega, by omega⟩ ?_
              refine v_putI (j := 8) gz_178_22 rfl is_151 rd_10 rfl (by omega) (by omega) rfl (fun h772 fh772 => ?_)
              have gh772 : my_fr [(10, 7), (10, 8), (10, 27), (66, -1), (67, -1), (68, -1), (69, -1), (70, -1), (71, -1), (72, -1), (73, -1), (74, -1), (75, -1), (77, -1), (78, -1), (79, -1)] h h772 := my_fr.up my_fr.rf is_151 fh772 rfl
              have Tok_h772 : Tok h772 := Tok_ag (my_ag.up fh772 is_151 rfl) n_Tok
              have Mq_h772 : Mq h772 wv := Mq_ag (my_ag.up fh772 is_151 rfl) n_Mq
              have Wrd_h772 : Wrd h772 := Wrd_ag (my_ag.up fh772 is_151 rfl) n_Wrd
              refine w_vret gz_178_25 gm_178 ?_
              show wp l rho (d + 4) 185 88 [(2, 151), (0, 1), (0, 1), (0, 1), (0, 1), (9, 0), (9, 0), (9, 0)] [] h772 Q
              have ce773 : h772 151 7 = v770 := ((my_up_fld fh772 (by decide)).trans ev770.symm)
              have ce774 : h772 151 8 = (5 + (16 * v771)) := (my_up_self fh772)
              exact J88_0 (1) (1) (1) (1) ((5 + (16 * v771))) h772 (gh772) (by omega) (by omega) (by omega) (by omega) (by omega) (by omega) (by omega) (by omega) (by omega) (by omega) (((my_up_fld fh772 (by decide)).trans ev770.symm).trans (by omega)) ((my_up_self fh772).trans (by omega)) Tok_h772 Mq_h772 Wrd_h772 (by first | (intro q; exfalso; omega) | (intro _; assumption)) (by first | (intro q; exfalso; omega) | (intro _ q; omega) | (intro _ q; exfalso; have w := Wrd_h772; unfold Wrd at w; omega)) (by omega)
          ·
            show wp l rho (d + 4) 185 68 [(2, 151), (0, 1), (0, 1), (0, 1), (0, 1), (9, 0), (9, 0), (9, 0)] [(0, 1)] h Q
            refine w_ifne (t := 88) gz_185_68 rfl (fun u775 => ?_) (fun u775 => by exfalso; omega)
            have ce776 : h 151 7 = k151_7 := ek151_7.symm
            have ce777 : h 151 8 = 0 := cf
            exact J88_0 (1) (1) (1) (1) (0) h (my_fr.rf) (by omega) (by omega) (by omega) (by omega) (by omega) (by omega) (by omega) (by omega) (by omega) (by omega) (ek151_7.symm.trans (by omega)) (cf.trans (by omega)) n_Tok n_Mq n_Wrd (by first | (intro q; exfalso; omega) | (intro _; assumption)) (by first | (intro q; exfalso; omega) | (intro _ q; omega) | (intro _ q; exfalso; have w := n_Wrd; unfold Wrd at w; omega)) (by omega)
end MYNModel_readPane_f0
