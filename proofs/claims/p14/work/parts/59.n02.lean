/-! contracts, printed by wip/gen/gy.py -/
section MYNModel_readPane_f0
theorem c_Model_readPane_f0 {l : Launch} {rho : Nat → Int32} {d : Nat} {h : my_H} {Q : my_H → my_V → Prop} {wv : Int} (cf : h 151 8 = 0) (hwv : wv ≤ 5) (hwv0 : 0 ≤ wv) (n_Tok : Tok h) (n_Mq : Mq h wv) (n_Wrd : Wrd h) (k0 : ∀ (h' : my_H), my_fr [(10, 7), (10, 8), (10, 27), (66, -1), (67, -1), (68, -1), (69, -1), (70, -1), (71, -1), (72, -1), (73, -1), (74, -1), (75, -1), (77, -1), (78, -1), (79, -1)] h h' → 1 ≤ h' 151 8 → h' 151 8 ≤ 16005 → h 151 7 ≤ h' 151 7 → Tok h' → Mq h' wv → Wrd h' → Q h' (9, 0)) (k1 : ∀ (h' : my_H), my_fr [(10, 7), (10, 8), (10, 27), (66, -1), (67, -1), (68, -1), (69, -1), (70, -1), (71, -1), (72, -1), (73, -1), (74, -1), (75, -1), (77, -1), (78, -1), (79, -1)] h h' → 1 ≤ h' 151 7 → h' 151 7 ≤ 1001 → h' 151 8 = 0 → h 151 7 < h' 151 7 → Tok h' → Mq h' wv → Wrd h' → Q h' (9, 0)) : wp l rho (d + 4) 185 0 [(2, 151), (9, 0), (9, 0), (9, 0), (9, 0), (9, 0), (9, 0), (9, 0)] [] h Q := by
  refine v_know (x := 151) (j := 7) (b := 7) rfl is_151 rd_10 rfl (fun k151_7 ek151_7 pk151_7 qk151_7 => ?_)
  have J88_0 : ∀ (p88_0 p88_1 p88_2 p88_3 p88_4 : Int) (h88_0 : my_H), my_fr [(10, 7), (10, 8), (10, 27), (66, -1), (67, -1), (68, -1), (69, -1), (70, -1), (71, -1), (72, -1), (73, -1), (74, -1), (75, -1), (77, -1), (78, -1), (79, -1)] h h88_0 → 0 ≤ p88_0 → p88_0 ≤ 1 → 0 ≤ p88_1 → p88_1 ≤ 1 → 0 ≤ p88_2 → p88_2 ≤ 1 → 0 ≤ p88_3 → p88_3 ≤ 1 → 0 ≤ p88_4 → p88_4 ≤ 16005 → h88_0 151 7 = k151_7 → h88_0 151 8 = p88_4 → Tok h88_0 → Mq h88_0 wv → Wrd h88_0 → (h88_0 151 8 = 0 → h88_0 153 (h88_0 151 7) = 1) → (h88_0 151 8 = 0 → (p88_0 = 1 ∨ p88_1 = 1 ∨ p88_2 = 1 ∨ p88_3 = 1) → h88_0 167 6 ≤ 5) → h88_0 151 7 = h 151 7 → wp l rho (d + 4) 185 88 [(2, 151), (0, p88_0), (0, p88_1), (0, p88_2), (0, p88_3), (9, 0), (9, 0), (9, 0)] [] h88_0 Q := by
    intro p88_0 p88_1 p88_2 p88_3 p88_4 h88_0 gh_88_0 q0_88_0 q1_88_0 q2_88_0 q3_88_0 q4_88_0 q5_88_0 q6_88_0 q7_88_0 q8_88_0 q9_88_0 c151_7_88_0 c151_8_88_0 n_Tok_88_0 n_Mq_88_0 n_Wrd_88_0 wd_88_0 pn_88_0 am_88_0
    refine w_aload_n gz_185_88 rfl ?_
    refine v_getI (j := 8) gz_185_89 rfl is_151 rd_10 rfl (fun v1 ev1 pv1 qv1 => ?_)
    have zv1 := ev1.trans c151_8_88_0
    refine w_ifle (t := 96) gz_185_92 rfl (fun u2 => ?_) (fun u2 => ?_)
    ·
      refine w_aload_n gz_185_96 rfl ?_
      refine w_dup gz_185_97 rfl ?_
      refine v_getI (j := 7) gz_185_98 rfl is_151 rd_10 rfl (fun v3 ev3 pv3 qv3 => ?_)
      have zv3 := ev3.trans c151_7_88_0
      refine w_iconst gz_185_101 (by decide) ?_
      refine w_iadd gz_185_102 ⟨by omega, by omega⟩ ?_
      have w1 := wd_88_0 (by omega)
      have hi4 : 0 ≤ (v3 + 1) := by have q := Tok_at n_Tok_88_0; omega
      have hi5 : (v3 + 1) ≤ 1001 := by have q := Tok_at n_Tok_88_0; omega
      refine v_putI (j := 7) gz_185_103 rfl is_151 rd_10 rfl (by omega) (by omega) rfl (fun h6 fh6 => ?_)
      have gh6 : my_fr [(10, 7), (10, 8), (10, 27), (66, -1), (67, -1), (68, -1), (69, -1), (70, -1), (71, -1), (72, -1), (73, -1), (74, -1), (75, -1), (77, -1), (78, -1), (79, -1)] h h6 := my_fr.up gh_88_0 is_151 fh6 rfl
      have Mq_h6 : Mq h6 wv := Mq_ag (my_ag.up fh6 is_151 rfl) n_Mq_88_0
      have Wrd_h6 : Wrd h6 := Wrd_ag (my_ag.up fh6 is_151 rfl) n_Wrd_88_0
      have Tok_h6t7 : Tok h6 := Tok_inc n_Tok_88_0 (by omega) (by omega) fh6
      have k7 := my_up_self fh6
      refine w_bipush gz_185_106 (by decide) ?_
      refine w_aload_n gz_185_108 rfl ?_
      refine w_getX (v := 167) gz_185_109 is_151 rd_10 rfl (by decide) rfl ?_
      refine w_bipush gz_185_112 (by decide) ?_
      refine w_iald gz_185_114 is_167 rd_66 (by omega) (by omega) (fun v9 ev9 pv9 qv9 => ?_)
      have b167 : ∀ j : Int, h6 167 j = h88_0 167 j := fun j => ((my_up_role fh6 is_167 is_151 rfl).trans (rfl : h88_0 167 j = h88_0 167 j))
      have p5 := pn_88_0 (by omega)
      have q6 := b167 6
      refine w_iadd gz_185_115 ⟨by omega, by omega⟩ ?_
      refine w_istore (ls' := [(2, 151), (0, p88_0), (0, p88_1), (0, p88_2), (0, p88_3), (0, (36 + v9)), (9, 0), (9, 0)]) gz_185_116 gm_185 rfl rfl rfl ?_
      refine w_iload_n gz_185_118 rfl ?_
      refine w_ifeq (t := 131) gz_185_119 rfl (fun u10 => ?_) (fun u10 => ?_)
      ·
        refine w_iload_n gz_185_131 rfl ?_
        refine w_ifeq (t := 144) gz_185_132 rfl (fun u11 => ?_) (fun u11 => ?_)
        ·
          refine w_iload_n gz_185_144 rfl ?_
          refine w_ifeq (t := 157) gz_185_145 rfl (fun u12 => ?_) (fun u12 => ?_)
          ·
            refine w_iload gz_185_157 rfl ?_
            refine w_ifeq (t := 171) gz_185_159 rfl (fun u13 => ?_) (fun u13 => ?_)
            ·
              refine w_aload_n gz_185_171 rfl ?_
              refine w_aload_n gz_185_172 rfl ?_
              refine w_getX (v := 157) gz_185_173 is_151 rd_10 rfl (by decide) rfl ?_
              refine w_aload_n gz_185_176 rfl ?_
              refine v_getI (j := 33) gz_185_177 rfl is_151 rd_10 rfl (fun v15 ev15 pv15 qv15 => ?_)
              refine w_iald gz_185_180 is_157 rd_56 (by omega) (by omega) (fun v16 ev16 pv16 qv16 => ?_)
              refine w_iconst gz_185_181 (by decide) ?_
              refine w_isub gz_185_182 ⟨by omega, by omega⟩ ?_
              have ce17 : h6 151 7 = (v3 + 1) := (my_up_self fh6)
              refine w_inv (k := 0) (as := [(0, (v16 - 1))]) (r := []) (x := 151) (ls0 := [(2, 151), (0, (v16 - 1))]) gz_185_183 gm_187 rfl is_151 rd_10 rfl rfl rfl rfl rfl (c_Model_takeNumber2_f0 (d := (d + 2)) (x1 := (v16 - 1)) (by omega) (by omega) (((my_up_fld fh6 (by decide)).trans ev1.symm).trans (by omega)) Tok_h6t7 (fun h18 frh18 w19 w20 xp21 Tok_h18t22 => ?_) (fun h23 v24 frh23 w25 w26 w27 w28 w29 xp30 xp31 xp32 xp33 xp34 Tok_h23t35 => ?_))
              ·
                have gh18 : my_fr [(10, 7), (10, 8), (10, 27), (66, -1), (67, -1), (68, -1), (69, -1), (70, -1), (71, -1), (72, -1), (73, -1), (74, -1), (75, -1), (77, -1), (78, -1), (79, -1)] h h18 := my_fr.tr gh6 (frh18.mo rfl)
                have Mq_h18 : Mq h18 wv := Mq_ag (my_ag.fr frh18 rfl) Mq_h6
                have Wrd_h18 : Wrd h18 := Wrd_ag (my_ag.fr frh18 rfl) Wrd_h6
                show wp l rho (d + 4) 185 186 [(2, 151), (0, p88_0), (0, p88_1), (0, p88_2), (0, p88_3), (0, (36 + v9)), (9, 0), (9, 0)] [(0, 0)] h18 Q
                refine w_istore (ls' := [(2, 151), (0, p88_0), (0, p88_1), (0, p88_2), (0, p88_3), (0, (36 + v9)), (0, 0), (9, 0)]) gz_185_186 gm_185 rfl rfl rfl ?_
                refine w_aload_n gz_185_188 rfl ?_
                refine w_bipush gz_185_189 (by decide) ?_
                refine w_inv (k := 0) (as := [(0, 19)]) (r := []) (x := 151) (ls0 := [(2, 151), (0, 19)]) gz_185_191 gm_187 rfl is_151 rd_10 rfl rfl rfl rfl rfl (c_Model_takeNumber2_f1 (d := (d + 2)) (x1 := 19) (by omega) (by omega) ((h18 151 8)) ((rfl : h18 151 8 = h18 151 8)) (by omega) (by omega) Tok_h18t22 (fun w36 w37 xp38 Tok_h18t39 => ?_))
                show wp l rho (d + 4) 185 194 [(2, 151), (0, p88_0), (0, p88_1), (0, p88_2), (0, p88_3), (0, (36 + v9)), (0, 0), (9, 0)] [(0, 0)] h18 Q
                refine w_istore (ls' := [(2, 151), (0, p88_0), (0, p88_1), (0, p88_2), (0, p88_3), (0, (36 + v9)), (0, 0), (0, 0)]) gz_185_194 gm_185 rfl rfl rfl ?_
                refine w_aload_n gz_185_196 rfl ?_
                refine w_getX (v := 173) gz_185_197 is_151 rd_10 rfl (by decide) rfl ?_
                refine w_bipush gz_185_200 (by decide) ?_
                refine w_iload gz_185_202 rfl ?_
                refine w_iadd gz_185_204 ⟨by omega, by omega⟩ ?_
                refine w_aload_n gz_185_205 rfl ?_
                refine v_getI (j := 8) gz_185_206 rfl is_151 rd_10 rfl (fun v41 ev41 pv41 qv41 => ?_)
                have zv41 := ev41.trans (rfl : h18 151 8 = h18 151 8)
                refine w_ifne (t := 217) gz_185_209 rfl (fun u42 => ?_) (fun u42 => by exfalso; omega)
                refine w_aload_n gz_185_217 rfl ?_
                refine w_getX (v := 173) gz_185_218 is_151 rd_10 rfl (by decide) rfl ?_
                refine w_bipush gz_185_221 (by decide) ?_
                refine w_iload gz_185_223 rfl ?_
                refine w_iadd gz_185_225 ⟨by omega, by omega⟩ ?_
                have hi44 : 0 ≤ (24 + 0) := by omega
                have hi45 : (24 + 0) ≤ 27 := by omega
                refine w_iald gz_185_226 is_173 rd_72 (by omega) (by omega) (fun v46 ev46 pv46 qv46 => ?_)
                have hi47 : (-1) ≤ v46 := by omega
                have hi48 : v46 ≤ 19 := by omega
                have hi49 : 0 ≤ (24 + 0) := by omega
                have hi50 : (24 + 0) ≤ 27 := by omega
                refine w_iast gz_185_227 is_173 rd_72 (by omega) (by omega) (by omega) (by omega) (fun h51 fh51 => ?_)
                have gh51 : my_fr [(10, 7), (10, 8), (10, 27), (66, -1), (67, -1), (68, -1), (69, -1), (70, -1), (71, -1), (72, -1), (73, -1), (74, -1), (75, -1), (77, -1), (78, -1), (79, -1)] h h51 := my_fr.up gh18 is_173 fh51 rfl
                have Mq_h51 : Mq h51 wv := Mq_ag (my_ag.up fh51 is_173 rfl) Mq_h18
                have Wrd_h51 : Wrd h51 := Wrd_ag (my_ag.up fh51 is_173 rfl) Wrd_h18
                have Tok_h51 : Tok h51 := Tok_ag (my_ag.up fh51 is_173 rfl) Tok_h18t39
                refine w_aload_n gz_185_228 rfl ?_
                refine v_getI (j := 8) gz_185_229 rfl is_151 rd_10 rfl (fun v52 ev52 pv52 qv52 => ?_)
                have zv52 := ev52.trans ((my_up_role fh51 is_151 is_173 rfl).trans ev41.symm)
                refine w_ifne (t := 269) gz_185_232 rfl (fun u53 => ?_) (fun u53 => by exfalso; omega)
                refine w_aload_n gz_185_269 rfl ?_
                refine w_bipush gz_185_270 (by decide) ?_
                have ce54 : h51 151 7 = h18 151 7 := ((my_up_role fh51 is_151 is_173 rfl).trans (rfl : h18 151 7 = h18 151 7))
                refine w_inv (k := 0) (as := [(0, 59)]) (r := []) (x := 151) (ls0 := [(2, 151), (0, 59)]) gz_185_272 gm_183 rfl is_151 rd_10 rfl rfl rfl rfl rfl (c_Model_takeSign_f1 (d := (d + 2))  (v52) (ev52.symm) (by omega) (by omega) Tok_h51 (fun w55 w56 xp57 Tok_h51t58 => ?_))
                show wp l rho (d + 4) 185 275 [(2, 151), (0, p88_0), (0, p88_1), (0, p88_2), (0, p88_3), (0, (36 + v9)), (0, 0), (0, 0)] [] h51 Q
                have ce59 : h51 151 7 = h18 151 7 := ((my_up_role fh51 is_151 is_173 rfl).trans (rfl : h18 151 7 = h18 151 7))
                have c60 := ev52.symm
                exact w_vret gz_185_275 gm_185 (k0 h51 (gh51) (by omega) (by omega) (by first | assumption | omega | (subst_vars; omega)) Tok_h51t58 Mq_h51 Wrd_h51)
              ·
                have gh23 : my_fr [(10, 7), (10, 8), (10, 27), (66, -1), (67, -1), (68, -1), (69, -1), (70, -1), (71, -1), (72, -1), (73, -1), (74, -1), (75, -1), (77, -1), (78, -1), (79, -1)] h h23 := my_fr.tr gh6 (frh23.mo rfl)
                have Mq_h23 : Mq h23 wv := Mq_ag (my_ag.fr frh23 rfl) Mq_h6
                have Wrd_h23 : Wrd h23 := Wrd_ag (my_ag.fr frh23 rfl) Wrd_h6
                show wp l rho (d + 4) 185 186 [(2, 151), (0, p88_0), (0, p88_1), (0, p88_2), (0, p88_3), (0, (36 + v9)), (9, 0), (9, 0)] [(0, v24)] h23 Q
                refine w_istore (ls' := [(2, 151), (0, p88_0), (0, p88_1), (0, p88_2), (0, p88_3), (0, (36 + v9)), (0, v24), (9, 0)]) gz_185_186 gm_185 rfl rfl rfl ?_
                refine w_aload_n gz_185_188 rfl ?_
                refine w_bipush gz_185_189 (by decide) ?_
                have ce61 : h23 151 7 = (h23 151 7) := (rfl : h23 151 7 = h23 151 7)
                refine w_inv (k := 0) (as := [(0, 19)]) (r := []) (x := 151) (ls0 := [(2, 151), (0, 19)]) gz_185_191 gm_187 rfl is_151 rd_10 rfl rfl rfl rfl rfl (c_Model_takeNumber2_f0 (d := (d + 2)) (x1 := 19) (by omega) (by omega) (w29.trans (by omega)) Tok_h23t35 (fun h62 frh62 w63 w64 xp65 Tok_h62t66 => ?_) (fun h67 v68 frh67 w69 w70 w71 w72 w73 xp74 xp75 xp76 xp77 xp78 Tok_h67t79 => ?_))
                ·
                  have gh62 : my_fr [(10, 7), (10, 8), (10, 27), (66, -1), (67, -1), (68, -1), (69, -1), (70, -1), (71, -1), (72, -1), (73, -1), (74, -1), (75, -1), (77, -1), (78, -1), (79, -1)] h h62 := my_fr.tr gh23 (frh62.mo rfl)
                  have Mq_h62 : Mq h62 wv := Mq_ag (my_ag.fr frh62 rfl) Mq_h23
                  have Wrd_h62 : Wrd h62 := Wrd_ag (my_ag.fr frh62 rfl) Wrd_h23
                  show wp l rho (d + 4) 185 194 [(2, 151), (0, p88_0), (0, p88_1), (0, p88_2), (0, p88_3), (0, (36 + v9)), (0, v24), (9, 0)] [(0, 0)] h62 Q
                  refine w_istore (ls' := [(2, 151), (0, p88_0), (0, p88_1), (0, p88_2), (0, p88_3), (0, (36 + v9)), (0, v24), (0, 0)]) gz_185_194 gm_185 rfl rfl rfl ?_
                  refine w_aload_n gz_185_196 rfl ?_
                  refine w_getX (v := 173) gz_185_197 is_151 rd_10 rfl (by decide) rfl ?_
                  refine w_bipush gz_185_200 (by decide) ?_
                  refine w_iload gz_185_202 rfl ?_
                  refine w_iadd gz_185_204 ⟨by omega, by omega⟩ ?_
                  refine w_aload_n gz_185_205 rfl ?_
                  refine v_getI (j := 8) gz_185_206 rfl is_151 rd_10 rfl (fun v81 ev81 pv81 qv81 => ?_)
                  have zv81 := ev81.trans (rfl : h62 151 8 = h62 151 8)
                  refine w_ifne (t := 217) gz_185_209 rfl (fun u82 => ?_) (fun u82 => by exfalso; omega)
                  refine w_aload_n gz_185_217 rfl ?_
                  refine w_getX (v := 173) gz_185_218 is_151 rd_10 rfl (by decide) rfl ?_
                  refine w_bipush gz_185_221 (by decide) ?_
                  refine w_iload gz_185_223 rfl ?_
                  refine w_iadd gz_185_225 ⟨by omega, by omega⟩ ?_
                  have hi84 : 0 ≤ (24 + v24) := by omega
                  have hi85 : (24 + v24) ≤ 27 := by omega
                  refine w_iald gz_185_226 is_173 rd_72 (by omega) (by omega) (fun v86 ev86 pv86 qv86 => ?_)
                  have hi87 : (-1) ≤ v86 := by omega
                  have hi88 : v86 ≤ 19 := by omega
                  have hi89 : 0 ≤ (24 + v24) := by omega
                  have hi90 : (24 + v24) ≤ 27 := by omega
                  refine w_iast gz_185_227 is_173 rd_72 (by omega) (by omega) (by omega) (by omega) (fun h91 fh91 => ?_)
                  have gh91 : my_fr [(10, 7), (10, 8), (10, 27), (66, -1), (67, -1), (68, -1), (69, -1), (70, -1), (71, -1), (72, -1), (73, -1), (74, -1), (75, -1), (77, -1), (78, -1), (79, -1)] h h91 := my_fr.up gh62 is_173 fh91 rfl
                  have Mq_h91 : Mq h91 wv := Mq_ag (my_ag.up fh91 is_173 rfl) Mq_h62
                  have Wrd_h91 : Wrd h91 := Wrd_ag (my_ag.up fh91 is_173 rfl) Wrd_h62
                  have Tok_h91 : Tok h91 := Tok_ag (my_ag.up fh91 is_173 rfl) Tok_h62t66
                  refine w_aload_n gz_185_228 rfl ?_
                  refine v_getI (j := 8) gz_185_229 rfl is_151 rd_10 rfl (fun v92 ev92 pv92 qv92 => ?_)
                  have zv92 := ev92.trans ((my_up_role fh91 is_151 is_173 rfl).trans ev81.symm)
                  refine w_ifne (t := 269) gz_185_232 rfl (fun u93 => ?_) (fun u93 => by exfalso; omega)
                  refine w_aload_n gz_185_269 rfl ?_
                  refine w_bipush gz_185_270 (by decide) ?_
                  have ce94 : h91 151 7 = h62 151 7 := ((my_up_role fh91 is_151 is_173 rfl).trans (rfl : h62 151 7 = h62 151 7))
                  refine w_inv (k := 0) (as := [(0, 59)]) (r := []) (x := 151) (ls0 := [(2, 151), (0, 59)]) gz_185_272 gm_183 rfl is_151 rd_10 rfl rfl rfl rfl rfl (c_Model_takeSign_f1 (d := (d + 2))  (v92) (ev92.symm) (by omega) (by omega) Tok_h91 (fun w95 w96 xp97 Tok_h91t98 => ?_))
                  show wp l rho (d + 4) 185 275 [(2, 151), (0, p88_0), (0, p88_1), (0, p88_2), (0, p88_3), (0, (36 + v9)), (0, v24), (0, 0)] [] h91 Q
                  have ce99 : h91 151 7 = h62 151 7 := ((my_up_role fh91 is_151 is_173 rfl).trans (rfl : h62 151 7 = h62 151 7))
                  have c100 := ev92.symm
                  exact w_vret gz_185_275 gm_185 (k0 h91 (gh91) (by omega) (by omega) (by first | assumption | omega | (subst_vars; omega)) Tok_h91t98 Mq_h91 Wrd_h91)
                ·
                  have gh67 : my_fr [(10, 7), (10, 8), (10, 27), (66, -1), (67, -1), (68, -1), (69, -1), (70, -1), (71, -1), (72, -1), (73, -1), (74, -1), (75, -1), (77, -1), (78, -1), (79, -1)] h h67 := my_fr.tr gh23 (frh67.mo rfl)
                  have Mq_h67 : Mq h67 wv := Mq_ag (my_ag.fr frh67 rfl) Mq_h23
                  have Wrd_h67 : Wrd h67 := Wrd_ag (my_ag.fr frh67 rfl) Wrd_h23
                  show wp l rho (d + 4) 185 194 [(2, 151), (0, p88_0), (0, p88_1), (0, p88_2), (0, p88_3), (0, (36 + v9)), (0, v24), (9, 0)] [(0, v68)] h67 Q
                  refine w_istore (ls' := [(2, 151), (0, p88_0), (0, p88_1), (0, p88_2), (0, p88_3), (0, (36 + v9)), (0, v24), (0, v68)]) gz_185_194 gm_185 rfl rfl rfl ?_
                  refine w_aload_n gz_185_196 rfl ?_
                  refine w_getX (v := 173) gz_185_197 is_151 rd_10 rfl (by decide) rfl ?_
                  refine w_bipush gz_185_200 (by decide) ?_
                  refine w_iload gz_185_202 rfl ?_
                  refine w_iadd gz_185_204 ⟨by omega, by omega⟩ ?_
                  refine w_aload_n gz_185_205 rfl ?_
                  refine v_getI (j := 8) gz_185_206 rfl is_151 rd_10 rfl (fun v102 ev102 pv102 qv102 => ?_)
                  have zv102 := ev102.trans w73
                  refine w_ifne (t := 217) gz_185_209 rfl (fun u103 => by exfalso; omega) (fun u103 => ?_)
                  refine w_iload gz_185_212 rfl ?_
                  refine w_goto (t := 227) gz_185_214 rfl ?_
                  have hi104 : (-1) ≤ v68 := by omega
                  have hi105 : v68 ≤ 19 := by omega
                  have hi106 : 0 ≤ (24 + v24) := by omega
                  have hi107 : (24 + v24) ≤ 27 := by omega
                  refine w_iast gz_185_227 is_173 rd_72 (by omega) (by omega) (by omega) (by omega) (fun h108 fh108 => ?_)
                  have gh108 : my_fr [(10, 7), (10, 8), (10, 27), (66, -1), (67, -1), (68, -1), (69, -1), (70, -1), (71, -1), (72, -1), (73, -1), (74, -1), (75, -1), (77, -1), (78, -1), (79, -1)] h h108 := my_fr.up gh67 is_173 fh108 rfl
                  have Mq_h108 : Mq h108 wv := Mq_ag (my_ag.up fh108 is_173 rfl) Mq_h67
                  have Wrd_h108 : Wrd h108 := Wrd_ag (my_ag.up fh108 is_173 rfl) Wrd_h67
                  have Tok_h108 : Tok h108 := Tok_ag (my_ag.up fh108 is_173 rfl) Tok_h67t79
                  refine w_aload_n gz_185_228 rfl ?_
                  refine v_getI (j := 8) gz_185_229 rfl is_151 rd_10 rfl (fun v109 ev109 pv109 qv109 => ?_)
                  have zv109 := ev109.trans ((my_up_role fh108 is_151 is_173 rfl).trans ev102.symm)
                  refine w_ifne (t := 269) gz_185_232 rfl (fun u110 => by exfalso; omega) (fun u110 => ?_)
                  refine w_iload_n gz_185_235 rfl ?_
                  refine w_ifne (t := 252) gz_185_236 rfl (fun u111 => by exfalso; omega) (fun u111 => ?_)
                  refine w_iload_n gz_185_239 rfl ?_
                  refine w_ifne (t := 252) gz_185_240 rfl (fun u112 => by exfalso; omega) (fun u112 => ?_)
                  refine w_iload_n gz_185_243 rfl ?_
                  refine w_ifne (t := 252) gz_185_244 rfl (fun u113 => by exfalso; omega) (fun u113 => ?_)
                  refine w_iload gz_185_247 rfl ?_
                  refine w_ifeq (t := 269) gz_185_249 rfl (fun u114 => ?_) (fun u114 => by exfalso; omega)
                  refine w_aload_n gz_185_269 rfl ?_
                  refine w_bipush gz_185_270 (by decide) ?_
                  have ce115 : h108 151 7 = (h67 151 7) := ((my_up_role fh108 is_151 is_173 rfl).trans (rfl : h67 151 7 = h67 151 7))
                  refine w_inv (k := 0) (as := [(0, 59)]) (r := []) (x := 151) (ls0 := [(2, 151), (0, 59)]) gz_185_272 gm_183 rfl is_151 rd_10 rfl rfl rfl rfl rfl (c_Model_takeSign_f0 (d := (d + 2))  (ev109.symm.trans (by omega)) Tok_h108 (fun h116 frh116 w117 w118 xp119 Tok_h116t120 => ?_) (fun h121 frh121 w122 w123 w124 xp125 Tok_h121t126 => ?_))
                  ·
                    have gh116 : my_fr [(10, 7), (10, 8), (10, 27), (66, -1), (67, -1), (68, -1), (69, -1), (70, -1), (71, -1), (72, -1), (73, -1), (74, -1), (75, -1), (77, -1), (78, -1), (79, -1)] h h116 := my_fr.tr gh108 (frh116.mo rfl)
                    have Mq_h116 : Mq h116 wv := Mq_ag (my_ag.fr frh116 rfl) Mq_h108
                    have Wrd_h116 : Wrd h116 := Wrd_ag (my_ag.fr frh116 rfl) Wrd_h108
                    show wp l rho (d + 4) 185 275 [(2, 151), (0, p88_0), (0, p88_1), (0, p88_2), (0, p88_3), (0, (36 + v9)), (0, v24), (0, v68)] [] h116 Q
                    have c127 := (rfl : h116 151 8 = h116 151 8)
                    exact w_vret gz_185_275 gm_185 (k0 h116 (gh116) (by omega) (by omega) (by first | assumption | omega | (subst_vars; omega)) Tok_h116t120 Mq_h116 Wrd_h116)
                  ·
                    have gh121 : my_fr [(10, 7), (10, 8), (10, 27), (66, -1), (67, -1), (68, -1), (69, -1), (70, -1), (71, -1), (72, -1), (73, -1), (74, -1), (75, -1), (77, -1), (78, -1), (79, -1)] h h121 := my_fr.tr gh108 (frh121.mo rfl)
                    have Mq_h121 : Mq h121 wv := Mq_ag (my_ag.fr frh121 rfl) Mq_h108
                    have Wrd_h121 : Wrd h121 := Wrd_ag (my_ag.fr frh121 rfl) Wrd_h108
                    show wp l rho (d + 4) 185 275 [(2, 151), (0, p88_0), (0, p88_1), (0, p88_2), (0, p88_3), (0, (36 + v9)), (0, v24), (0, v68)] [] h121 Q
                    have ce128 : h121 151 7 = (h121 151 7) := (rfl : h121 151 7 = h121 151 7)
                    have c129 := (rfl : h121 151 7 = h121 151 7)
                    have c130 := w124
                    exact w_vret gz_185_275 gm_185 (k1 h121 (gh121) (by omega) (by omega) (by omega) (by first | assumption | omega | (subst_vars; omega)) Tok_h121t126 Mq_h121 Wrd_h121)
            ·
              refine w_aload_n gz_185_162 rfl ?_
              refine w_iload gz_185_163 rfl ?_
              have ce131 : h6 151 7 = (v3 + 1) := (my_up_self fh6)
              have hi132 : 36 ≤ (36 + v9) := by omega
              have hi133 : (36 + v9) ≤ 41 := by omega
              refine w_inv (k := 0) (as := [(0, (36 + v9))]) (r := []) (x := 151) (ls0 := [(2, 151), (0, (36 + v9))]) gz_185_165 gm_190 rfl is_151 rd_10 rfl rfl rfl rfl rfl (c_Model_readSum2_f0 (d := d) (x1 := (36 + v9)) (wv := wv) (by omega) (by omega) (((my_up_fld fh6 (by decide)).trans ev1.symm).trans (by omega)) (by first | assumption | omega) (by first | assumption | omega) Tok_h6t7 Mq_h6 (by first | assumption | omega | (subst_vars; omega)) (fun h134 frh134 w135 w136 xp137 Tok_h134t138 Mq_h134t139 => ?_) (fun h140 frh140 w141 w142 w143 xp144 xp145 xp146 Tok_h140t147 Mq_h140t148 => ?_))
              ·
                have gh134 : my_fr [(10, 7), (10, 8), (10, 27), (66, -1), (67, -1), (68, -1), (69, -1), (70, -1), (71, -1), (72, -1), (73, -1), (74, -1), (75, -1), (77, -1), (78, -1), (79, -1)] h h134 := my_fr.tr gh6 (frh134.mo rfl)
                have Wrd_h134 : Wrd h134 := Wrd_ag (my_ag.fr frh134 rfl) Wrd_h6
                show wp l rho (d + 4) 185 168 [(2, 151), (0, p88_0), (0, p88_1), (0, p88_2), (0, p88_3), (0, (36 + v9)), (9, 0), (9, 0)] [] h134 Q
                have pk := xp137
                refine w_goto (t := 228) gz_185_168 rfl ?_
                refine w_aload_n gz_185_228 rfl ?_
                refine v_getI (j := 8) gz_185_229 rfl is_151 rd_10 rfl (fun v149 ev149 pv149 qv149 => ?_)
                have zv149 := ev149.trans (rfl : h134 151 8 = h134 151 8)
                refine w_ifne (t := 269) gz_185_232 rfl (fun u150 => ?_) (fun u150 => by exfalso; omega)
                refine w_aload_n gz_185_269 rfl ?_
                refine w_bipush gz_185_270 (by decide) ?_
                refine w_inv (k := 0) (as := [(0, 59)]) (r := []) (x := 151) (ls0 := [(2, 151), (0, 59)]) gz_185_272 gm_183 rfl is_151 rd_10 rfl rfl rfl rfl rfl (c_Model_takeSign_f1 (d := (d + 2))  (v149) (ev149.symm) (by omega) (by omega) Tok_h134t138 (fun w151 w152 xp153 Tok_h134t154 => ?_))
                show wp l rho (d + 4) 185 275 [(2, 151), (0, p88_0), (0, p88_1), (0, p88_2), (0, p88_3), (0, (36 + v9)), (9, 0), (9, 0)] [] h134 Q
                have c155 := ev149.symm
                exact w_vret gz_185_275 gm_185 (k0 h134 (gh134) (by omega) (by omega) (by first | assumption | omega | (subst_vars; omega)) Tok_h134t154 Mq_h134t139 Wrd_h134)
              ·
                have gh140 : my_fr [(10, 7), (10, 8), (10, 27), (66, -1), (67, -1), (68, -1), (69, -1), (70, -1), (71, -1), (72, -1), (73, -1), (74, -1), (75, -1), (77, -1), (78, -1), (79, -1)] h h140 := my_fr.tr gh6 (frh140.mo rfl)
                have Wrd_h140 : Wrd h140 := Wrd_ag (my_ag.fr frh140 rfl) Wrd_h6
                show wp l rho (d + 4) 185 168 [(2, 151), (0, p88_0), (0, p88_1), (0, p88_2), (0, p88_3), (0, (36 + v9)), (9, 0), (9, 0)] [] h140 Q
                have pk := xp144
                have pk3 := xp145
                refine w_goto (t := 228) gz_185_168 rfl ?_
                refine w_aload_n gz_185_228 rfl ?_
                refine v_getI (j := 8) gz_185_229 rfl is_151 rd_10 rfl (fun v156 ev156 pv156 qv156 => ?_)
                have zv156 := ev156.trans w143
                refine w_ifne (t := 269) gz_185_232 rfl (fun u157 => by exfalso; omega) (fun u157 => ?_)
                refine w_iload_n gz_185_235 rfl ?_
                refine w_ifne (t := 252) gz_185_236 rfl (fun u158 => by exfalso; omega) (fun u158 => ?_)
                refine w_iload_n gz_185_239 rfl ?_
                refine w_ifne (t := 252) gz_185_240 rfl (fun u159 => by exfalso; omega) (fun u159 => ?_)
                refine w_iload_n gz_185_243 rfl ?_
                refine w_ifne (t := 252) gz_185_244 rfl (fun u160 => by exfalso; omega) (fun u160 => ?_)
                refine w_iload gz_185_247 rfl ?_
                refine w_ifeq (t := 269) gz_185_249 rfl (fun u161 => by exfalso; omega) (fun u161 => ?_)
                refine w_aload_n gz_185_252 rfl ?_
                refine w_iload gz_185_253 rfl ?_
                have d167 : ∀ j : Int, h140 167 j = h88_0 167 j := fun j => ((my_fr.at frh140 is_167 rfl).trans ((my_up_role fh6 is_167 is_151 rfl).trans (rfl : h88_0 167 j = h88_0 167 j)))
                have d6 := d167 6
                have mr0 := Mq_h140t148
                refine w_inv (k := 1) (as := [(0, (36 + v9))]) (r := []) (x := 151) (ls0 := [(2, 151), (0, (36 + v9)), (9, 0)]) gz_185_255 gm_182 rfl is_151 rd_10 rfl rfl rfl rfl rfl (c_Model_pane_f0 (d := (d + 3)) (x1 := (36 + v9)) (by omega) (by omega) (ev156.symm.trans (by omega)) (pk.1) (fun h162 frh162 w163 xp164 => ?_))
                have gh162 : my_fr [(10, 7), (10, 8), (10, 27), (66, -1), (67, -1), (68, -1), (69, -1), (70, -1), (71, -1), (72, -1), (73, -1), (74, -1), (75, -1), (77, -1), (78, -1), (79, -1)] h h162 := my_fr.tr gh140 (frh162.mo rfl)
                have Wrd_h162 : Wrd h162 := Wrd_ag (my_ag.fr frh162 rfl) Wrd_h140
                have Tok_h162 : Tok h162 := Tok_ag (my_ag.fr frh162 rfl) Tok_h140t147
                show wp l rho (d + 4) 185 258 [(2, 151), (0, p88_0), (0, p88_1), (0, p88_2), (0, p88_3), (0, (36 + v9)), (9, 0), (9, 0)] [] h162 Q
                have ag0 : my_ag M3F h140 h162 := my_ag.fr frh162 rfl
                have e27 := xp164
                have e67 : h162 167 6 = h140 167 6 := ag0.at mis_167 rfl
                refine w_aload_n gz_185_258 rfl ?_
                refine w_getX (v := 167) gz_185_259 is_151 rd_10 rfl (by decide) rfl ?_
                refine w_bipush gz_185_262 (by decide) ?_
                refine w_dup2 gz_185_264 rfl rfl ?_
                refine w_iald gz_185_265 is_167 rd_66 (by omega) (by omega) (fun v166 ev166 pv166 qv166 => ?_)
                have zv166 := ev166.trans ((my_fr.at frh162 is_167 rfl).trans ((my_fr.at frh140 is_167 rfl).trans ev9.symm))
                refine w_iconst gz_185_266 (by decide) ?_
                refine w_iadd gz_185_267 ⟨by omega, by omega⟩ ?_
                have hi167 : 0 ≤ (v166 + 1) := by omega
                have hi168 : (v166 + 1) ≤ 6 := by omega
                refine w_iast gz_185_268 is_167 rd_66 (by omega) (by omega) (by omega) (by omega) (fun h169 fh169 => ?_)
                have gh169 : my_fr [(10, 7), (10, 8), (10, 27), (66, -1), (67, -1), (68, -1), (69, -1), (70, -1), (71, -1), (72, -1), (73, -1), (74, -1), (75, -1), (77, -1), (78, -1), (79, -1)] h h169 := my_fr.up gh162 is_167 fh169 rfl
                have Wrd_h169 : Wrd h169 := Wrd_ag (my_ag.up fh169 is_167 rfl) Wrd_h162
                have Tok_h169 : Tok h169 := Tok_ag (my_ag.up fh169 is_167 rfl) Tok_h162
                have Mq_h169t170 : Mq h169 wv := Mq_add mr0 (by omega) pk pk3 ag0 e27 fh169 (by omega) (by omega)
                refine w_aload_n gz_185_269 rfl ?_
                refine w_bipush gz_185_270 (by decide) ?_
                have ce171 : h169 151 7 = (h140 151 7) := ((my_up_role fh169 is_151 is_167 rfl).trans ((my_fr.at frh162 is_151 rfl).trans (rfl : h140 151 7 = h140 151 7)))
                refine w_inv (k := 0) (as := [(0, 59)]) (r := []) (x := 151) (ls0 := [(2, 151), (0, 59)]) gz_185_272 gm_183 rfl is_151 rd_10 rfl rfl rfl rfl rfl (c_Model_takeSign_f0 (d := (d + 2))  (((my_up_role fh169 is_151 is_167 rfl).trans ((my_fr.at frh162 is_151 rfl).trans ev156.symm)).trans (by omega)) Tok_h169 (fun h172 frh172 w173 w174 xp175 Tok_h172t176 => ?_) (fun h177 frh177 w178 w179 w180 xp181 Tok_h177t182 => ?_))
                ·
                  have gh172 : my_fr [(10, 7), (10, 8), (10, 27), (66, -1), (67, -1), (68, -1), (69, -1), (70, -1), (71, -1), (72, -1), (73, -1), (74, -1), (75, -1), (77, -1), (78, -1), (79, -1)] h h172 := my_fr.tr gh169 (frh172.mo rfl)
                  have Wrd_h172 : Wrd h172 := Wrd_ag (my_ag.fr frh172 rfl) Wrd_h169
                  have Mq_h172 : Mq h172 wv := Mq_ag (my_ag.fr frh172 rfl) Mq_h169t170
                  show wp l rho (d + 4) 185 275 [(2, 151), (0, p88_0), (0, p88_1), (0, p88_2), (0, p88_3), (0, (36 + v9)), (9, 0), (9, 0)] [] h172 Q
                  have c183 := (rfl : h172 151 8 = h172 151 8)
                  exact w_vret gz_185_275 gm_185 (k0 h172 (gh172) (by omega) (by omega) (by first | assumption | omega | (subst_vars; omega)) Tok_h172t176 Mq_h172 Wrd_h172)
                ·
                  have gh177 : my_fr [(10, 7), (10, 8), (10, 27), (66, -1), (67, -1), (68, -1), (69, -1), (70, -1), (71, -1), (72, -1), (73, -1), (74, -1), (75, -1), (77, -1), (78, -1), (79, -1)] h h177 := my_fr.tr gh169 (frh177.mo rfl)
                  have Wrd_h177 : Wrd h177 := Wrd_ag (my_ag.fr frh177 rfl) Wrd_h169
                  have Mq_h177 : Mq h177 wv := Mq_ag (my_ag.fr frh177 rfl) Mq_h169t170
                  show wp l rho (d + 4) 185 275 [(2, 151), (0, p88_0), (0, p88_1), (0, p88_2), (0, p88_3), (0, (36 + v9)), (9, 0), (9, 0)] [] h177 Q
                  have ce184 : h177 151 7 = (h177 151 7) := (rfl : h177 151 7 = h177 151 7)
                  have c185 := (rfl : h177 151 7 = h177 151 7)
                  have c186 := w180
                  exact w_vret gz_185_275 gm_185 (k1 h177 (gh177) (by omega) (by omega) (by omega) (by first | assumption | omega | (subst_vars; omega)) Tok_h177t182 Mq_h177 Wrd_h177)
          ·
            refine w_aload_n gz_185_148 rfl ?_
            refine w_iload gz_185_149 rfl ?_
            have ce187 : h6 151 7 = (v3 + 1) := (my_up_self fh6)
            have hi188 : 36 ≤ (36 + v9) := by omega
            have hi189 : (36 + v9) ≤ 41 := by omega
            refine w_inv (k := 1) (as := [(0, (36 + v9))]) (r := []) (x := 151) (ls0 := [(2, 151), (0, (36 + v9)), (9, 0)]) gz_185_151 gm_189 rfl is_151 rd_10 rfl rfl rfl rfl rfl (c_Model_readJoin_f0 (d := d) (x1 := (36 + v9)) (wv := wv) (by omega) (by omega) (((my_up_fld fh6 (by decide)).trans ev1.symm).trans (by omega)) (by first | assumption | omega) (by first | assumption | omega) Tok_h6t7 Mq_h6 (by first | assumption | omega | (subst_vars; omega)) (fun h190 frh190 w191 w192 xp193 Tok_h190t194 Mq_h190t195 => ?_) (fun h196 frh196 w197 w198 w199 xp200 xp201 xp202 Tok_h196t203 Mq_h196t204 => ?_))
            ·
              have gh190 : my_fr [(10, 7), (10, 8), (10, 27), (66, -1), (67, -1), (68, -1), (69, -1), (70, -1), (71, -1), (72, -1), (73, -1), (74, -1), (75, -1), (77, -1), (78, -1), (79, -1)] h h190 := my_fr.tr gh6 (frh190.mo rfl)
              have Wrd_h190 : Wrd h190 := Wrd_ag (my_ag.fr frh190 rfl) Wrd_h6
              show wp l rho (d + 4) 185 154 [(2, 151), (0, p88_0), (0, p88_1), (0, p88_2), (0, p88_3), (0, (36 + v9)), (9, 0), (9, 0)] [] h190 Q
              have pk := xp193
              refine w_goto (t := 228) gz_185_154 rfl ?_
              refine w_aload_n gz_185_228 rfl ?_
              refine v_getI (j := 8) gz_185_229 rfl is_151 rd_10 rfl (fun v205 ev205 pv205 qv205 => ?_)
              have zv205 := ev205.trans (rfl : h190 151 8 = h190 151 8)
              refine w_ifne (t := 269) gz_185_232 rfl (fun u206 => ?_) (fun u206 => by exfalso; omega)
              refine w_aload_n gz_185_269 rfl ?_
              refine w_bipush gz_185_270 (by decide) ?_
              refine w_inv (k := 0) (as := [(0, 59)]) (r := []) (x := 151) (ls0 := [(2, 151), (0, 59)]) gz_185_272 gm_183 rfl is_151 rd_10 rfl rfl rfl rfl rfl (c_Model_takeSign_f1 (d := (d + 2))  (v205) (ev205.symm) (by omega) (by omega) Tok_h190t194 (fun w207 w208 xp209 Tok_h190t210 => ?_))
              show wp l rho (d + 4) 185 275 [(2, 151), (0, p88_0), (0, p88_1), (0, p88_2), (0, p88_3), (0, (36 + v9)), (9, 0), (9, 0)] [] h190 Q
              have c211 := ev205.symm
              exact w_vret gz_185_275 gm_185 (k0 h190 (gh190) (by omega) (by omega) (by first | assumption | omega | (subst_vars; omega)) Tok_h190t210 Mq_h190t195 Wrd_h190)
            ·
              have gh196 : my_fr [(10, 7), (10, 8), (10, 27), (66, -1), (67, -1), (68, -1), (69, -1), (70, -1), (71, -1), (72, -1), (73, -1), (74, -1), (75, -1), (77, -1), (78, -1), (79, -1)] h h196 := my_fr.tr gh6 (frh196.mo rfl)
              have Wrd_h196 : Wrd h196 := Wrd_ag (my_ag.fr frh196 rfl) Wrd_h6
              show wp l rho (d + 4) 185 154 [(2, 151), (0, p88_0), (0, p88_1), (0, p88_2), (0, p88_3), (0, (36 + v9)), (9, 0), (9, 0)] [] h196 Q
              have pk := xp200
              have pk3 := xp201
              refine w_goto (t := 228) gz_185_154 rfl ?_
              refine w_aload_n gz_185_228 rfl ?_
              refine v_getI (j := 8) gz_185_229 rfl is_151 rd_10 rfl (fun v212 ev212 pv212 qv212 => ?_)
              have zv212 := ev212.trans w199
              refine w_ifne (t := 269) gz_185_232 rfl (fun u213 => by exfalso; omega) (fun u213 => ?_)
              refine w_iload_n gz_185_235 rfl ?_
              refine w_ifne (t := 252) gz_185_236 rfl (fun u214 => by exfalso; omega) (fun u214 => ?_)
              refine w_iload_n gz_185_239 rfl ?_
              refine w_ifne (t := 252) gz_185_240 rfl (fun u215 => by exfalso; omega) (fun u215 => ?_)
              refine w_iload_n gz_185_243 rfl ?_
              refine w_ifne (t := 252) gz_185_244 rfl (fun u216 => ?_) (fun u216 => by exfalso; omega)
              refine w_aload_n gz_185_252 rfl ?_
              refine w_iload gz_185_253 rfl ?_
              have d167 : ∀ j : Int, h196 167 j = h88_0 167 j := fun j => ((my_fr.at frh196 is_167 rfl).trans ((my_up_role fh6 is_167 is_151 rfl).trans (rfl : h88_0 167 j = h88_0 167 j)))
              have d6 := d167 6
              have mr0 := Mq_h196t204
              refine w_inv (k := 1) (as := [(0, (36 + v9))]) (r := []) (x := 151) (ls0 := [(2, 151), (0, (36 + v9)), (9, 0)]) gz_185_255 gm_182 rfl is_151 rd_10 rfl rfl rfl rfl rfl (c_Model_pane_f0 (d := (d + 3)) (x1 := (36 + v9)) (by omega) (by omega) (ev212.symm.trans (by omega)) (pk.1) (fun h217 frh217 w218 xp219 => ?_))
              have gh217 : my_fr [(10, 7), (10, 8), (10, 27), (66, -1), (67, -1), (68, -1), (69, -1), (70, -1), (71, -1), (72, -1), (73, -1), (74, -1), (75, -1), (77, -1), (78, -1), (79, -1)] h h217 := my_fr.tr gh196 (frh217.mo rfl)
              have Wrd_h217 : Wrd h217 := Wrd_ag (my_ag.fr frh217 rfl) Wrd_h196
              have Tok_h217 : Tok h217 := Tok_ag (my_ag.fr frh217 rfl) Tok_h196t203
              show wp l rho (d + 4) 185 258 [(2, 151), (0, p88_0), (0, p88_1), (0, p88_2), (0, p88_3), (0, (36 + v9)), (9, 0), (9, 0)] [] h217 Q
              have ag0 : my_ag M3F h196 h217 := my_ag.fr frh217 rfl
              have e27 := xp219
              have e67 : h217 167 6 = h196 167 6 := ag0.at mis_167 rfl
              refine w_aload_n gz_185_258 rfl ?_
              refine w_getX (v := 167) gz_185_259 is_151 rd_10 rfl (by decide) rfl ?_
              refine w_bipush gz_185_262 (by decide) ?_
              refine w_dup2 gz_185_264 rfl rfl ?_
              refine w_iald gz_185_265 is_167 rd_66 (by omega) (by omega) (fun v221 ev221 pv221 qv221 => ?_)
              have zv221 := ev221.trans ((my_fr.at frh217 is_167 rfl).trans ((my_fr.at frh196 is_167 rfl).trans ev9.symm))
              refine w_iconst gz_185_266 (by decide) ?_
              refine w_iadd gz_185_267 ⟨by omega, by omega⟩ ?_
              have hi222 : 0 ≤ (v221 + 1) := by omega
              have hi223 : (v221 + 1) ≤ 6 := by omega
              refine w_iast gz_185_268 is_167 rd_66 (by omega) (by omega) (by omega) (by omega) (fun h224 fh224 => ?_)
              have gh224 : my_fr [(10, 7), (10, 8), (10, 27), (66, -1), (67, -1), (68, -1), (69, -1), (70, -1), (71, -1), (72, -1), (73, -1), (74, -1), (75, -1), (77, -1), (78, -1), (79, -1)] h h224 := my_fr.up gh217 is_167 fh224 rfl
              have Wrd_h224 : Wrd h224 := Wrd_ag (my_ag.up fh224 is_167 rfl) Wrd_h217
              have Tok_h224 : Tok h224 := Tok_ag (my_ag.up fh224 is_167 rfl) Tok_h217
              have Mq_h224t225 : Mq h224 wv := Mq_add mr0 (by omega) pk pk3 ag0 e27 fh224 (by omega) (by omega)
              refine w_aload_n gz_185_269 rfl ?_
              refine w_bipush gz_185_270 (by decide) ?_
              have ce226 : h224 151 7 = (h196 151 7) := ((my_up_role fh224 is_151 is_167 rfl).trans ((my_fr.at frh217 is_151 rfl).trans (rfl : h196 151 7 = h196 151 7)))
              refine w_inv (k := 0) (as := [(0, 59)]) (r := []) (x := 151) (ls0 := [(2, 151), (0, 59)]) gz_185_272 gm_183 rfl is_151 rd_10 rfl rfl rfl rfl rfl (c_Model_takeSign_f0 (d := (d + 2))  (((my_up_role fh224 is_151 is_167 rfl).trans ((my_fr.at frh217 is_151 rfl).trans ev212.symm)).trans (by omega)) Tok_h224 (fun h227 frh227 w228 w229 xp230 Tok_h227t231 => ?_) (fun h232 frh232 w233 w234 w235 xp236 Tok_h232t237 => ?_))
              ·
                have gh227 : my_fr [(10, 7), (10, 8), (10, 27), (66, -1), (67, -1), (68, -1), (69, -1), (70, -1), (71, -1), (72, -1), (73, -1), (74, -1), (75, -1), (77, -1), (78, -1), (79, -1)] h h227 := my_fr.tr gh224 (frh227.mo rfl)
                have Wrd_h227 : Wrd h227 := Wrd_ag (my_ag.fr frh227 rfl) Wrd_h224
                have Mq_h227 : Mq h227 wv := Mq_ag (my_ag.fr frh227 rfl) Mq_h224t225
                show wp l rho (d + 4) 185 275 [(2, 151), (0, p88_0), (0, p88_1), (0, p88_2), (0, p88_3), (0, (36 + v9)), (9, 0), (9, 0)] [] h227 Q
                have c238 := (rfl : h227 151 8 = h227 151 8)
                exact w_vret gz_185_275 gm_185 (k0 h227 (gh227) (by omega) (by omega) (by first | assumption | omega | (subst_vars; omega)) Tok_h227t231 Mq_h227 Wrd_h227)
              ·
                have gh232 : my_fr [(10, 7), (10, 8), (10, 27), (66, -1), (67, -1), (68, -1), (69, -1), (70, -1), (71, -1), (72, -1), (73, -1), (74, -1), (75, -1), (77, -1), (78, -1), (79, -1)] h h232 := my_fr.tr gh224 (frh232.mo rfl)
                have Wrd_h232 : Wrd h232 := Wrd_ag (my_ag.fr frh232 rfl) Wrd_h224
                have Mq_h232 : Mq h232 wv := Mq_ag (my_ag.fr frh232 rfl) Mq_h224t225
                show wp l rho (d + 4) 185 275 [(2, 151), (0, p88_0), (0, p88_1), (0, p88_2), (0, p88_3), (0, (36 + v9)), (9, 0), (9, 0)] [] h232 Q
                have ce239 : h232 151 7 = (h232 151 7) := (rfl : h232 151 7 = h232 151 7)
                have c240 := (rfl : h232 151 7 = h232 151 7)
                have c241 := w235
                exact w_vret gz_185_275 gm_185 (k1 h232 (gh232) (by omega) (by omega) (by omega) (by first | assumption | omega | (subst_vars; omega)) Tok_h232t237 Mq_h232 Wrd_h232)
        ·
          refine w_aload_n gz_185_135 rfl ?_
          refine w_iload gz_185_136 rfl ?_
          have ce242 : h6 151 7 = (v3 + 1) := (my_up_self fh6)
          have hi243 : 36 ≤ (36 + v9) := by omega
          have hi244 : (36 + v9) ≤ 41 := by omega
          refine w_inv (k := 3) (as := [(0, (36 + v9))]) (r := []) (x := 151) (ls0 := [(2, 151), (0, (36 + v9)), (9, 0), (9, 0), (9, 0)]) gz_185_138 gm_188 rfl is_151 rd_10 rfl rfl rfl rfl rfl (c_Model_readFew_f0 (d := (d + 1)) (x1 := (36 + v9)) (wv := wv) (by omega) (by omega) (((my_up_fld fh6 (by decide)).trans ev1.symm).trans (by omega)) (by first | assumption | omega) (by first | assumption | omega) Tok_h6t7 Mq_h6 (by first | assumption | omega | (subst_vars; omega)) (fun h245 frh245 xp246 xp247 xp248 Tok_h245t249 Mq_h245t250 => ?_))
          have gh245 : my_fr [(10, 7), (10, 8), (10, 27), (66, -1), (67, -1), (68, -1), (69, -1), (70, -1), (71, -1), (72, -1), (73, -1), (74, -1), (75, -1), (77, -1), (78, -1), (79, -1)] h h245 := my_fr.tr gh6 (frh245.mo rfl)
          have Wrd_h245 : Wrd h245 := Wrd_ag (my_ag.fr frh245 rfl) Wrd_h6
          show wp l rho (d + 4) 185 141 [(2, 151), (0, p88_0), (0, p88_1), (0, p88_2), (0, p88_3), (0, (36 + v9)), (9, 0), (9, 0)] [] h245 Q
          have pk := xp246
          have pk3 := xp247
          refine w_goto (t := 228) gz_185_141 rfl ?_
          refine w_aload_n gz_185_228 rfl ?_
          refine v_getI (j := 8) gz_185_229 rfl is_151 rd_10 rfl (fun v251 ev251 pv251 qv251 => ?_)
          refine w_ifne (t := 269) gz_185_232 rfl (fun u252 => ?_) (fun u252 => ?_)
          ·
            refine w_aload_n gz_185_269 rfl ?_
            refine w_bipush gz_185_270 (by decide) ?_
            refine w_inv (k := 0) (as := [(0, 59)]) (r := []) (x := 151) (ls0 := [(2, 151), (0, 59)]) gz_185_272 gm_183 rfl is_151 rd_10 rfl rfl rfl rfl rfl (c_Model_takeSign_f1 (d := (d + 2))  (v251) (ev251.symm) (by omega) (by omega) Tok_h245t249 (fun w253 w254 xp255 Tok_h245t256 => ?_))
            show wp l rho (d + 4) 185 275 [(2, 151), (0, p88_0), (0, p88_1), (0, p88_2), (0, p88_3), (0, (36 + v9)), (9, 0), (9, 0)] [] h245 Q
            have c257 := ev251.symm
            exact w_vret gz_185_275 gm_185 (k0 h245 (gh245) (by omega) (by omega) (by first | assumption | omega | (subst_vars; omega)) Tok_h245t256 Mq_h245t250 Wrd_h245)
          ·
            refine w_iload_n gz_185_235 rfl ?_
            refine w_ifne (t := 252) gz_185_236 rfl (fun u258 => by exfalso; omega) (fun u258 => ?_)
            refine w_iload_n gz_185_239 rfl ?_
            refine w_ifne (t := 252) gz_185_240 rfl (fun u259 => ?_) (fun u259 => by exfalso; omega)
            refine w_aload_n gz_185_252 rfl ?_
            refine w_iload gz_185_253 rfl ?_
            have d167 : ∀ j : Int, h245 167 j = h88_0 167 j := fun j => ((my_fr.at frh245 is_167 rfl).trans ((my_up_role fh6 is_167 is_151 rfl).trans (rfl : h88_0 167 j = h88_0 167 j)))
            have d6 := d167 6
            have mr0 := Mq_h245t250
            refine w_inv (k := 1) (as := [(0, (36 + v9))]) (r := []) (x := 151) (ls0 := [(2, 151), (0, (36 + v9)), (9, 0)]) gz_185_255 gm_182 rfl is_151 rd_10 rfl rfl rfl rfl rfl (c_Model_pane_f0 (d := (d + 3)) (x1 := (36 + v9)) (by omega) (by omega) (ev251.symm.trans (by omega)) (pk.1) (fun h260 frh260 w261 xp262 => ?_))
            have gh260 : my_fr [(10, 7), (10, 8), (10, 27), (66, -1), (67, -1), (68, -1), (69, -1), (70, -1), (71, -1), (72, -1), (73, -1), (74, -1), (75, -1), (77, -1), (78, -1), (79, -1)] h h260 := my_fr.tr gh245 (frh260.mo rfl)
            have Wrd_h260 : Wrd h260 := Wrd_ag (my_ag.fr frh260 rfl) Wrd_h245
            have Tok_h260 : Tok h260 := Tok_ag (my_ag.fr frh260 rfl) Tok_h245t249
            show wp l rho (d + 4) 185 258 [(2, 151), (0, p88_0), (0, p88_1), (0, p88_2), (0, p88_3), (0, (36 + v9)), (9, 0), (9, 0)] [] h260 Q
            have ag0 : my_ag M3F h245 h260 := my_ag.fr frh260 rfl
            have e27 := xp262
            have e67 : h260 167 6 = h245 167 6 := ag0.at mis_167 rfl
            refine w_aload_n gz_185_258 rfl ?_
            refine w_getX (v := 167) gz_185_259 is_151 rd_10 rfl (by decide) rfl ?_
            refine w_bipush gz_185_262 (by decide) ?_
            refine w_dup2 gz_185_264 rfl rfl ?_
            refine w_iald gz_185_265 is_167 rd_66 (by omega) (by omega) (fun v264 ev264 pv264 qv264 => ?_)
            have zv264 := ev264.trans ((my_fr.at frh260 is_167 rfl).trans ((my_fr.at frh245 is_167 rfl).trans ev9.symm))
            refine w_iconst gz_185_266 (by decide) ?_
            refine w_iadd gz_185_267 ⟨by omega, by omega⟩ ?_
            have hi265 : 0 ≤ (v264 + 1) := by omega
            have hi266 : (v264 + 1) ≤ 6 := by omega
            refine w_iast gz_185_268 is_167 rd_66 (by omega) (by omega) (by omega) (by omega) (fun h267 fh267 => ?_)
            have gh267 : my_fr [(10, 7), (10, 8), (10, 27), (66, -1), (67, -1), (68, -1), (69, -1), (70, -1), (71, -1), (72, -1), (73, -1), (74, -1), (75, -1), (77, -1), (78, -1), (79, -1)] h h267 := my_fr.up gh260 is_167 fh267 rfl
            have Wrd_h267 : Wrd h267 := Wrd_ag (my_ag.up fh267 is_167 rfl) Wrd_h260
            have Tok_h267 : Tok h267 := Tok_ag (my_ag.up fh267 is_167 rfl) Tok_h260
            have Mq_h267t268 : Mq h267 wv := Mq_add mr0 (by omega) pk pk3 ag0 e27 fh267 (by omega) (by omega)
            refine w_aload_n gz_185_269 rfl ?_
            refine w_bipush gz_185_270 (by decide) ?_
            have ce269 : h267 151 7 = h245 151 7 := ((my_up_role fh267 is_151 is_167 rfl).trans ((my_fr.at frh260 is_151 rfl).trans (rfl : h245 151 7 = h245 151 7)))
            refine w_inv (k := 0) (as := [(0, 59)]) (r := []) (x := 151) (ls0 := [(2, 151), (0, 59)]) gz_185_272 gm_183 rfl is_151 rd_10 rfl rfl rfl rfl rfl (c_Model_takeSign_f0 (d := (d + 2))  (((my_up_role fh267 is_151 is_167 rfl).trans ((my_fr.at frh260 is_151 rfl).trans ev251.symm)).trans (by omega)) Tok_h267 (fun h270 frh270 w271 w272 xp273 Tok_h270t274 => ?_) (fun h275 frh275 w276 w277 w278 xp279 Tok_h275t280 => ?_))
            ·
              have gh270 : my_fr [(10, 7), (10, 8), (10, 27), (66, -1), (67, -1), (68, -1), (69, -1), (70, -1), (71, -1), (72, -1), (73, -1), (74, -1), (75, -1), (77, -1), (78, -1), (79, -1)] h h270 := my_fr.tr gh267 (frh270.mo rfl)
              have Wrd_h270 : Wrd h270 := Wrd_ag (my_ag.fr frh270 rfl) Wrd_h267
              have Mq_h270 : Mq h270 wv := Mq_ag (my_ag.fr frh270 rfl) Mq_h267t268
              show wp l rho (d + 4) 185 275 [(2, 151), (0, p88_0), (0, p88_1), (0, p88_2), (0, p88_3), (0, (36 + v9)), (9, 0), (9, 0)] [] h270 Q
              have c281 := (rfl : h270 151 8 = h270 151 8)
              exact w_vret gz_185_275 gm_185 (k0 h270 (gh270) (by omega) (by omega) (by first | assumption | omega | (subst_vars; omega)) Tok_h270t274 Mq_h270 Wrd_h270)
            ·
              have gh275 : my_fr [(10, 7), (10, 8), (10, 27), (66, -1), (67, -1), (68, -1), (69, -1), (70, -1), (71, -1), (72, -1), (73, -1), (74, -1), (75, -1), (77, -1), (78, -1), (79, -1)] h h275 := my_fr.tr gh267 (frh275.mo rfl)
              have Wrd_h275 : Wrd h275 := Wrd_ag (my_ag.fr frh275 rfl) Wrd_h267
              have Mq_h275 : Mq h275 wv := Mq_ag (my_ag.fr frh275 rfl) Mq_h267t268
              show wp l rho (d + 4) 185 275 [(2, 151), (0, p88_0), (0, p88_1), (0, p88_2), (0, p88_3), (0, (36 + v9)), (9, 0), (9, 0)] [] h275 Q
              have ce282 : h275 151 7 = (h275 151 7) := (rfl : h275 151 7 = h275 151 7)
              have c283 := (rfl : h275 151 7 = h275 151 7)
              have c284 := w278
              exact w_vret gz_185_275 gm_185 (k1 h275 (gh275) (by omega) (by omega) (by omega) (by first | assumption | omega | (subst_vars; omega)) Tok_h275t280 Mq_h275 Wrd_h275)
      ·
        refine w_aload_n gz_185_122 rfl ?_
        refine w_iload gz_185_123 rfl ?_
        have ce285 : h6 151 7 = (v3 + 1) := (my_up_self fh6)
        have hi286 : 36 ≤ (36 + v9) := by omega
        have hi287 : (36 + v9) ≤ 41 := by omega
        refine w_inv (k := 2) (as := [(0, (36 + v9))]) (r := []) (x := 151) (ls0 := [(2, 151), (0, (36 + v9)), (9, 0), (9, 0)]) gz_185_125 gm_186 rfl is_151 rd_10 rfl rfl rfl rfl rfl (c_Model_readCut2_f0 (d := (d + 1)) (x1 := (36 + v9)) (wv := wv) (by omega) (by omega) (((my_up_fld fh6 (by decide)).trans ev1.symm).trans (by omega)) (by first | assumption | omega) (by first | assumption | omega) Tok_h6t7 Mq_h6 (by first | assumption | omega | (subst_vars; omega)) (fun h288 frh288 w289 w290 xp291 Tok_h288t292 Mq_h288t293 => ?_) (fun h294 frh294 w295 w296 w297 xp298 xp299 xp300 Tok_h294t301 Mq_h294t302 => ?_))
        ·
          have gh288 : my_fr [(10, 7), (10, 8), (10, 27), (66, -1), (67, -1), (68, -1), (69, -1), (70, -1), (71, -1), (72, -1), (73, -1), (74, -1), (75, -1), (77, -1), (78, -1), (79, -1)] h h288 := my_fr.tr gh6 (frh288.mo rfl)
          have Wrd_h288 : Wrd h288 := Wrd_ag (my_ag.fr frh288 rfl) Wrd_h6
          show wp l rho (d + 4) 185 128 [(2, 151), (0, p88_0), (0, p88_1), (0, p88_2), (0, p88_3), (0, (36 + v9)), (9, 0), (9, 0)] [] h288 Q
          have pk := xp291
          refine w_goto (t := 228) gz_185_128 rfl ?_
          refine w_aload_n gz_185_228 rfl ?_
          refine v_getI (j := 8) gz_185_229 rfl is_151 rd_10 rfl (fun v303 ev303 pv303 qv303 => ?_)
          have zv303 := ev303.trans (rfl : h288 151 8 = h288 151 8)
          refine w_ifne (t := 269) gz_185_232 rfl (fun u304 => ?_) (fun u304 => by exfalso; omega)
          refine w_aload_n gz_185_269 rfl ?_
          refine w_bipush gz_185_270 (by decide) ?_
          refine w_inv (k := 0) (as := [(0, 59)]) (r := []) (x := 151) (ls0 := [(2, 151), (0, 59)]) gz_185_272 gm_183 rfl is_151 rd_10 rfl rfl rfl rfl rfl (c_Model_takeSign_f1 (d := (d + 2))  (v303) (ev303.symm) (by omega) (by omega) Tok_h288t292 (fun w305 w306 xp307 Tok_h288t308 => ?_))
          show wp l rho (d + 4) 185 275 [(2, 151), (0, p88_0), (0, p88_1), (0, p88_2), (0, p88_3), (0, (36 + v9)), (9, 0), (9, 0)] [] h288 Q
          have c309 := ev303.symm
          exact w_vret gz_185_275 gm_185 (k0 h288 (gh288) (by omega) (by omega) (by first | assumption | omega | (subst_vars; omega)) Tok_h288t308 Mq_h288t293 Wrd_h288)
        ·
          have gh294 : my_fr [(10, 7), (10, 8), (10, 27), (66, -1), (67, -1), (68, -1), (69, -1), (70, -1), (71, -1), (72, -1), (73, -1), (74, -1), (75, -1), (77, -1), (78, -1), (79, -1)] h h294 := my_fr.tr gh6 (frh294.mo rfl)
          have Wrd_h294 : Wrd h294 := Wrd_ag (my_ag.fr frh294 rfl) Wrd_h6
          show wp l rho (d + 4) 185 128 [(2, 151), (0, p88_0), (0, p88_1), (0, p88_2), (0, p88_3), (0, (36 + v9)), (9, 0), (9, 0)] [] h294 Q
          have pk := xp298
          have pk3 := xp299
          refine w_goto (t := 228) gz_185_128 rfl ?_
          refine w_aload_n gz_185_228 rfl ?_
          refine v_getI (j := 8) gz_185_229 rfl is_151 rd_10 rfl (fun v310 ev310 pv310 qv310 => ?_)
          have zv310 := ev310.trans w297
          refine w_ifne (t := 269) gz_185_232 rfl (fun u311 => by exfalso; omega) (fun u311 => ?_)
          refine w_iload_n gz_185_235 rfl ?_
          refine w_ifne (t := 252) gz_185_236 rfl (fun u312 => ?_) (fun u312 => by exfalso; omega)
          refine w_aload_n gz_185_252 rfl ?_
          refine w_iload gz_185_253 rfl ?_
          have d167 : ∀ j : Int, h294 167 j = h88_0 167 j := fun j => ((my_fr.at frh294 is_167 rfl).trans ((my_up_role fh6 is_167 is_151 rfl).trans (rfl : h88_0 167 j = h88_0 167 j)))
          have d6 := d167 6
          have mr0 := Mq_h294t302
          refine w_inv (k := 1) (as := [(0, (36 + v9))]) (r := []) (x := 151) (ls0 := [(2, 151), (0, (36 + v9)), (9, 0)]) gz_185_255 gm_182 rfl is_151 rd_10 rfl rfl rfl rfl rfl (c_Model_pane_f0 (d := (d + 3)) (x1 := (36 + v9)) (by omega) (by omega) (ev310.symm.trans (by omega)) (pk.1) (fun h313 frh313 w314 xp315 => ?_))
          have gh313 : my_fr [(10, 7), (10, 8), (10, 27), (66, -1), (67, -1), (68, -1), (69, -1), (70, -1), (71, -1), (72, -1), (73, -1), (74, -1), (75, -1), (77, -1), (78, -1), (79, -1)] h h313 := my_fr.tr gh294 (frh313.mo rfl)
          have Wrd_h313 : Wrd h313 := Wrd_ag (my_ag.fr frh313 rfl) Wrd_h294
          have Tok_h313 : Tok h313 := Tok_ag (my_ag.fr frh313 rfl) Tok_h294t301
          show wp l rho (d + 4) 185 258 [(2, 151), (0, p88_0), (0, p88_1), (0, p88_2), (0, p88_3), (0, (36 + v9)), (9, 0), (9, 0)] [] h313 Q
          have ag0 : my_ag M3F h294 h313 := my_ag.fr frh313 rfl
          have e27 := xp315
          have e67 : h313 167 6 = h294 167 6 := ag0.at mis_167 rfl
          refine w_aload_n gz_185_258 rfl ?_
          refine w_getX (v := 167) gz_185_259 is_151 rd_10 rfl (by decide) rfl ?_
          refine w_bipush gz_185_262 (by decide) ?_
          refine w_dup2 gz_185_264 rfl rfl ?_
          refine w_iald gz_185_265 is_167 rd_66 (by omega) (by omega) (fun v317 ev317 pv317 qv317 => ?_)
          have zv317 := ev317.trans ((my_fr.at frh313 is_167 rfl).trans ((my_fr.at frh294 is_167 rfl).trans ev9.symm))
          refine w_iconst gz_185_266 (by decide) ?_
          refine w_iadd gz_185_267 ⟨by omega, by omega⟩ ?_
          have hi318 : 0 ≤ (v317 + 1) := by omega
          have hi319 : (v317 + 1) ≤ 6 := by omega
          refine w_iast gz_185_268 is_167 rd_66 (by omega) (by omega) (by omega) (by omega) (fun h320 fh320 => ?_)
          have gh320 : my_fr [(10, 7), (10, 8), (10, 27), (66, -1), (67, -1), (68, -1), (69, -1), (70, -1), (71, -1), (72, -1), (73, -1), (74, -1), (75, -1), (77, -1), (78, -1), (79, -1)] h h320 := my_fr.up gh313 is_167 fh320 rfl
          have Wrd_h320 : Wrd h320 := Wrd_ag (my_ag.up fh320 is_167 rfl) Wrd_h313
          have Tok_h320 : Tok h320 := Tok_ag (my_ag.up fh320 is_167 rfl) Tok_h313
          have Mq_h320t321 : Mq h320 wv := Mq_add mr0 (by omega) pk pk3 ag0 e27 fh320 (by omega) (by omega)
          refine w_aload_n gz_185_269 rfl ?_
          refine w_bipush gz_185_270 (by decide) ?_
          have ce322 : h320 151 7 = (h294 151 7) := ((my_up_role fh320 is_151 is_167 rfl).trans ((my_fr.at frh313 is_151 rfl).trans (rfl : h294 151 7 = h294 151 7)))
          refine w_inv (k := 0) (as := [(0, 59)]) (r := []) (x := 151) (ls0 := [(2, 151), (0, 59)]) gz_185_272 gm_183 rfl is_151 rd_10 rfl rfl rfl rfl rfl (c_Model_takeSign_f0 (d := (d + 2))  (((my_up_role fh320 is_151 is_167 rfl).trans ((my_fr.at frh313 is_151 rfl).trans ev310.symm)).trans (by omega)) Tok_h320 (fun h323 frh323 w324 w325 xp326 Tok_h323t327 => ?_) (fun h328 frh328 w329 w330 w331 xp332 Tok_h328t333 => ?_))
          ·
            have gh323 : my_fr [(10, 7), (10, 8), (10, 27), (66, -1), (67, -1), (68, -1), (69, -1), (70, -1), (71, -1), (72, -1), (73, -1), (74, -1), (75, -1), (77, -1), (78, -1), (79, -1)] h h323 := my_fr.tr gh320 (frh323.mo rfl)
            have Wrd_h323 : Wrd h323 := Wrd_ag (my_ag.fr frh323 rfl) Wrd_h320
            have Mq_h323 : Mq h323 wv := Mq_ag (my_ag.fr frh323 rfl) Mq_h320t321
            show wp l rho (d + 4) 185 275 [(2, 151), (0, p88_0), (0, p88_1), (0, p88_2), (0, p88_3), (0, (36 + v9)), (9, 0), (9, 0)] [] h323 Q
            have c334 := (rfl : h323 151 8 = h323 151 8)
            exact w_vret gz_185_275 gm_185 (k0 h323 (gh323) (by omega) (by omega) (by first | assumption | omega | (subst_vars; omega)) Tok_h323t327 Mq_h323 Wrd_h323)
          ·
            have gh328 : my_fr [(10, 7), (10, 8), (10, 27), (66, -1), (67, -1), (68, -1), (69, -1), (70, -1), (71, -1), (72, -1), (73, -1), (74, -1), (75, -1), (77, -1), (78, -1), (79, -1)] h h328 := my_fr.tr gh320 (frh328.mo rfl)
            have Wrd_h328 : Wrd h328 := Wrd_ag (my_ag.fr frh328 rfl) Wrd_h320
            have Mq_h328 : Mq h328 wv := Mq_ag (my_ag.fr frh328 rfl) Mq_h320t321
            show wp l rho (d + 4) 185 275 [(2, 151), (0, p88_0), (0, p88_1), (0, p88_2), (0, p88_3), (0, (36 + v9)), (9, 0), (9, 0)] [] h328 Q
            have ce335 : h328 151 7 = (h328 151 7) := (rfl : h328 151 7 = h328 151 7)
            have c336 := (rfl : h328 151 7 = h328 151 7)
            have c337 := w331
            exact w_vret gz_185_275 gm_185 (k1 h328 (gh328) (by omega) (by omega) (by omega) (by first | assumption | omega | (subst_vars; omega)) Tok_h328t333 Mq_h328 Wrd_h328)
    ·
      have ce338 : h88_0 151 7 = k151_7 := c151_7_88_0
      have c339 := ev1.symm
      exact w_vret gz_185_95 gm_185 (k0 h88_0 (gh_88_0) (by omega) (by omega) (by first | assumption | omega | (subst_vars; omega)) n_Tok_88_0 n_Mq_88_0 n_Wrd_88_0)
  refine w_aload_n gz_185_0 rfl ?_
  refine w_iconst gz_185_1 (by decide) ?_
  refine w_inv (k := 0) (as := [(0, 3)]) (r := []) (x := 151) (ls0 := [(2, 151), (0, 3)]) gz_185_2 gm_177 rfl is_151 rd_10 rfl rfl rfl rfl rfl (c_Model_isWord_f0 (d := (d + 3)) (x1 := 3) (by omega) (by omega) (cf.trans (by omega)) (fun w340 => ?_) (fun w341 xp342 xp343 xp344 => ?_))
  ·
    show wp l rho (d + 4) 185 5 [(2, 151), (9, 0), (9, 0), (9, 0), (9, 0), (9, 0), (9, 0), (9, 0)] [(0, 0)] h Q
    refine w_istore_n (ls' := [(2, 151), (0, 0), (9, 0), (9, 0), (9, 0), (9, 0), (9, 0), (9, 0)]) gz_185_5 gm_185 rfl rfl rfl ?_
    refine w_aload_n gz_185_6 rfl ?_
    refine w_bipush gz_185_7 (by decide) ?_
    refine w_inv (k := 0) (as := [(0, 7)]) (r := []) (x := 151) (ls0 := [(2, 151), (0, 7)]) gz_185_9 gm_177 rfl is_151 rd_10 rfl rfl rfl rfl rfl (c_Model_isWord_f0 (d := (d + 3)) (x1 := 7) (by omega) (by omega) (cf.trans (by omega)) (fun w345 => ?_) (fun w346 xp347 xp348 xp349 => ?_))
    ·
      show wp l rho (d + 4) 185 12 [(2, 151), (0, 0), (9, 0), (9, 0), (9, 0), (9, 0), (9, 0), (9, 0)] [(0, 0)] h Q
      refine w_istore_n (ls' := [(2, 151), (0, 0), (0, 0), (9, 0), (9, 0), (9, 0), (9, 0), (9, 0)]) gz_185_12 gm_185 rfl rfl rfl ?_
      refine w_aload_n gz_185_13 rfl ?_
      refine w_bipush gz_185_14 (by decide) ?_
      refine w_inv (k := 0) (as := [(0, 8)]) (r := []) (x := 151) (ls0 := [(2, 151), (0, 8)]) gz_185_16 gm_177 rfl is_151 rd_10 rfl rfl rfl rfl rfl (c_Model_isWord_f0 (d := (d + 3)) (x1 := 8) (by omega) (by omega) (cf.trans (by omega)) (fun w350 => ?_) (fun w351 xp352 xp353 xp354 => ?_))
      ·
        show wp l rho (d + 4) 185 19 [(2, 151), (0, 0), (0, 0), (9, 0), (9, 0), (9, 0), (9, 0), (9, 0)] [(0, 0)] h Q
        refine w_istore_n (ls' := [(2, 151), (0, 0), (0, 0), (0, 0), (9, 0), (9, 0), (9, 0), (9, 0)]) gz_185_19 gm_185 rfl rfl rfl ?_
        refine w_aload_n gz_185_20 rfl ?_
        refine w_bipush gz_185_21 (by decide) ?_
        refine w_inv (k := 0) (as := [(0, 11)]) (r := []) (x := 151) (ls0 := [(2, 151), (0, 11)]) gz_185_23 gm_177 rfl is_151 rd_10 rfl rfl rfl rfl rfl (c_Model_isWord_f0 (d := (d + 3)) (x1 := 11) (by omega) (by omega) (cf.trans (by omega)) (fun w355 => ?_) (fun w356 xp357 xp358 xp359 => ?_))
        ·
          show wp l rho (d + 4) 185 26 [(2, 151), (0, 0), (0, 0), (0, 0), (9, 0), (9, 0), (9, 0), (9, 0)] [(0, 0)] h Q
          refine w_istore (ls' := [(2, 151), (0, 0), (0, 0), (0, 0), (0, 0), (9, 0), (9, 0), (9, 0)]) gz_185_26 gm_185 rfl rfl rfl ?_
          refine w_iload_n gz_185_28 rfl ?_
          refine w_ifne (t := 62) gz_185_29 rfl (fun u360 => by exfalso; omega) (fun u360 => ?_)
          refine w_iload_n gz_185_32 rfl ?_
          refine w_ifne (t := 62) gz_185_33 rfl (fun u361 => by exfalso; omega) (fun u361 => ?_)
          refine w_iload_n gz_185_36 rfl ?_
          refine w_ifne (t := 62) gz_185_37 rfl (fun u362 => by exfalso; omega) (fun u362 => ?_)
          refine w_iload gz_185_40 rfl ?_
          refine w_ifne (t := 62) gz_185_42 rfl (fun u363 => by exfalso; omega) (fun u363 => ?_)
          refine w_aload_n gz_185_45 rfl ?_
          refine w_bipush gz_185_46 (by decide) ?_
          refine w_inv (k := 0) (as := [(0, 10)]) (r := []) (x := 151) (ls0 := [(2, 151), (0, 10)]) gz_185_48 gm_177 rfl is_151 rd_10 rfl rfl rfl rfl rfl (c_Model_isWord_f0 (d := (d + 3)) (x1 := 10) (by omega) (by omega) (cf.trans (by omega)) (fun w364 => ?_) (fun w365 xp366 xp367 xp368 => ?_))
          ·
            show wp l rho (d + 4) 185 51 [(2, 151), (0, 0), (0, 0), (0, 0), (0, 0), (9, 0), (9, 0), (9, 0)] [(0, 0)] h Q
            refine w_ifne (t := 62) gz_185_51 rfl (fun u369 => by exfalso; omega) (fun u369 => ?_)
            refine w_aload_n gz_185_54 rfl ?_
            refine w_iconst gz_185_55 (by decide) ?_
            refine w_inv (k := 0) (as := [(0, 1)]) (r := []) (x := 151) (ls0 := [(2, 151), (0, 1)]) gz_185_56 gm_178 rfl is_151 rd_10 rfl rfl rfl rfl rfl ?_
            refine w_aload_n gz_178_0 rfl ?_
            refine v_getI (j := 8) gz_178_1 rfl is_151 rd_10 rfl (fun v370 ev370 pv370 qv370 => ?_)
            have zv370 := ev370.trans cf
            refine w_ifne (t := 25) gz_178_4 rfl (fun u371 => by exfalso; omega) (fun u371 => ?_)
            refine w_aload_n gz_178_7 rfl ?_
            refine w_iload_n gz_178_8 rfl ?_
            refine w_bipush gz_178_9 (by decide) ?_
            refine w_aload_n gz_178_11 rfl ?_
            refine w_getX (v := 154) gz_178_12 is_151 rd_10 rfl (by decide) rfl ?_
            refine w_aload_n gz_178_15 rfl ?_
            refine v_getI (j := 7) gz_178_16 rfl is_151 rd_10 rfl (fun v373 ev373 pv373 qv373 => ?_)
            have zv373 := ev373.trans ek151_7.symm
            refine w_iald gz_178_19 is_154 rd_53 (by omega) (by omega) (fun v374 ev374 pv374 qv374 => ?_)
            refine w_imul gz_178_20 ⟨by omega, by omega⟩ ?_
            refine w_iadd gz_178_21 ⟨by omega, by omega⟩ ?_
            refine v_putI (j := 8) gz_178_22 rfl is_151 rd_10 rfl (by omega) (by omega) rfl (fun h375 fh375 => ?_)
            have gh375 : my_fr [(10, 7), (10, 8), (10, 27), (66, -1), (67, -1), (68, -1), (69, -1), (70, -1), (71, -1), (72, -1), (73, -1), (74, -1), (75, -1), (77, -1), (78, -1), (79, -1)] h h375 := my_fr.up my_fr.rf is_151 fh375 rfl
            have Tok_h375 : Tok h375 := Tok_ag (my_ag.up fh375 is_151 rfl) n_Tok
            have Mq_h375 : Mq h375 wv := Mq_ag (my_ag.up fh375 is_151 rfl) n_Mq
            have Wrd_h375 : Wrd h375 := Wrd_ag (my_ag.up fh375 is_151 rfl) n_Wrd
            refine w_vret gz_178_25 gm_178 ?_
            show wp l rho (d + 4) 185 59 [(2, 151), (0, 0), (0, 0), (0, 0), (0, 0), (9, 0), (9, 0), (9, 0)] [] h375 Q
            refine w_goto (t := 88) gz_185_59 rfl ?_
            have ce376 : h375 151 7 = v373 := ((my_up_fld fh375 (by decide)).trans ev373.symm)
            have ce377 : h375 151 8 = (1 + (16 * v374)) := (my_up_self fh375)
            exact J88_0 (0) (0) (0) (0) ((1 + (16 * v374))) h375 (gh375) (by omega) (by omega) (by omega) (by omega) (by omega) (by omega) (by omega) (by omega) (by omega) (by omega) (((my_up_fld fh375 (by decide)).trans ev373.symm).trans (by omega)) ((my_up_self fh375).trans (by omega)) Tok_h375 Mq_h375 Wrd_h375 (by first | (intro q; exfalso; omega) | (intro _; assumption)) (by first | (intro q; exfalso; omega) | (intro _ q; omega) | (intro _ q; exfalso; have w := Wrd_h375; unfold Wrd at w; omega)) (by omega)
          ·
            show wp l rho (d + 4) 185 51 [(2, 151), (0, 0), (0, 0), (0, 0), (0, 0), (9, 0), (9, 0), (9, 0)] [(0, 1)] h Q
            refine w_ifne (t := 62) gz_185_51 rfl (fun u378 => ?_) (fun u378 => by exfalso; omega)
            refine w_aload_n gz_185_62 rfl ?_
            refine w_bipush gz_185_63 (by decide) ?_
            refine w_inv (k := 0) (as := [(0, 10)]) (r := []) (x := 151) (ls0 := [(2, 151), (0, 10)]) gz_185_65 gm_177 rfl is_151 rd_10 rfl rfl rfl rfl rfl (c_Model_isWord_f0 (d := (d + 3)) (x1 := 10) (by omega) (by omega) (cf.trans (by omega)) (fun w379 => ?_) (fun w380 xp381 xp382 xp383 => ?_))
            ·
              show wp l rho (d + 4) 185 68 [(2, 151), (0, 0), (0, 0), (0, 0), (0, 0), (9, 0), (9, 0), (9, 0)] [(0, 0)] h Q
              refine w_ifne (t := 88) gz_185_68 rfl (fun u384 => by exfalso; omega) (fun u384 => ?_)
              refine w_aload_n gz_185_71 rfl ?_
              refine w_getX (v := 167) gz_185_72 is_151 rd_10 rfl (by decide) rfl ?_
              refine w_bipush gz_185_75 (by decide) ?_
              refine w_iald gz_185_77 is_167 rd_66 (by omega) (by omega) (fun v386 ev386 pv386 qv386 => ?_)
              refine w_bipush gz_185_78 (by decide) ?_
              refine w_icne (t := 88) gz_185_80 rfl (fun u387 => ?_) (fun u387 => ?_)
              ·
                have ce388 : h 151 7 = k151_7 := ek151_7.symm
                have ce389 : h 151 8 = 0 := cf
                exact J88_0 (0) (0) (0) (0) (0) h (my_fr.rf) (by omega) (by omega) (by omega) (by omega) (by omega) (by omega) (by omega) (by omega) (by omega) (by omega) (ek151_7.symm.trans (by omega)) (cf.trans (by omega)) n_Tok n_Mq n_Wrd (by first | (intro q; exfalso; omega) | (intro _; assumption)) (by first | (intro q; exfalso; omega) | (intro _ q; omega) | (intro _ q; exfalso; have w := n_Wrd; unfold Wrd at w; omega)) (by omega)
              ·
                refine w_aload_n gz_185_83 rfl ?_
                refine w_iconst gz_185_84 (by decide) ?_
                refine w_inv (k := 0) (as := [(0, 5)]) (r := []) (x := 151) (ls0 := [(2, 151), (0, 5)]) gz_185_85 gm_178 rfl is_151 rd_10 rfl rfl rfl rfl rfl ?_
                refine w_aload_n gz_178_0 rfl ?_
                refine v_getI (j := 8) gz_178_1 rfl is_151 rd_10 rfl (fun v390 ev390 pv390 qv390 => ?_)
                have zv390 := ev390.trans cf
                refine w_ifne (t := 25) gz_178_4 rfl (fun u391 => by exfalso; omega) (fun u391 => ?_)
                refine w_aload_n gz_178_7 rfl ?_
                refine w_iload_n gz_178_8 rfl ?_
                refine w_bipush gz_178_9 (by decide) ?_
                refine w_aload_n gz_178_11 rfl ?_
                refine w_getX (v := 154) gz_178_12 is_151 rd_10 rfl (by decide) rfl ?_
                refine w_aload_n gz_178_15 rfl ?_
                refine v_getI (j := 7) gz_178_16 rfl is_151 rd_10 rfl (fun v393 ev393 pv393 qv393 => ?_)
                have zv393 := ev393.trans ek151_7.symm
                refine w_iald gz_178_19 is_154 rd_53 (by omega) (by omega) (fun v394 ev394 pv394 qv394 => ?_)
                refine w_imul gz_178_20 ⟨by omega, by omega⟩ ?_
                refine w_iadd gz_178_21 ⟨by omega, by omega⟩ ?_
                refine v_putI (j := 8) gz_178_22 rfl is_151 rd_10 rfl (by omega) (by omega) rfl (fun h395 fh395 => ?_)
                have gh395 : my_fr [(10, 7), (10, 8), (10, 27), (66, -1), (67, -1), (68, -1), (69, -1), (70, -1), (71, -1), (72, -1), (73, -1), (74, -1), (75, -1), (77, -1), (78, -1), (79, -1)] h h395 := my_fr.up my_fr.rf is_151 fh395 rfl
                have Tok_h395 : Tok h395 := Tok_ag (my_ag.up fh395 is_151 rfl) n_Tok
                have Mq_h395 : Mq h395 wv := Mq_ag (my_ag.up fh395 is_151 rfl) n_Mq
                have Wrd_h395 : Wrd h395 := Wrd_ag (my_ag.up fh395 is_151 rfl) n_Wrd
                refine w_vret gz_178_25 gm_178 ?_
                show wp l rho (d + 4) 185 88 [(2, 151), (0, 0), (0, 0), (0, 0), (0, 0), (9, 0), (9, 0), (9, 0)] [] h395 Q
                have ce396 : h395 151 7 = v393 := ((my_up_fld fh395 (by decide)).trans ev393.symm)
                have ce397 : h395 151 8 = (5 + (16 * v394)) := (my_up_self fh395)
                exact J88_0 (0) (0) (0) (0) ((5 + (16 * v394))) h395 (gh395) (by omega) (by omega) (by omega) (by omega) (by omega) (by omega) (by omega) (by omega) (by omega) (by omega) (((my_up_fld fh395 (by decide)).trans ev393.symm).trans (by omega)) ((my_up_self fh395).trans (by omega)) Tok_h395 Mq_h395 Wrd_h395 (by first | (intro q; exfalso; omega) | (intro _; assumption)) (by first | (intro q; exfalso; omega) | (intro _ q; omega) | (intro _ q; exfalso; have w := Wrd_h395; unfold Wrd at w; omega)) (by omega)
            ·
              show wp l rho (d + 4) 185 68 [(2, 151), (0, 0), (0, 0), (0, 0), (0, 0), (9, 0), (9, 0), (9, 0)] [(0, 1)] h Q
              refine w_ifne (t := 88) gz_185_68 rfl (fun u398 => ?_) (fun u398 => by exfalso; omega)
              have ce399 : h 151 7 = k151_7 := ek151_7.symm
              have ce400 : h 151 8 = 0 := cf
              exact J88_0 (0) (0) (0) (0) (0) h (my_fr.rf) (by omega) (by omega) (by omega) (by omega) (by omega) (by omega) (by omega) (by omega) (by omega) (by omega) (ek151_7.symm.trans (by omega)) (cf.trans (by omega)) n_Tok n_Mq n_Wrd (by first | (intro q; exfalso; omega) | (intro _; assumption)) (by first | (intro q; exfalso; omega) | (intro _ q; omega) | (intro _ q; exfalso; have w := n_Wrd; unfold Wrd at w; omega)) (by omega)
        ·
          show wp l rho (d + 4) 185 26 [(2, 151), (0, 0), (0, 0), (0, 0), (9, 0), (9, 0), (9, 0), (9, 0)] [(0, 1)] h Q
          refine w_istore (ls' := [(2, 151), (0, 0), (0, 0), (0, 0), (0, 1), (9, 0), (9, 0), (9, 0)]) gz_185_26 gm_185 rfl rfl rfl ?_
          refine w_iload_n gz_185_28 rfl ?_
          refine w_ifne (t := 62) gz_185_29 rfl (fun u401 => by exfalso; omega) (fun u401 => ?_)
          refine w_iload_n gz_185_32 rfl ?_
          refine w_ifne (t := 62) gz_185_33 rfl (fun u402 => by exfalso; omega) (fun u402 => ?_)
          refine w_iload_n gz_185_36 rfl ?_
          refine w_ifne (t := 62) gz_185_37 rfl (fun u403 => by exfalso; omega) (fun u403 => ?_)
          refine w_iload gz_185_40 rfl ?_
          refine w_ifne (t := 62) gz_185_42 rfl (fun u404 => ?_) (fun u404 => by exfalso; omega)
          refine w_aload_n gz_185_62 rfl ?_
          refine w_bipush gz_185_63 (by decide) ?_
          refine w_inv (k := 0) (as := [(0, 10)]) (r := []) (x := 151) (ls0 := [(2, 151), (0, 10)]) gz_185_65 gm_177 rfl is_151 rd_10 rfl rfl rfl rfl rfl (c_Model_isWord_f0 (d := (d + 3)) (x1 := 10) (by omega) (by omega) (cf.trans (by omega)) (fun w405 => ?_) (fun w406 xp407 xp408 xp409 => ?_))
          ·
            show wp l rho (d + 4) 185 68 [(2, 151), (0, 0), (0, 0), (0, 0), (0, 1), (9, 0), (9, 0), (9, 0)] [(0, 0)] h Q
            refine w_ifne (t := 88) gz_185_68 rfl (fun u410 => by exfalso; omega) (fun u410 => ?_)
            refine w_aload_n gz_185_71 rfl ?_
            refine w_getX (v := 167) gz_185_72 is_151 rd_10 rfl (by decide) rfl ?_
            refine w_bipush gz_185_75 (by decide) ?_
            refine w_iald gz_185_77 is_167 rd_66 (by omega) (by omega) (fun v412 ev412 pv412 qv412 => ?_)
            refine w_bipush gz_185_78 (by decide) ?_
            refine w_icne (t := 88) gz_185_80 rfl (fun u413 => ?_) (fun u413 => ?_)
            ·
              have ce414 : h 151 7 = k151_7 := ek151_7.symm
              have ce415 : h 151 8 = 0 := cf
              exact J88_0 (0) (0) (0) (1) (0) h (my_fr.rf) (by omega) (by omega) (by omega) (by omega) (by omega) (by omega) (by omega) (by omega) (by omega) (by omega) (ek151_7.symm.trans (by omega)) (cf.trans (by omega)) n_Tok n_Mq n_Wrd (by first | (intro q; exfalso; omega) | (intro _; assumption)) (by first | (intro q; exfalso; omega) | (intro _ q; omega) | (intro _ q; exfalso; have w := n_Wrd; unfold Wrd at w; omega)) (by omega)
            ·
              refine w_aload_n gz_185_83 rfl ?_
              refine w_iconst gz_185_84 (by decide) ?_
              refine w_inv (k := 0) (as := [(0, 5)]) (r := []) (x := 151) (ls0 := [(2, 151), (0, 5)]) gz_185_85 gm_178 rfl is_151 rd_10 rfl rfl rfl rfl rfl ?_
              refine w_aload_n gz_178_0 rfl ?_
              refine v_getI (j := 8) gz_178_1 rfl is_151 rd_10 rfl (fun v416 ev416 pv416 qv416 => ?_)
              have zv416 := ev416.trans cf
              refine w_ifne (t := 25) gz_178_4 rfl (fun u417 => by exfalso; omega) (fun u417 => ?_)
              refine w_aload_n gz_178_7 rfl ?_
              refine w_iload_n gz_178_8 rfl ?_
              refine w_bipush gz_178_9 (by decide) ?_
              refine w_aload_n gz_178_11 rfl ?_
              refine w_getX (v := 154) gz_178_12 is_151 rd_10 rfl (by decide) rfl ?_
              refine w_aload_n gz_178_15 rfl ?_
              refine v_getI (j := 7) gz_178_16 rfl is_151 rd_10 rfl (fun v419 ev419 pv419 qv419 => ?_)
              have zv419 := ev419.trans ek151_7.symm
              refine w_iald gz_178_19 is_154 rd_53 (by omega) (by omega) (fun v420 ev420 pv420 qv420 => ?_)
              refine w_imul gz_178_20 ⟨by omega, by omega⟩ ?_
              refine w_iadd gz_178_21 ⟨by omega, by omega⟩ ?_
              refine v_putI (j := 8) gz_178_22 rfl is_151 rd_10 rfl (by omega) (by omega) rfl (fun h421 fh421 => ?_)
              have gh421 : my_fr [(10, 7), (10, 8), (10, 27), (66, -1), (67, -1), (68, -1), (69, -1), (70, -1), (71, -1), (72, -1), (73, -1), (74, -1), (75, -1), (77, -1), (78, -1), (79, -1)] h h421 := my_fr.up my_fr.rf is_151 fh421 rfl
              have Tok_h421 : Tok h421 := Tok_ag (my_ag.up fh421 is_151 rfl) n_Tok
              have Mq_h421 : Mq h421 wv := Mq_ag (my_ag.up fh421 is_151 rfl) n_Mq
              have Wrd_h421 : Wrd h421 := Wrd_ag (my_ag.up fh421 is_151 rfl) n_Wrd
              refine w_vret gz_178_25 gm_178 ?_
              show wp l rho (d + 4) 185 88 [(2, 151), (0, 0), (0, 0), (0, 0), (0, 1), (9, 0), (9, 0), (9, 0)] [] h421 Q
              have ce422 : h421 151 7 = v419 := ((my_up_fld fh421 (by decide)).trans ev419.symm)
              have ce423 : h421 151 8 = (5 + (16 * v420)) := (my_up_self fh421)
              exact J88_0 (0) (0) (0) (1) ((5 + (16 * v420))) h421 (gh421) (by omega) (by omega) (by omega) (by omega) (by omega) (by omega) (by omega) (by omega) (by omega) (by omega) (((my_up_fld fh421 (by decide)).trans ev419.symm).trans (by omega)) ((my_up_self fh421).trans (by omega)) Tok_h421 Mq_h421 Wrd_h421 (by first | (intro q; exfalso; omega) | (intro _; assumption)) (by first | (intro q; exfalso; omega) | (intro _ q; omega) | (intro _ q; exfalso; have w := Wrd_h421; unfold Wrd at w; omega)) (by omega)
          ·
            show wp l rho (d + 4) 185 68 [(2, 151), (0, 0), (0, 0), (0, 0), (0, 1), (9, 0), (9, 0), (9, 0)] [(0, 1)] h Q
            refine w_ifne (t := 88) gz_185_68 rfl (fun u424 => ?_) (fun u424 => by exfalso; omega)
            have ce425 : h 151 7 = k151_7 := ek151_7.symm
            have ce426 : h 151 8 = 0 := cf
            exact J88_0 (0) (0) (0) (1) (0) h (my_fr.rf) (by omega) (by omega) (by omega) (by omega) (by omega) (by omega) (by omega) (by omega) (by omega) (by omega) (ek151_7.symm.trans (by omega)) (cf.trans (by omega)) n_Tok n_Mq n_Wrd (by first | (intro q; exfalso; omega) | (intro _; assumption)) (by first | (intro q; exfalso; omega) | (intro _ q; omega) | (intro _ q; exfalso; have w := n_Wrd; unfold Wrd at w; omega)) (by omega)
      ·
        show wp l rho (d + 4) 185 19 [(2, 151), (0, 0), (0, 0), (9, 0), (9, 0), (9, 0), (9, 0), (9, 0)] [(0, 1)] h Q
        refine w_istore_n (ls' := [(2, 151), (0, 0), (0, 0), (0, 1), (9, 0), (9, 0), (9, 0), (9, 0)]) gz_185_19 gm_185 rfl rfl rfl ?_
        refine w_aload_n gz_185_20 rfl ?_
        refine w_bipush gz_185_21 (by decide) ?_
        refine w_inv (k := 0) (as := [(0, 11)]) (r := []) (x := 151) (ls0 := [(2, 151), (0, 11)]) gz_185_23 gm_177 rfl is_151 rd_10 rfl rfl rfl rfl rfl (c_Model_isWord_f0 (d := (d + 3)) (x1 := 11) (by omega) (by omega) (cf.trans (by omega)) (fun w427 => ?_) (fun w428 xp429 xp430 xp431 => ?_))
        ·
          show wp l rho (d + 4) 185 26 [(2, 151), (0, 0), (0, 0), (0, 1), (9, 0), (9, 0), (9, 0), (9, 0)] [(0, 0)] h Q
          refine w_istore (ls' := [(2, 151), (0, 0), (0, 0), (0, 1), (0, 0), (9, 0), (9, 0), (9, 0)]) gz_185_26 gm_185 rfl rfl rfl ?_
          refine w_iload_n gz_185_28 rfl ?_
          refine w_ifne (t := 62) gz_185_29 rfl (fun u432 => by exfalso; omega) (fun u432 => ?_)
          refine w_iload_n gz_185_32 rfl ?_
          refine w_ifne (t := 62) gz_185_33 rfl (fun u433 => by exfalso; omega) (fun u433 => ?_)
          refine w_iload_n gz_185_36 rfl ?_
          refine w_ifne (t := 62) gz_185_37 rfl (fun u434 => ?_) (fun u434 => by exfalso; omega)
          refine w_aload_n gz_185_62 rfl ?_
          refine w_bipush gz_185_63 (by decide) ?_
          refine w_inv (k := 0) (as := [(0, 10)]) (r := []) (x := 151) (ls0 := [(2, 151), (0, 10)]) gz_185_65 gm_177 rfl is_151 rd_10 rfl rfl rfl rfl rfl (c_Model_isWord_f0 (d := (d + 3)) (x1 := 10) (by omega) (by omega) (cf.trans (by omega)) (fun w435 => ?_) (fun w436 xp437 xp438 xp439 => ?_))
          ·
            show wp l rho (d + 4) 185 68 [(2, 151), (0, 0), (0, 0), (0, 1), (0, 0), (9, 0), (9, 0), (9, 0)] [(0, 0)] h Q
            refine w_ifne (t := 88) gz_185_68 rfl (fun u440 => by exfalso; omega) (fun u440 => ?_)
            refine w_aload_n gz_185_71 rfl ?_
            refine w_getX (v := 167) gz_185_72 is_151 rd_10 rfl (by decide) rfl ?_
            refine w_bipush gz_185_75 (by decide) ?_
            refine w_iald gz_185_77 is_167 rd_66 (by omega) (by omega) (fun v442 ev442 pv442 qv442 => ?_)
            refine w_bipush gz_185_78 (by decide) ?_
            refine w_icne (t := 88) gz_185_80 rfl (fun u443 => ?_) (fun u443 => ?_)
            ·
              have ce444 : h 151 7 = k151_7 := ek151_7.symm
              have ce445 : h 151 8 = 0 := cf
              exact J88_0 (0) (0) (1) (0) (0) h (my_fr.rf) (by omega) (by omega) (by omega) (by omega) (by omega) (by omega) (by omega) (by omega) (by omega) (by omega) (ek151_7.symm.trans (by omega)) (cf.trans (by omega)) n_Tok n_Mq n_Wrd (by first | (intro q; exfalso; omega) | (intro _; assumption)) (by first | (intro q; exfalso; omega) | (intro _ q; omega) | (intro _ q; exfalso; have w := n_Wrd; unfold Wrd at w; omega)) (by omega)
            ·
              refine w_aload_n gz_185_83 rfl ?_
              refine w_iconst gz_185_84 (by decide) ?_
              refine w_inv (k := 0) (as := [(0, 5)]) (r := []) (x := 151) (ls0 := [(2, 151), (0, 5)]) gz_185_85 gm_178 rfl is_151 rd_10 rfl rfl rfl rfl rfl ?_
              refine w_aload_n gz_178_0 rfl ?_
              refine v_getI (j := 8) gz_178_1 rfl is_151 rd_10 rfl (fun v446 ev446 pv446 qv446 => ?_)
              have zv446 := ev446.trans cf
              refine w_ifne (t := 25) gz_178_4 rfl (fun u447 => by exfalso; omega) (fun u447 => ?_)
              refine w_aload_n gz_178_7 rfl ?_
              refine w_iload_n gz_178_8 rfl ?_
              refine w_bipush gz_178_9 (by decide) ?_
              refine w_aload_n gz_178_11 rfl ?_
              refine w_getX (v := 154) gz_178_12 is_151 rd_10 rfl (by decide) rfl ?_
              refine w_aload_n gz_178_15 rfl ?_
              refine v_getI (j := 7) gz_178_16 rfl is_151 rd_10 rfl (fun v449 ev449 pv449 qv449 => ?_)
              have zv449 := ev449.trans ek151_7.symm
              refine w_iald gz_178_19 is_154 rd_53 (by omega) (by omega) (fun v450 ev450 pv450 qv450 => ?_)
              refine w_imul gz_178_20 ⟨by omega, by omega⟩ ?_
              refine w_iadd gz_178_21 ⟨by omega, by omega⟩ ?_
              refine v_putI (j := 8) gz_178_22 rfl is_151 rd_10 rfl (by omega) (by omega) rfl (fun h451 fh451 => ?_)
              have gh451 : my_fr [(10, 7), (10, 8), (10, 27), (66, -1), (67, -1), (68, -1), (69, -1), (70, -1), (71, -1), (72, -1), (73, -1), (74, -1), (75, -1), (77, -1), (78, -1), (79, -1)] h h451 := my_fr.up my_fr.rf is_151 fh451 rfl
              have Tok_h451 : Tok h451 := Tok_ag (my_ag.up fh451 is_151 rfl) n_Tok
              have Mq_h451 : Mq h451 wv := Mq_ag (my_ag.up fh451 is_151 rfl) n_Mq
              have Wrd_h451 : Wrd h451 := Wrd_ag (my_ag.up fh451 is_151 rfl) n_Wrd
              refine w_vret gz_178_25 gm_178 ?_
              show wp l rho (d + 4) 185 88 [(2, 151), (0, 0), (0, 0), (0, 1), (0, 0), (9, 0), (9, 0), (9, 0)] [] h451 Q
              have ce452 : h451 151 7 = v449 := ((my_up_fld fh451 (by decide)).trans ev449.symm)
              have ce453 : h451 151 8 = (5 + (16 * v450)) := (my_up_self fh451)
              exact J88_0 (0) (0) (1) (0) ((5 + (16 * v450))) h451 (gh451) (by omega) (by omega) (by omega) (by omega) (by omega) (by omega) (by omega) (by omega) (by omega) (by omega) (((my_up_fld fh451 (by decide)).trans ev449.symm).trans (by omega)) ((my_up_self fh451).trans (by omega)) Tok_h451 Mq_h451 Wrd_h451 (by first | (intro q; exfalso; omega) | (intro _; assumption)) (by first | (intro q; exfalso; omega) | (intro _ q; omega) | (intro _ q; exfalso; have w := Wrd_h451; unfold Wrd at w; omega)) (by omega)
          ·
            show wp l rho (d + 4) 185 68 [(2, 151), (0, 0), (0, 0), (0, 1), (0, 0), (9, 0), (9, 0), (9, 0)] [(0, 1)] h Q
            refine w_ifne (t := 88) gz_185_68 rfl (fun u454 => ?_) (fun u454 => by exfalso; omega)
            have ce455 : h 151 7 = k151_7 := ek151_7.symm
            have ce456 : h 151 8 = 0 := cf
            exact J88_0 (0) (0) (1) (0) (0) h (my_fr.rf) (by omega) (by omega) (by omega) (by omega) (by omega) (by omega) (by omega) (by omega) (by omega) (by omega) (ek151_7.symm.trans (by omega)) (cf.trans (by omega)) n_Tok n_Mq n_Wrd (by first | (intro q; exfalso; omega) | (intro _; assumption)) (by first | (intro q; exfalso; omega) | (intro _ q; omega) | (intro _ q; exfalso; have w := n_Wrd; unfold Wrd at w; omega)) (by omega)
        ·
          show wp l rho (d + 4) 185 26 [(2, 151), (0, 0), (0, 0), (0, 1), (9, 0), (9, 0), (9, 0), (9, 0)] [(0, 1)] h Q
          refine w_istore (ls' := [(2, 151), (0, 0), (0, 0), (0, 1), (0, 1), (9, 0), (9, 0), (9, 0)]) gz_185_26 gm_185 rfl rfl rfl ?_
          refine w_iload_n gz_185_28 rfl ?_
          refine w_ifne (t := 62) gz_185_29 rfl (fun u457 => by exfalso; omega) (fun u457 => ?_)
          refine w_iload_n gz_185_32 rfl ?_
          refine w_ifne (t := 62) gz_185_33 rfl (fun u458 => by exfalso; omega) (fun u458 => ?_)
          refine w_iload_n gz_185_36 rfl ?_
          refine w_ifne (t := 62) gz_185_37 rfl (fun u459 => ?_) (fun u459 => by exfalso; omega)
          refine w_aload_n gz_185_62 rfl ?_
          refine w_bipush gz_185_63 (by decide) ?_
          refine w_inv (k := 0) (as := [(0, 10)]) (r := []) (x := 151) (ls0 := [(2, 151), (0, 10)]) gz_185_65 gm_177 rfl is_151 rd_10 rfl rfl rfl rfl rfl (c_Model_isWord_f0 (d := (d + 3)) (x1 := 10) (by omega) (by omega) (cf.trans (by omega)) (fun w460 => ?_) (fun w461 xp462 xp463 xp464 => ?_))
          ·
            show wp l rho (d + 4) 185 68 [(2, 151), (0, 0), (0, 0), (0, 1), (0, 1), (9, 0), (9, 0), (9, 0)] [(0, 0)] h Q
            refine w_ifne (t := 88) gz_185_68 rfl (fun u465 => by exfalso; omega) (fun u465 => ?_)
            refine w_aload_n gz_185_71 rfl ?_
            refine w_getX (v := 167) gz_185_72 is_151 rd_10 rfl (by decide) rfl ?_
            refine w_bipush gz_185_75 (by decide) ?_
            refine w_iald gz_185_77 is_167 rd_66 (by omega) (by omega) (fun v467 ev467 pv467 qv467 => ?_)
            refine w_bipush gz_185_78 (by decide) ?_
            refine w_icne (t := 88) gz_185_80 rfl (fun u468 => ?_) (fun u468 => ?_)
            ·
              have ce469 : h 151 7 = k151_7 := ek151_7.symm
              have ce470 : h 151 8 = 0 := cf
              exact J88_0 (0) (0) (1) (1) (0) h (my_fr.rf) (by omega) (by omega) (by omega) (by omega) (by omega) (by omega) (by omega) (by omega) (by omega) (by omega) (ek151_7.symm.trans (by omega)) (cf.trans (by omega)) n_Tok n_Mq n_Wrd (by first | (intro q; exfalso; omega) | (intro _; assumption)) (by first | (intro q; exfalso; omega) | (intro _ q; omega) | (intro _ q; exfalso; have w := n_Wrd; unfold Wrd at w; omega)) (by omega)
            ·
              refine w_aload_n gz_185_83 rfl ?_
              refine w_iconst gz_185_84 (by decide) ?_
              refine w_inv (k := 0) (as := [(0, 5)]) (r := []) (x := 151) (ls0 := [(2, 151), (0, 5)]) gz_185_85 gm_178 rfl is_151 rd_10 rfl rfl rfl rfl rfl ?_
              refine w_aload_n gz_178_0 rfl ?_
              refine v_getI (j := 8) gz_178_1 rfl is_151 rd_10 rfl (fun v471 ev471 pv471 qv471 => ?_)
              have zv471 := ev471.trans cf
              refine w_ifne (t := 25) gz_178_4 rfl (fun u472 => by exfalso; omega) (fun u472 => ?_)
              refine w_aload_n gz_178_7 rfl ?_
              refine w_iload_n gz_178_8 rfl ?_
              refine w_bipush gz_178_9 (by decide) ?_
              refine w_aload_n gz_178_11 rfl ?_
              refine w_getX (v := 154) gz_178_12 is_151 rd_10 rfl (by decide) rfl ?_
              refine w_aload_n gz_178_15 rfl ?_
              refine v_getI (j := 7) gz_178_16 rfl is_151 rd_10 rfl (fun v474 ev474 pv474 qv474 => ?_)
              have zv474 := ev474.trans ek151_7.symm
              refine w_iald gz_178_19 is_154 rd_53 (by omega) (by omega) (fun v475 ev475 pv475 qv475 => ?_)
              refine w_imul gz_178_20 ⟨by omega, by omega⟩ ?_
              refine w_iadd gz_178_21 ⟨by omega, by omega⟩ ?_
              refine v_putI (j := 8) gz_178_22 rfl is_151 rd_10 rfl (by omega) (by omega) rfl (fun h476 fh476 => ?_)
              have gh476 : my_fr [(10, 7), (10, 8), (10, 27), (66, -1), (67, -1), (68, -1), (69, -1), (70, -1), (71, -1), (72, -1), (73, -1), (74, -1), (75, -1), (77, -1), (78, -1), (79, -1)] h h476 := my_fr.up my_fr.rf is_151 fh476 rfl
              have Tok_h476 : Tok h476 := Tok_ag (my_ag.up fh476 is_151 rfl) n_Tok
              have Mq_h476 : Mq h476 wv := Mq_ag (my_ag.up fh476 is_151 rfl) n_Mq
              have Wrd_h476 : Wrd h476 := Wrd_ag (my_ag.up fh476 is_151 rfl) n_Wrd
              refine w_vret gz_178_25 gm_178 ?_
              show wp l rho (d + 4) 185 88 [(2, 151), (0, 0), (0, 0), (0, 1), (0, 1), (9, 0), (9, 0), (9, 0)] [] h476 Q
              have ce477 : h476 151 7 = v474 := ((my_up_fld fh476 (by decide)).trans ev474.symm)
              have ce478 : h476 151 8 = (5 + (16 * v475)) := (my_up_self fh476)
              exact J88_0 (0) (0) (1) (1) ((5 + (16 * v475))) h476 (gh476) (by omega) (by omega) (by omega) (by omega) (by omega) (by omega) (by omega) (by omega) (by omega) (by omega) (((my_up_fld fh476 (by decide)).trans ev474.symm).trans (by omega)) ((my_up_self fh476).trans (by omega)) Tok_h476 Mq_h476 Wrd_h476 (by first | (intro q; exfalso; omega) | (intro _; assumption)) (by first | (intro q; exfalso; omega) | (intro _ q; omega) | (intro _ q; exfalso; have w := Wrd_h476; unfold Wrd at w; omega)) (by omega)
          ·
            show wp l rho (d + 4) 185 68 [(2, 151), (0, 0), (0, 0), (0, 1), (0, 1), (9, 0), (9, 0), (9, 0)] [(0, 1)] h Q
            refine w_ifne (t := 88) gz_185_68 rfl (fun u479 => ?_) (fun u479 => by exfalso; omega)
            have ce480 : h 151 7 = k151_7 := ek151_7.symm
            have ce481 : h 151 8 = 0 := cf
            exact J88_0 (0) (0) (1) (1) (0) h (my_fr.rf) (by omega) (by omega) (by omega) (by omega) (by omega) (by omega) (by omega) (by omega) (by omega) (by omega) (ek151_7.symm.trans (by omega)) (cf.trans (by omega)) n_Tok n_Mq n_Wrd (by first | (intro q; exfalso; omega) | (intro _; assumption)) (by first | (intro q; exfalso; omega) | (intro _ q; omega) | (intro _ q; exfalso; have w := n_Wrd; unfold Wrd at w; omega)) (by omega)
    ·
      show wp l rho (d + 4) 185 12 [(2, 151), (0, 0), (9, 0), (9, 0), (9, 0), (9, 0), (9, 0), (9, 0)] [(0, 1)] h Q
      refine w_istore_n (ls' := [(2, 151), (0, 0), (0, 1), (9, 0), (9, 0), (9, 0), (9, 0), (9, 0)]) gz_185_12 gm_185 rfl rfl rfl ?_
      refine w_aload_n gz_185_13 rfl ?_
      refine w_bipush gz_185_14 (by decide) ?_
      refine w_inv (k := 0) (as := [(0, 8)]) (r := []) (x := 151) (ls0 := [(2, 151), (0, 8)]) gz_185_16 gm_177 rfl is_151 rd_10 rfl rfl rfl rfl rfl (c_Model_isWord_f0 (d := (d + 3)) (x1 := 8) (by omega) (by omega) (cf.trans (by omega)) (fun w482 => ?_) (fun w483 xp484 xp485 xp486 => ?_))
      ·
        show wp l rho (d + 4) 185 19 [(2, 151), (0, 0), (0, 1), (9, 0), (9, 0), (9, 0), (9, 0), (9, 0)] [(0, 0)] h Q
        refine w_istore_n (ls' := [(2, 151), (0, 0), (0, 1), (0, 0), (9, 0), (9, 0), (9, 0), (9, 0)]) gz_185_19 gm_185 rfl rfl rfl ?_
        refine w_aload_n gz_185_20 rfl ?_
        refine w_bipush gz_185_21 (by decide) ?_
        refine w_inv (k := 0) (as := [(0, 11)]) (r := []) (x := 151) (ls0 := [(2, 151), (0, 11)]) gz_185_23 gm_177 rfl is_151 rd_10 rfl rfl rfl rfl rfl (c_Model_isWord_f0 (d := (d + 3)) (x1 := 11) (by omega) (by omega) (cf.trans (by omega)) (fun w487 => ?_) (fun w488 xp489 xp490 xp491 => ?_))
        ·
          show wp l rho (d + 4) 185 26 [(2, 151), (0, 0), (0, 1), (0, 0), (9, 0), (9, 0), (9, 0), (9, 0)] [(0, 0)] h Q
          refine w_istore (ls' := [(2, 151), (0, 0), (0, 1), (0, 0), (0, 0), (9, 0), (9, 0), (9, 0)]) gz_185_26 gm_185 rfl rfl rfl ?_
          refine w_iload_n gz_185_28 rfl ?_
          refine w_ifne (t := 62) gz_185_29 rfl (fun u492 => by exfalso; omega) (fun u492 => ?_)
          refine w_iload_n gz_185_32 rfl ?_
          refine w_ifne (t := 62) gz_185_33 rfl (fun u493 => ?_) (fun u493 => by exfalso; omega)
          refine w_aload_n gz_185_62 rfl ?_
          refine w_bipush gz_185_63 (by decide) ?_
          refine w_inv (k := 0) (as := [(0, 10)]) (r := []) (x := 151) (ls0 := [(2, 151), (0, 10)]) gz_185_65 gm_177 rfl is_151 rd_10 rfl rfl rfl rfl rfl (c_Model_isWord_f0 (d := (d + 3)) (x1 := 10) (by omega) (by omega) (cf.trans (by omega)) (fun w494 => ?_) (fun w495 xp496 xp497 xp498 => ?_))
          ·
            show wp l rho (d + 4) 185 68 [(2, 151), (0, 0), (0, 1), (0, 0), (0, 0), (9, 0), (9, 0), (9, 0)] [(0, 0)] h Q
            refine w_ifne (t := 88) gz_185_68 rfl (fun u499 => by exfalso; omega) (fun u499 => ?_)
            refine w_aload_n gz_185_71 rfl ?_
            refine w_getX (v := 167) gz_185_72 is_151 rd_10 rfl (by decide) rfl ?_
            refine w_bipush gz_185_75 (by decide) ?_
            refine w_iald gz_185_77 is_167 rd_66 (by omega) (by omega) (fun v501 ev501 pv501 qv501 => ?_)
            refine w_bipush gz_185_78 (by decide) ?_
            refine w_icne (t := 88) gz_185_80 rfl (fun u502 => ?_) (fun u502 => ?_)
            ·
              have ce503 : h 151 7 = k151_7 := ek151_7.symm
              have ce504 : h 151 8 = 0 := cf
              exact J88_0 (0) (1) (0) (0) (0) h (my_fr.rf) (by omega) (by omega) (by omega) (by omega) (by omega) (by omega) (by omega) (by omega) (by omega) (by omega) (ek151_7.symm.trans (by omega)) (cf.trans (by omega)) n_Tok n_Mq n_Wrd (by first | (intro q; exfalso; omega) | (intro _; assumption)) (by first | (intro q; exfalso; omega) | (intro _ q; omega) | (intro _ q; exfalso; have w := n_Wrd; unfold Wrd at w; omega)) (by omega)
            ·
              refine w_aload_n gz_185_83 rfl ?_
              refine w_iconst gz_185_84 (by decide) ?_
              refine w_inv (k := 0) (as := [(0, 5)]) (r := []) (x := 151) (ls0 := [(2, 151), (0, 5)]) gz_185_85 gm_178 rfl is_151 rd_10 rfl rfl rfl rfl rfl ?_
              refine w_aload_n gz_178_0 rfl ?_
              refine v_getI (j := 8) gz_178_1 rfl is_151 rd_10 rfl (fun v505 ev505 pv505 qv505 => ?_)
              have zv505 := ev505.trans cf
              refine w_ifne (t := 25) gz_178_4 rfl (fun u506 => by exfalso; omega) (fun u506 => ?_)
              refine w_aload_n gz_178_7 rfl ?_
              refine w_iload_n gz_178_8 rfl ?_
              refine w_bipush gz_178_9 (by decide) ?_
              refine w_aload_n gz_178_11 rfl ?_
              refine w_getX (v := 154) gz_178_12 is_151 rd_10 rfl (by decide) rfl ?_
              refine w_aload_n gz_178_15 rfl ?_
              refine v_getI (j := 7) gz_178_16 rfl is_151 rd_10 rfl (fun v508 ev508 pv508 qv508 => ?_)
              have zv508 := ev508.trans ek151_7.symm
              refine w_iald gz_178_19 is_154 rd_53 (by omega) (by omega) (fun v509 ev509 pv509 qv509 => ?_)
              refine w_imul gz_178_20 ⟨by omega, by omega⟩ ?_
              refine w_iadd gz_178_21 ⟨by omega, by omega⟩ ?_
              refine v_putI (j := 8) gz_178_22 rfl is_151 rd_10 rfl (by omega) (by omega) rfl (fun h510 fh510 => ?_)
              have gh510 : my_fr [(10, 7), (10, 8), (10, 27), (66, -1), (67, -1), (68, -1), (69, -1), (70, -1), (71, -1), (72, -1), (73, -1), (74, -1), (75, -1), (77, -1), (78, -1), (79, -1)] h h510 := my_fr.up my_fr.rf is_151 fh510 rfl
              have Tok_h510 : Tok h510 := Tok_ag (my_ag.up fh510 is_151 rfl) n_Tok
              have Mq_h510 : Mq h510 wv := Mq_ag (my_ag.up fh510 is_151 rfl) n_Mq
              have Wrd_h510 : Wrd h510 := Wrd_ag (my_ag.up fh510 is_151 rfl) n_Wrd
              refine w_vret gz_178_25 gm_178 ?_
              show wp l rho (d + 4) 185 88 [(2, 151), (0, 0), (0, 1), (0, 0), (0, 0), (9, 0), (9, 0), (9, 0)] [] h510 Q
              have ce511 : h510 151 7 = v508 := ((my_up_fld fh510 (by decide)).trans ev508.symm)
              have ce512 : h510 151 8 = (5 + (16 * v509)) := (my_up_self fh510)
              exact J88_0 (0) (1) (0) (0) ((5 + (16 * v509))) h510 (gh510) (by omega) (by omega) (by omega) (by omega) (by omega) (by omega) (by omega) (by omega) (by omega) (by omega) (((my_up_fld fh510 (by decide)).trans ev508.symm).trans (by omega)) ((my_up_self fh510).trans (by omega)) Tok_h510 Mq_h510 Wrd_h510 (by first | (intro q; exfalso; omega) | (intro _; assumption)) (by first | (intro q; exfalso; omega) | (intro _ q; omega) | (intro _ q; exfalso; have w := Wrd_h510; unfold Wrd at w; omega)) (by omega)
          ·
            show wp l rho (d + 4) 185 68 [(2, 151), (0, 0), (0, 1), (0, 0), (0, 0), (9, 0), (9, 0), (9, 0)] [(0, 1)] h Q
            refine w_ifne (t := 88) gz_185_68 rfl (fun u513 => ?_) (fun u513 => by exfalso; omega)
            have ce514 : h 151 7 = k151_7 := ek151_7.symm
            have ce515 : h 151 8 = 0 := cf
            exact J88_0 (0) (1) (0) (0) (0) h (my_fr.rf) (by omega) (by omega) (by omega) (by omega) (by omega) (by omega) (by omega) (by omega) (by omega) (by omega) (ek151_7.symm.trans (by omega)) (cf.trans (by omega)) n_Tok n_Mq n_Wrd (by first | (intro q; exfalso; omega) | (intro _; assumption)) (by first | (intro q; exfalso; omega) | (intro _ q; omega) | (intro _ q; exfalso; have w := n_Wrd; unfold Wrd at w; omega)) (by omega)
        ·
          show wp l rho (d + 4) 185 26 [(2, 151), (0, 0), (0, 1), (0, 0), (9, 0), (9, 0), (9, 0), (9, 0)] [(0, 1)] h Q
          refine w_istore (ls' := [(2, 151), (0, 0), (0, 1), (0, 0), (0, 1), (9, 0), (9, 0), (9, 0)]) gz_185_26 gm_185 rfl rfl rfl ?_
          refine w_iload_n gz_185_28 rfl ?_
          refine w_ifne (t := 62) gz_185_29 rfl (fun u516 => by exfalso; omega) (fun u516 => ?_)
          refine w_iload_n gz_185_32 rfl ?_
          refine w_ifne (t := 62) gz_185_33 rfl (fun u517 => ?_) (fun u517 => by exfalso; omega)
          refine w_aload_n gz_185_62 rfl ?_
          refine w_bipush gz_185_63 (by decide) ?_
          refine w_inv (k := 0) (as := [(0, 10)]) (r := []) (x := 151) (ls0 := [(2, 151), (0, 10)]) gz_185_65 gm_177 rfl is_151 rd_10 rfl rfl rfl rfl rfl (c_Model_isWord_f0 (d := (d + 3)) (x1 := 10) (by omega) (by omega) (cf.trans (by omega)) (fun w518 => ?_) (fun w519 xp520 xp521 xp522 => ?_))
          ·
            show wp l rho (d + 4) 185 68 [(2, 151), (0, 0), (0, 1), (0, 0), (0, 1), (9, 0), (9, 0), (9, 0)] [(0, 0)] h Q
            refine w_ifne (t := 88) gz_185_68 rfl (fun u523 => by exfalso; omega) (fun u523 => ?_)
            refine w_aload_n gz_185_71 rfl ?_
            refine w_getX (v := 167) gz_185_72 is_151 rd_10 rfl (by decide) rfl ?_
            refine w_bipush gz_185_75 (by decide) ?_
            refine w_iald gz_185_77 is_167 rd_66 (by omega) (by omega) (fun v525 ev525 pv525 qv525 => ?_)
            refine w_bipush gz_185_78 (by decide) ?_
            refine w_icne (t := 88) gz_185_80 rfl (fun u526 => ?_) (fun u526 => ?_)
            ·
              have ce527 : h 151 7 = k151_7 := ek151_7.symm
              have ce528 : h 151 8 = 0 := cf
              exact J88_0 (0) (1) (0) (1) (0) h (my_fr.rf) (by omega) (by omega) (by omega) (by omega) (by omega) (by omega) (by omega) (by omega) (by omega) (by omega) (ek151_7.symm.trans (by omega)) (cf.trans (by omega)) n_Tok n_Mq n_Wrd (by first | (intro q; exfalso; omega) | (intro _; assumption)) (by first | (intro q; exfalso; omega) | (intro _ q; omega) | (intro _ q; exfalso; have w := n_Wrd; unfold Wrd at w; omega)) (by omega)
            ·
              refine w_aload_n gz_185_83 rfl ?_
              refine w_iconst gz_185_84 (by decide) ?_
              refine w_inv (k := 0) (as := [(0, 5)]) (r := []) (x := 151) (ls0 := [(2, 151), (0, 5)]) gz_185_85 gm_178 rfl is_151 rd_10 rfl rfl rfl rfl rfl ?_
              refine w_aload_n gz_178_0 rfl ?_
              refine v_getI (j := 8) gz_178_1 rfl is_151 rd_10 rfl (fun v529 ev529 pv529 qv529 => ?_)
              have zv529 := ev529.trans cf
              refine w_ifne (t := 25) gz_178_4 rfl (fun u530 => by exfalso; omega) (fun u530 => ?_)
              refine w_aload_n gz_178_7 rfl ?_
              refine w_iload_n gz_178_8 rfl ?_
              refine w_bipush gz_178_9 (by decide) ?_
              refine w_aload_n gz_178_11 rfl ?_
              refine w_getX (v := 154) gz_178_12 is_151 rd_10 rfl (by decide) rfl ?_
              refine w_aload_n gz_178_15 rfl ?_
              refine v_getI (j := 7) gz_178_16 rfl is_151 rd_10 rfl (fun v532 ev532 pv532 qv532 => ?_)
              have zv532 := ev532.trans ek151_7.symm
              refine w_iald gz_178_19 is_154 rd_53 (by omega) (by omega) (fun v533 ev533 pv533 qv533 => ?_)
              refine w_imul gz_178_20 ⟨by omega, by omega⟩ ?_
              refine w_iadd gz_178_21 ⟨by omega, by omega⟩ ?_
              refine v_putI (j := 8) gz_178_22 rfl is_151 rd_10 rfl (by omega) (by omega) rfl (fun h534 fh534 => ?_)
              have gh534 : my_fr [(10, 7), (10, 8), (10, 27), (66, -1), (67, -1), (68, -1), (69, -1), (70, -1), (71, -1), (72, -1), (73, -1), (74, -1), (75, -1), (77, -1), (78, -1), (79, -1)] h h534 := my_fr.up my_fr.rf is_151 fh534 rfl
              have Tok_h534 : Tok h534 := Tok_ag (my_ag.up fh534 is_151 rfl) n_Tok
              have Mq_h534 : Mq h534 wv := Mq_ag (my_ag.up fh534 is_151 rfl) n_Mq
              have Wrd_h534 : Wrd h534 := Wrd_ag (my_ag.up fh534 is_151 rfl) n_Wrd
              refine w_vret gz_178_25 gm_178 ?_
              show wp l rho (d + 4) 185 88 [(2, 151), (0, 0), (0, 1), (0, 0), (0, 1), (9, 0), (9, 0), (9, 0)] [] h534 Q
              have ce535 : h534 151 7 = v532 := ((my_up_fld fh534 (by decide)).trans ev532.symm)
              have ce536 : h534 151 8 = (5 + (16 * v533)) := (my_up_self fh534)
              exact J88_0 (0) (1) (0) (1) ((5 + (16 * v533))) h534 (gh534) (by omega) (by omega) (by omega) (by omega) (by omega) (by omega) (by omega) (by omega) (by omega) (by omega) (((my_up_fld fh534 (by decide)).trans ev532.symm).trans (by omega)) ((my_up_self fh534).trans (by omega)) Tok_h534 Mq_h534 Wrd_h534 (by first | (intro q; exfalso; omega) | (intro _; assumption)) (by first | (intro q; exfalso; omega) | (intro _ q; omega) | (intro _ q; exfalso; have w := Wrd_h534; unfold Wrd at w; omega)) (by omega)
          ·
            show wp l rho (d + 4) 185 68 [(2, 151), (0, 0), (0, 1), (0, 0), (0, 1), (9, 0), (9, 0), (9, 0)] [(0, 1)] h Q
            refine w_ifne (t := 88) gz_185_68 rfl (fun u537 => ?_) (fun u537 => by exfalso; omega)
            have ce538 : h 151 7 = k151_7 := ek151_7.symm
            have ce539 : h 151 8 = 0 := cf
            exact J88_0 (0) (1) (0) (1) (0) h (my_fr.rf) (by omega) (by omega) (by omega) (by omega) (by omega) (by omega) (by omega) (by omega) (by omega) (by omega) (ek151_7.symm.trans (by omega)) (cf.trans (by omega)) n_Tok n_Mq n_Wrd (by first | (intro q; exfalso; omega) | (intro _; assumption)) (by first | (intro q; exfalso; omega) | (intro _ q; omega) | (intro _ q; exfalso; have w := n_Wrd; unfold Wrd at w; omega)) (by omega)
      ·
        show wp l rho (d + 4) 185 19 [(2, 151), (0, 0), (0, 1), (9, 0), (9, 0), (9, 0), (9, 0), (9, 0)] [(0, 1)] h Q
        refine w_istore_n (ls' := [(2, 151), (0, 0), (0, 1), (0, 1), (9, 0), (9, 0), (9, 0), (9, 0)]) gz_185_19 gm_185 rfl rfl rfl ?_
        refine w_aload_n gz_185_20 rfl ?_
        refine w_bipush gz_185_21 (by decide) ?_
        refine w_inv (k := 0) (as := [(0, 11)]) (r := []) (x := 151) (ls0 := [(2, 151), (0, 11)]) gz_185_23 gm_177 rfl is_151 rd_10 rfl rfl rfl rfl rfl (c_Model_isWord_f0 (d := (d + 3)) (x1 := 11) (by omega) (by omega) (cf.trans (by omega)) (fun w540 => ?_) (fun w541 xp542 xp543 xp544 => ?_))
        ·
          show wp l rho (d + 4) 185 26 [(2, 151), (0, 0), (0, 1), (0, 1), (9, 0), (9, 0), (9, 0), (9, 0)] [(0, 0)] h Q
          refine w_istore (ls' := [(2, 151), (0, 0), (0, 1), (0, 1), (0, 0), (9, 0), (9, 0), (9, 0)]) gz_185_26 gm_185 rfl rfl rfl ?_
          refine w_iload_n gz_185_28 rfl ?_
          refine w_ifne (t := 62) gz_185_29 rfl (fun u545 => by exfalso; omega) (fun u545 => ?_)
          refine w_iload_n gz_185_32 rfl ?_
          refine w_ifne (t := 62) gz_185_33 rfl (fun u546 => ?_) (fun u546 => by exfalso; omega)
          refine w_aload_n gz_185_62 rfl ?_
          refine w_bipush gz_185_63 (by decide) ?_
          refine w_inv (k := 0) (as := [(0, 10)]) (r := []) (x := 151) (ls0 := [(2, 151), (0, 10)]) gz_185_65 gm_177 rfl is_151 rd_10 rfl rfl rfl rfl rfl (c_Model_isWord_f0 (d := (d + 3)) (x1 := 10) (by omega) (by omega) (cf.trans (by omega)) (fun w547 => ?_) (fun w548 xp549 xp550 xp551 => ?_))
          ·
            show wp l rho (d + 4) 185 68 [(2, 151), (0, 0), (0, 1), (0, 1), (0, 0), (9, 0), (9, 0), (9, 0)] [(0, 0)] h Q
            refine w_ifne (t := 88) gz_185_68 rfl (fun u552 => by exfalso; omega) (fun u552 => ?_)
            refine w_aload_n gz_185_71 rfl ?_
            refine w_getX (v := 167) gz_185_72 is_151 rd_10 rfl (by decide) rfl ?_
            refine w_bipush gz_185_75 (by decide) ?_
            refine w_iald gz_185_77 is_167 rd_66 (by omega) (by omega) (fun v554 ev554 pv554 qv554 => ?_)
            refine w_bipush gz_185_78 (by decide) ?_
            refine w_icne (t := 88) gz_185_80 rfl (fun u555 => ?_) (fun u555 => ?_)
            ·
              have ce556 : h 151 7 = k151_7 := ek151_7.symm
              have ce557 : h 151 8 = 0 := cf
              exact J88_0 (0) (1) (1) (0) (0) h (my_fr.rf) (by omega) (by omega) (by omega) (by omega) (by omega) (by omega) (by omega) (by omega) (by omega) (by omega) (ek151_7.symm.trans (by omega)) (cf.trans (by omega)) n_Tok n_Mq n_Wrd (by first | (intro q; exfalso; omega) | (intro _; assumption)) (by first | (intro q; exfalso; omega) | (intro _ q; omega) | (intro _ q; exfalso; have w := n_Wrd; unfold Wrd at w; omega)) (by omega)
            ·
              refine w_aload_n gz_185_83 rfl ?_
              refine w_iconst gz_185_84 (by decide) ?_
              refine w_inv (k := 0) (as := [(0, 5)]) (r := []) (x := 151) (ls0 := [(2, 151), (0, 5)]) gz_185_85 gm_178 rfl is_151 rd_10 rfl rfl rfl rfl rfl ?_
              refine w_aload_n gz_178_0 rfl ?_
              refine v_getI (j := 8) gz_178_1 rfl is_151 rd_10 rfl (fun v558 ev558 pv558 qv558 => ?_)
              have zv558 := ev558.trans cf
              refine w_ifne (t := 25) gz_178_4 rfl (fun u559 => by exfalso; omega) (fun u559 => ?_)
              refine w_aload_n gz_178_7 rfl ?_
              refine w_iload_n gz_178_8 rfl ?_
              refine w_bipush gz_178_9 (by decide) ?_
              refine w_aload_n gz_178_11 rfl ?_
              refine w_getX (v := 154) gz_178_12 is_151 rd_10 rfl (by decide) rfl ?_
              refine w_aload_n gz_178_15 rfl ?_
              refine v_getI (j := 7) gz_178_16 rfl is_151 rd_10 rfl (fun v561 ev561 pv561 qv561 => ?_)
              have zv561 := ev561.trans ek151_7.symm
              refine w_iald gz_178_19 is_154 rd_53 (by omega) (by omega) (fun v562 ev562 pv562 qv562 => ?_)
              refine w_imul gz_178_20 ⟨by omega, by omega⟩ ?_
              refine w_iadd gz_178_21 ⟨by omega, by omega⟩ ?_
              refine v_putI (j := 8) gz_178_22 rfl is_151 rd_10 rfl (by omega) (by omega) rfl (fun h563 fh563 => ?_)
              have gh563 : my_fr [(10, 7), (10, 8), (10, 27), (66, -1), (67, -1), (68, -1), (69, -1), (70, -1), (71, -1), (72, -1), (73, -1), (74, -1), (75, -1), (77, -1), (78, -1), (79, -1)] h h563 := my_fr.up my_fr.rf is_151 fh563 rfl
              have Tok_h563 : Tok h563 := Tok_ag (my_ag.up fh563 is_151 rfl) n_Tok
              have Mq_h563 : Mq h563 wv := Mq_ag (my_ag.up fh563 is_151 rfl) n_Mq
              have Wrd_h563 : Wrd h563 := Wrd_ag (my_ag.up fh563 is_151 rfl) n_Wrd
              refine w_vret gz_178_25 gm_178 ?_
              show wp l rho (d + 4) 185 88 [(2, 151), (0, 0), (0, 1), (0, 1), (0, 0), (9, 0), (9, 0), (9, 0)] [] h563 Q
              have ce564 : h563 151 7 = v561 := ((my_up_fld fh563 (by decide)).trans ev561.symm)
              have ce565 : h563 151 8 = (5 + (16 * v562)) := (my_up_self fh563)
              exact J88_0 (0) (1) (1) (0) ((5 + (16 * v562))) h563 (gh563) (by omega) (by omega) (by omega) (by omega) (by omega) (by omega) (by omega) (by omega) (by omega) (by omega) (((my_up_fld fh563 (by decide)).trans ev561.symm).trans (by omega)) ((my_up_self fh563).trans (by omega)) Tok_h563 Mq_h563 Wrd_h563 (by first | (intro q; exfalso; omega) | (intro _; assumption)) (by first | (intro q; exfalso; omega) | (intro _ q; omega) | (intro _ q; exfalso; have w := Wrd_h563; unfold Wrd at w; omega)) (by omega)
          ·
            show wp l rho (d + 4) 185 68 [(2, 151), (0, 0), (0, 1), (0, 1), (0, 0), (9, 0), (9, 0), (9, 0)] [(0, 1)] h Q
            refine w_ifne (t := 88) gz_185_68 rfl (fun u566 => ?_) (fun u566 => by exfalso; omega)
            have ce567 : h 151 7 = k151_7 := ek151_7.symm
            have ce568 : h 151 8 = 0 := cf
            exact J88_0 (0) (1) (1) (0) (0) h (my_fr.rf) (by omega) (by omega) (by omega) (by omega) (by omega) (by omega) (by omega) (by omega) (by omega) (by omega) (ek151_7.symm.trans (by omega)) (cf.trans (by omega)) n_Tok n_Mq n_Wrd (by first | (intro q; exfalso; omega) | (intro _; assumption)) (by first | (intro q; exfalso; omega) | (intro _ q; omega) | (intro _ q; exfalso; have w := n_Wrd; unfold Wrd at w; omega)) (by omega)
        ·
          show wp l rho (d + 4) 185 26 [(2, 151), (0, 0), (0, 1), (0, 1), (9, 0), (9, 0), (9, 0), (9, 0)] [(0, 1)] h Q
          refine w_istore (ls' := [(2, 151), (0, 0), (0, 1), (0, 1), (0, 1), (9, 0), (9, 0), (9, 0)]) gz_185_26 gm_185 rfl rfl rfl ?_
          refine w_iload_n gz_185_28 rfl ?_
          refine w_ifne (t := 62) gz_185_29 rfl (fun u569 => by exfalso; omega) (fun u569 => ?_)
          refine w_iload_n gz_185_32 rfl ?_
          refine w_ifne (t := 62) gz_185_33 rfl (fun u570 => ?_) (fun u570 => by exfalso; omega)
          refine w_aload_n gz_185_62 rfl ?_
          refine w_bipush gz_185_63 (by decide) ?_
          refine w_inv (k := 0) (as := [(0, 10)]) (r := []) (x := 151) (ls0 := [(2, 151), (0, 10)]) gz_185_65 gm_177 rfl is_151 rd_10 rfl rfl rfl rfl rfl (c_Model_isWord_f0 (d := (d + 3)) (x1 := 10) (by omega) (by omega) (cf.trans (by omega)) (fun w571 => ?_) (fun w572 xp573 xp574 xp575 => ?_))
          ·
            show wp l rho (d + 4) 185 68 [(2, 151), (0, 0), (0, 1), (0, 1), (0, 1), (9, 0), (9, 0), (9, 0)] [(0, 0)] h Q
            refine w_ifne (t := 88) gz_185_68 rfl (fun u576 => by exfalso; omega) (fun u576 => ?_)
            refine w_aload_n gz_185_71 rfl ?_
            refine w_getX (v := 167) gz_185_72 is_151 rd_10 rfl (by decide) rfl ?_
            refine w_bipush gz_185_75 (by decide) ?_
            refine w_iald gz_185_77 is_167 rd_66 (by omega) (by omega) (fun v578 ev578 pv578 qv578 => ?_)
            refine w_bipush gz_185_78 (by decide) ?_
            refine w_icne (t := 88) gz_185_80 rfl (fun u579 => ?_) (fun u579 => ?_)
            ·
              have ce580 : h 151 7 = k151_7 := ek151_7.symm
              have ce581 : h 151 8 = 0 := cf
              exact J88_0 (0) (1) (1) (1) (0) h (my_fr.rf) (by omega) (by omega) (by omega) (by omega) (by omega) (by omega) (by omega) (by omega) (by omega) (by omega) (ek151_7.symm.trans (by omega)) (cf.trans (by omega)) n_Tok n_Mq n_Wrd (by first | (intro q; exfalso; omega) | (intro _; assumption)) (by first | (intro q; exfalso; omega) | (intro _ q; omega) | (intro _ q; exfalso; have w := n_Wrd; unfold Wrd at w; omega)) (by omega)
            ·
              refine w_aload_n gz_185_83 rfl ?_
              refine w_iconst gz_185_84 (by decide) ?_
              refine w_inv (k := 0) (as := [(0, 5)]) (r := []) (x := 151) (ls0 := [(2, 151), (0, 5)]) gz_185_85 gm_178 rfl is_151 rd_10 rfl rfl rfl rfl rfl ?_
              refine w_aload_n gz_178_0 rfl ?_
              refine v_getI (j := 8) gz_178_1 rfl is_151 rd_10 rfl (fun v582 ev582 pv582 qv582 => ?_)
              have zv582 := ev582.trans cf
              refine w_ifne (t := 25) gz_178_4 rfl (fun u583 => by exfalso; omega) (fun u583 => ?_)
              refine w_aload_n gz_178_7 rfl ?_
              refine w_iload_n gz_178_8 rfl ?_
              refine w_bipush gz_178_9 (by decide) ?_
              refine w_aload_n gz_178_11 rfl ?_
              refine w_getX (v := 154) gz_178_12 is_151 rd_10 rfl (by decide) rfl ?_
              refine w_aload_n gz_178_15 rfl ?_
              refine v_getI (j := 7) gz_178_16 rfl is_151 rd_10 rfl (fun v585 ev585 pv585 qv585 => ?_)
              have zv585 := ev585.trans ek151_7.symm
              refine w_iald gz_178_19 is_154 rd_53 (by omega) (by omega) (fun v586 ev586 pv586 qv586 => ?_)
              refine w_imul gz_178_20 ⟨by omega, by omega⟩ ?_
              refine w_iadd gz_178_21 ⟨by omega, by omega⟩ ?_
              refine v_putI (j := 8) gz_178_22 rfl is_151 rd_10 rfl (by omega) (by omega) rfl (fun h587 fh587 => ?_)
              have gh587 : my_fr [(10, 7), (10, 8), (10, 27), (66, -1), (67, -1), (68, -1), (69, -1), (70, -1), (71, -1), (72, -1), (73, -1), (74, -1), (75, -1), (77, -1), (78, -1), (79, -1)] h h587 := my_fr.up my_fr.rf is_151 fh587 rfl
              have Tok_h587 : Tok h587 := Tok_ag (my_ag.up fh587 is_151 rfl) n_Tok
              have Mq_h587 : Mq h587 wv := Mq_ag (my_ag.up fh587 is_151 rfl) n_Mq
              have Wrd_h587 : Wrd h587 := Wrd_ag (my_ag.up fh587 is_151 rfl) n_Wrd
              refine w_vret gz_178_25 gm_178 ?_
              show wp l rho (d + 4) 185 88 [(2, 151), (0, 0), (0, 1), (0, 1), (0, 1), (9, 0), (9, 0), (9, 0)] [] h587 Q
              have ce588 : h587 151 7 = v585 := ((my_up_fld fh587 (by decide)).trans ev585.symm)
              have ce589 : h587 151 8 = (5 + (16 * v586)) := (my_up_self fh587)
              exact J88_0 (0) (1) (1) (1) ((5 + (16 * v586))) h587 (gh587) (by omega) (by omega) (by omega) (by omega) (by omega) (by omega) (by omega) (by omega) (by omega) (by omega) (((my_up_fld fh587 (by decide)).trans ev585.symm).trans (by omega)) ((my_up_self fh587).trans (by omega)) Tok_h587 Mq_h587 Wrd_h587 (by first | (intro q; exfalso; omega) | (intro _; assumption)) (by first | (intro q; exfalso; omega) | (intro _ q; omega) | (intro _ q; exfalso; have w := Wrd_h587; unfold Wrd at w; omega)) (by omega)
          ·
            show wp l rho (d + 4) 185 68 [(2, 151), (0, 0), (0, 1), (0, 1), (0, 1), (9, 0), (9, 0), (9, 0)] [(0, 1)] h Q
            refine w_ifne (t := 88) gz_185_68 rfl (fun u590 => ?_) (fun u590 => by exfalso; omega)
            have ce591 : h 151 7 = k151_7 := ek151_7.symm
            have ce592 : h 151 8 = 0 := cf
            exact J88_0 (0) (1) (1) (1) (0) h (my_fr.rf) (by omega) (by omega) (by omega) (by omega) (by omega) (by omega) (by omega) (by omega) (by omega) (by omega) (ek151_7.symm.trans (by omega)) (cf.trans (by omega)) n_Tok n_Mq n_Wrd (by first | (intro q; exfalso; omega) | (intro _; assumption)) (by first | (intro q; exfalso; omega) | (intro _ q; omega) | (intro _ q; exfalso; have w := n_Wrd; unfold Wrd at w; omega)) (by omega)
  ·
    show wp l rho (d + 4) 185 5 [(2, 151), (9, 0), (9, 0), (9, 0), (9, 0), (9, 0), (9, 0), (9, 0)] [(0, 1)] h Q
    refine w_istore_n (ls' := [(2, 151), (0, 1), (9, 0), (9, 0), (9, 0), (9, 0), (9, 0), (9, 0)]) gz_185_5 gm_185 rfl rfl rfl ?_
    refine w_aload_n gz_185_6 rfl ?_
    refine w_bipush gz_185_7 (by decide) ?_
    refine w_inv (k := 0) (as := [(0, 7)]) (r := []) (x := 151) (ls0 := [(2, 151), (0, 7)]) gz_185_9 gm_177 rfl is_151 rd_10 rfl rfl rfl rfl rfl (c_Model_isWord_f0 (d := (d + 3)) (x1 := 7) (by omega) (by omega) (cf.trans (by omega)) (fun w593 => ?_) (fun w594 xp595 xp596 xp597 => ?_))
    ·
      show wp l rho (d + 4) 185 12 [(2, 151), (0, 1), (9, 0), (9, 0), (9, 0), (9, 0), (9, 0), (9, 0)] [(0, 0)] h Q
      refine w_istore_n (ls' := [(2, 151), (0, 1), (0, 0), (9, 0), (9, 0), (9, 0), (9, 0), (9, 0)]) gz_185_12 gm_185 rfl rfl rfl ?_
      refine w_aload_n gz_185_13 rfl ?_
      refine w_bipush gz_185_14 (by decide) ?_
      refine w_inv (k := 0) (as := [(0, 8)]) (r := []) (x := 151) (ls0 := [(2, 151), (0, 8)]) gz_185_16 gm_177 rfl is_151 rd_10 rfl rfl rfl rfl rfl (c_Model_isWord_f0 (d := (d + 3)) (x1 := 8) (by omega) (by omega) (cf.trans (by omega)) (fun w598 => ?_) (fun w599 xp600 xp601 xp602 => ?_))
      ·
        show wp l rho (d + 4) 185 19 [(2, 151), (0, 1), (0, 0), (9, 0), (9, 0), (9, 0), (9, 0), (9, 0)] [(0, 0)] h Q
        refine w_istore_n (ls' := [(2, 151), (0, 1), (0, 0), (0, 0), (9, 0), (9, 0), (9, 0), (9, 0)]) gz_185_19 gm_185 rfl rfl rfl ?_
        refine w_aload_n gz_185_20 rfl ?_
        refine w_bipush gz_185_21 (by decide) ?_
        refine w_inv (k := 0) (as := [(0, 11)]) (r := []) (x := 151) (ls0 := [(2, 151), (0, 11)]) gz_185_23 gm_177 rfl is_151 rd_10 rfl rfl rfl rfl rfl (c_Model_isWord_f0 (d := (d + 3)) (x1 := 11) (by omega) (by omega) (cf.trans (by omega)) (fun w603 => ?_) (fun w604 xp605 xp606 xp607 => ?_))
        ·
          show wp l rho (d + 4) 185 26 [(2, 151), (0, 1), (0, 0), (0, 0), (9, 0), (9, 0), (9, 0), (9, 0)] [(0, 0)] h Q
          refine w_istore (ls' := [(2, 151), (0, 1), (0, 0), (0, 0), (0, 0), (9, 0), (9, 0), (9, 0)]) gz_185_26 gm_185 rfl rfl rfl ?_
          refine w_iload_n gz_185_28 rfl ?_
          refine w_ifne (t := 62) gz_185_29 rfl (fun u608 => ?_) (fun u608 => by exfalso; omega)
          refine w_aload_n gz_185_62 rfl ?_
          refine w_bipush gz_185_63 (by decide) ?_
          refine w_inv (k := 0) (as := [(0, 10)]) (r := []) (x := 151) (ls0 := [(2, 151), (0, 10)]) gz_185_65 gm_177 rfl is_151 rd_10 rfl rfl rfl rfl rfl (c_Model_isWord_f0 (d := (d + 3)) (x1 := 10) (by omega) (by omega) (cf.trans (by omega)) (fun w609 => ?_) (fun w610 xp611 xp612 xp613 => ?_))
          ·
            show wp l rho (d + 4) 185 68 [(2, 151), (0, 1), (0, 0), (0, 0), (0, 0), (9, 0), (9, 0), (9, 0)] [(0, 0)] h Q
            refine w_ifne (t := 88) gz_185_68 rfl (fun u614 => by exfalso; omega) (fun u614 => ?_)
            refine w_aload_n gz_185_71 rfl ?_
            refine w_getX (v := 167) gz_185_72 is_151 rd_10 rfl (by decide) rfl ?_
            refine w_bipush gz_185_75 (by decide) ?_
            refine w_iald gz_185_77 is_167 rd_66 (by omega) (by omega) (fun v616 ev616 pv616 qv616 => ?_)
            refine w_bipush gz_185_78 (by decide) ?_
            refine w_icne (t := 88) gz_185_80 rfl (fun u617 => ?_) (fun u617 => ?_)
            ·
              have ce618 : h 151 7 = k151_7 := ek151_7.symm
              have ce619 : h 151 8 = 0 := cf
              exact J88_0 (1) (0) (0) (0) (0) h (my_fr.rf) (by omega) (by omega) (by omega) (by omega) (by omega) (by omega) (by omega) (by omega) (by omega) (by omega) (ek151_7.symm.trans (by omega)) (cf.trans (by omega)) n_Tok n_Mq n_Wrd (by first | (intro q; exfalso; omega) | (intro _; assumption)) (by first | (intro q; exfalso; omega) | (intro _ q; omega) | (intro _ q; exfalso; have w := n_Wrd; unfold Wrd at w; omega)) (by omega)
            ·
              refine w_aload_n gz_185_83 rfl ?_
              refine w_iconst gz_185_84 (by decide) ?_
              refine w_inv (k := 0) (as := [(0, 5)]) (r := []) (x := 151) (ls0 := [(2, 151), (0, 5)]) gz_185_85 gm_178 rfl is_151 rd_10 rfl rfl rfl rfl rfl ?_
              refine w_aload_n gz_178_0 rfl ?_
              refine v_getI (j := 8) gz_178_1 rfl is_151 rd_10 rfl (fun v620 ev620 pv620 qv620 => ?_)
              have zv620 := ev620.trans cf
              refine w_ifne (t := 25) gz_178_4 rfl (fun u621 => by exfalso; omega) (fun u621 => ?_)
              refine w_aload_n gz_178_7 rfl ?_
              refine w_iload_n gz_178_8 rfl ?_
              refine w_bipush gz_178_9 (by decide) ?_
              refine w_aload_n gz_178_11 rfl ?_
              refine w_getX (v := 154) gz_178_12 is_151 rd_10 rfl (by decide) rfl ?_
              refine w_aload_n gz_178_15 rfl ?_
              refine v_getI (j := 7) gz_178_16 rfl is_151 rd_10 rfl (fun v623 ev623 pv623 qv623 => ?_)
              have zv623 := ev623.trans ek151_7.symm
              refine w_iald gz_178_19 is_154 rd_53 (by omega) (by omega) (fun v624 ev624 pv624 qv624 => ?_)
              refine w_imul gz_178_20 ⟨by omega, by omega⟩ ?_
              refine w_iadd gz_178_21 ⟨by omega, by omega⟩ ?_
              refine v_putI (j := 8) gz_178_22 rfl is_151 rd_10 rfl (by omega) (by omega) rfl (fun h625 fh625 => ?_)
              have gh625 : my_fr [(10, 7), (10, 8), (10, 27), (66, -1), (67, -1), (68, -1), (69, -1), (70, -1), (71, -1), (72, -1), (73, -1), (74, -1), (75, -1), (77, -1), (78, -1), (79, -1)] h h625 := my_fr.up my_fr.rf is_151 fh625 rfl
              have Tok_h625 : Tok h625 := Tok_ag (my_ag.up fh625 is_151 rfl) n_Tok
              have Mq_h625 : Mq h625 wv := Mq_ag (my_ag.up fh625 is_151 rfl) n_Mq
              have Wrd_h625 : Wrd h625 := Wrd_ag (my_ag.up fh625 is_151 rfl) n_Wrd
              refine w_vret gz_178_25 gm_178 ?_
              show wp l rho (d + 4) 185 88 [(2, 151), (0, 1), (0, 0), (0, 0), (0, 0), (9, 0), (9, 0), (9, 0)] [] h625 Q
              have ce626 : h625 151 7 = v623 := ((my_up_fld fh625 (by decide)).trans ev623.symm)
              have ce627 : h625 151 8 = (5 + (16 * v624)) := (my_up_self fh625)
              exact J88_0 (1) (0) (0) (0) ((5 + (16 * v624))) h625 (gh625) (by omega) (by omega) (by omega) (by omega) (by omega) (by omega) (by omega) (by omega) (by omega) (by omega) (((my_up_fld fh625 (by decide)).trans ev623.symm).trans (by omega)) ((my_up_self fh625).trans (by omega)) Tok_h625 Mq_h625 Wrd_h625 (by first | (intro q; exfalso; omega) | (intro _; assumption)) (by first | (intro q; exfalso; omega) | (intro _ q; omega) | (intro _ q; exfalso; have w := Wrd_h625; unfold Wrd at w; omega)) (by omega)
          ·
            show wp l rho (d + 4) 185 68 [(2, 151), (0, 1), (0, 0), (0, 0), (0, 0), (9, 0), (9, 0), (9, 0)] [(0, 1)] h Q
            refine w_ifne (t := 88) gz_185_68 rfl (fun u628 => ?_) (fun u628 => by exfalso; omega)
            have ce629 : h 151 7 = k151_7 := ek151_7.symm
            have ce630 : h 151 8 = 0 := cf
            exact J88_0 (1) (0) (0) (0) (0) h (my_fr.rf) (by omega) (by omega) (by omega) (by omega) (by omega) (by omega) (by omega) (by omega) (by omega) (by omega) (ek151_7.symm.trans (by omega)) (cf.trans (by omega)) n_Tok n_Mq n_Wrd (by first | (intro q; exfalso; omega) | (intro _; assumption)) (by first | (intro q; exfalso; omega) | (intro _ q; omega) | (intro _ q; exfalso; have w := n_Wrd; unfold Wrd at w; omega)) (by omega)
        ·
          show wp l rho (d + 4) 185 26 [(2, 151), (0, 1), (0, 0), (0, 0), (9, 0), (9, 0), (9, 0), (9, 0)] [(0, 1)] h Q
          refine w_istore (ls' := [(2, 151), (0, 1), (0, 0), (0, 0), (0, 1), (9, 0), (9, 0), (9, 0)]) gz_185_26 gm_185 rfl rfl rfl ?_
          refine w_iload_n gz_185_28 rfl ?_
          refine w_ifne (t := 62) gz_185_29 rfl (fun u631 => ?_) (fun u631 => by exfalso; omega)
          refine w_aload_n gz_185_62 rfl ?_
          refine w_bipush gz_185_63 (by decide) ?_
          refine w_inv (k := 0) (as := [(0, 10)]) (r := []) (x := 151) (ls0 := [(2, 151), (0, 10)]) gz_185_65 gm_177 rfl is_151 rd_10 rfl rfl rfl rfl rfl (c_Model_isWord_f0 (d := (d + 3)) (x1 := 10) (by omega) (by omega) (cf.trans (by omega)) (fun w632 => ?_) (fun w633 xp634 xp635 xp636 => ?_))
          ·
            show wp l rho (d + 4) 185 68 [(2, 151), (0, 1), (0, 0), (0, 0), (0, 1), (9, 0), (9, 0), (9, 0)] [(0, 0)] h Q
            refine w_ifne (t := 88) gz_185_68 rfl (fun u637 => by exfalso; omega) (fun u637 => ?_)
            refine w_aload_n gz_185_71 rfl ?_
            refine w_getX (v := 167) gz_185_72 is_151 rd_10 rfl (by decide) rfl ?_
            refine w_bipush gz_185_75 (by decide) ?_
            refine w_iald gz_185_77 is_167 rd_66 (by omega) (by omega) (fun v639 ev639 pv639 qv639 => ?_)
            refine w_bipush gz_185_78 (by decide) ?_
            refine w_icne (t := 88) gz_185_80 rfl (fun u640 => ?_) (fun u640 => ?_)
            ·
              have ce641 : h 151 7 = k151_7 := ek151_7.symm
              have ce642 : h 151 8 = 0 := cf
              exact J88_0 (1) (0) (0) (1) (0) h (my_fr.rf) (by omega) (by omega) (by omega) (by omega) (by omega) (by omega) (by omega) (by omega) (by omega) (by omega) (ek151_7.symm.trans (by omega)) (cf.trans (by omega)) n_Tok n_Mq n_Wrd (by first | (intro q; exfalso; omega) | (intro _; assumption)) (by first | (intro q; exfalso; omega) | (intro _ q; omega) | (intro _ q; exfalso; have w := n_Wrd; unfold Wrd at w; omega)) (by omega)
            ·
              refine w_aload_n gz_185_83 rfl ?_
              refine w_iconst gz_185_84 (by decide) ?_
              refine w_inv (k := 0) (as := [(0, 5)]) (r := []) (x := 151) (ls0 := [(2, 151), (0, 5)]) gz_185_85 gm_178 rfl is_151 rd_10 rfl rfl rfl rfl rfl ?_
              refine w_aload_n gz_178_0 rfl ?_
              refine v_getI (j := 8) gz_178_1 rfl is_151 rd_10 rfl (fun v643 ev643 pv643 qv643 => ?_)
              have zv643 := ev643.trans cf
              refine w_ifne (t := 25) gz_178_4 rfl (fun u644 => by exfalso; omega) (fun u644 => ?_)
              refine w_aload_n gz_178_7 rfl ?_
              refine w_iload_n gz_178_8 rfl ?_
              refine w_bipush gz_178_9 (by decide) ?_
              refine w_aload_n gz_178_11 rfl ?_
              refine w_getX (v := 154) gz_178_12 is_151 rd_10 rfl (by decide) rfl ?_
              refine w_aload_n gz_178_15 rfl ?_
              refine v_getI (j := 7) gz_178_16 rfl is_151 rd_10 rfl (fun v646 ev646 pv646 qv646 => ?_)
              have zv646 := ev646.trans ek151_7.symm
              refine w_iald gz_178_19 is_154 rd_53 (by omega) (by omega) (fun v647 ev647 pv647 qv647 => ?_)
              refine w_imul gz_178_20 ⟨by omega, by omega⟩ ?_
              refine w_iadd gz_178_21 ⟨by omega, by omega⟩ ?_
              refine v_putI (j := 8) gz_178_22 rfl is_151 rd_10 rfl (by omega) (by omega) rfl (fun h648 fh648 => ?_)
              have gh648 : my_fr [(10, 7), (10, 8), (10, 27), (66, -1), (67, -1), (68, -1), (69, -1), (70, -1), (71, -1), (72, -1), (73, -1), (74, -1), (75, -1), (77, -1), (78, -1), (79, -1)] h h648 := my_fr.up my_fr.rf is_151 fh648 rfl
              have Tok_h648 : Tok h648 := Tok_ag (my_ag.up fh648 is_151 rfl) n_Tok
              have Mq_h648 : Mq h648 wv := Mq_ag (my_ag.up fh648 is_151 rfl) n_Mq
              have Wrd_h648 : Wrd h648 := Wrd_ag (my_ag.up fh648 is_151 rfl) n_Wrd
              refine w_vret gz_178_25 gm_178 ?_
              show wp l rho (d + 4) 185 88 [(2, 151), (0, 1), (0, 0), (0, 0), (0, 1), (9, 0), (9, 0), (9, 0)] [] h648 Q
              have ce649 : h648 151 7 = v646 := ((my_up_fld fh648 (by decide)).trans ev646.symm)
              have ce650 : h648 151 8 = (5 + (16 * v647)) := (my_up_self fh648)
              exact J88_0 (1) (0) (0) (1) ((5 + (16 * v647))) h648 (gh648) (by omega) (by omega) (by omega) (by omega) (by omega) (by omega) (by omega) (by omega) (by omega) (by omega) (((my_up_fld fh648 (by decide)).trans ev646.symm).trans (by omega)) ((my_up_self fh648).trans (by omega)) Tok_h648 Mq_h648 Wrd_h648 (by first | (intro q; exfalso; omega) | (intro _; assumption)) (by first | (intro q; exfalso; omega) | (intro _ q; omega) | (intro _ q; exfalso; have w := Wrd_h648; unfold Wrd at w; omega)) (by omega)
          ·
            show wp l rho (d + 4) 185 68 [(2, 151), (0, 1), (0, 0), (0, 0), (0, 1), (9, 0), (9, 0), (9, 0)] [(0, 1)] h Q
            refine w_ifne (t := 88) gz_185_68 rfl (fun u651 => ?_) (fun u651 => by exfalso; omega)
            have ce652 : h 151 7 = k151_7 := ek151_7.symm
            have ce653 : h 151 8 = 0 := cf
            exact J88_0 (1) (0) (0) (1) (0) h (my_fr.rf) (by omega) (by omega) (by omega) (by omega) (by omega) (by omega) (by omega) (by omega) (by omega) (by omega) (ek151_7.symm.trans (by omega)) (cf.trans (by omega)) n_Tok n_Mq n_Wrd (by first | (intro q; exfalso; omega) | (intro _; assumption)) (by first | (intro q; exfalso; omega) | (intro _ q; omega) | (intro _ q; exfalso; have w := n_Wrd; unfold Wrd at w; omega)) (by omega)
      ·
        show wp l rho (d + 4) 185 19 [(2, 151), (0, 1), (0, 0), (9, 0), (9, 0), (9, 0), (9, 0), (9, 0)] [(0, 1)] h Q
        refine w_istore_n (ls' := [(2, 151), (0, 1), (0, 0), (0, 1), (9, 0), (9, 0), (9, 0), (9, 0)]) gz_185_19 gm_185 rfl rfl rfl ?_
        refine w_aload_n gz_185_20 rfl ?_
        refine w_bipush gz_185_21 (by decide) ?_
        refine w_inv (k := 0) (as := [(0, 11)]) (r := []) (x := 151) (ls0 := [(2, 151), (0, 11)]) gz_185_23 gm_177 rfl is_151 rd_10 rfl rfl rfl rfl rfl (c_Model_isWord_f0 (d := (d + 3)) (x1 := 11) (by omega) (by omega) (cf.trans (by omega)) (fun w654 => ?_) (fun w655 xp656 xp657 xp658 => ?_))
        ·
          show wp l rho (d + 4) 185 26 [(2, 151), (0, 1), (0, 0), (0, 1), (9, 0), (9, 0), (9, 0), (9, 0)] [(0, 0)] h Q
          refine w_istore (ls' := [(2, 151), (0, 1), (0, 0), (0, 1), (0, 0), (9, 0), (9, 0), (9, 0)]) gz_185_26 gm_185 rfl rfl rfl ?_
          refine w_iload_n gz_185_28 rfl ?_
          refine w_ifne (t := 62) gz_185_29 rfl (fun u659 => ?_) (fun u659 => by exfalso; omega)
          refine w_aload_n gz_185_62 rfl ?_
          refine w_bipush gz_185_63 (by decide) ?_
          refine w_inv (k := 0) (as := [(0, 10)]) (r := []) (x := 151) (ls0 := [(2, 151), (0, 10)]) gz_185_65 gm_177 rfl is_151 rd_10 rfl rfl rfl rfl rfl (c_Model_isWord_f0 (d := (d + 3)) (x1 := 10) (by omega) (by omega) (cf.trans (by omega)) (fun w660 => ?_) (fun w661 xp662 xp663 xp664 => ?_))
          ·
            show wp l rho (d + 4) 185 68 [(2, 151), (0, 1), (0, 0), (0, 1), (0, 0), (9, 0), (9, 0), (9, 0)] [(0, 0)] h Q
            refine w_ifne (t := 88) gz_185_68 rfl (fun u665 => by exfalso; omega) (fun u665 => ?_)
            refine w_aload_n gz_185_71 rfl ?_
            refine w_getX (v := 167) gz_185_72 is_151 rd_10 rfl (by decide) rfl ?_
            refine w_bipush gz_185_75 (by decide) ?_
            refine w_iald gz_185_77 is_167 rd_66 (by omega) (by omega) (fun v667 ev667 pv667 qv667 => ?_)
            refine w_bipush gz_185_78 (by decide) ?_
            refine w_icne (t := 88) gz_185_80 rfl (fun u668 => ?_) (fun u668 => ?_)
            ·
              have ce669 : h 151 7 = k151_7 := ek151_7.symm
              have ce670 : h 151 8 = 0 := cf
              exact J88_0 (1) (0) (1) (0) (0) h (my_fr.rf) (by omega) (by omega) (by omega) (by omega) (by omega) (by omega) (by omega) (by omega) (by omega) (by omega) (ek151_7.symm.trans (by omega)) (cf.trans (by omega)) n_Tok n_Mq n_Wrd (by first | (intro q; exfalso; omega) | (intro _; assumption)) (by first | (intro q; exfalso; omega) | (intro _ q; omega) | (intro _ q; exfalso; have w := n_Wrd; unfold Wrd at w; omega)) (by omega)
            ·
              refine w_aload_n gz_185_83 rfl ?_
              refine w_iconst gz_185_84 (by decide) ?_
              refine w_inv (k := 0) (as := [(0, 5)]) (r := []) (x := 151) (ls0 := [(2, 151), (0, 5)]) gz_185_85 gm_178 rfl is_151 rd_10 rfl rfl rfl rfl rfl ?_
              refine w_aload_n gz_178_0 rfl ?_
              refine v_getI (j := 8) gz_178_1 rfl is_151 rd_10 rfl (fun v671 ev671 pv671 qv671 => ?_)
              have zv671 := ev671.trans cf
              refine w_ifne (t := 25) gz_178_4 rfl (fun u672 => by exfalso; omega) (fun u672 => ?_)
              refine w_aload_n gz_178_7 rfl ?_
              refine w_iload_n gz_178_8 rfl ?_
              refine w_bipush gz_178_9 (by decide) ?_
              refine w_aload_n gz_178_11 rfl ?_
              refine w_getX (v := 154) gz_178_12 is_151 rd_10 rfl (by decide) rfl ?_
              refine w_aload_n gz_178_15 rfl ?_
              refine v_getI (j := 7) gz_178_16 rfl is_151 rd_10 rfl (fun v674 ev674 pv674 qv674 => ?_)
              have zv674 := ev674.trans ek151_7.symm
              refine w_iald gz_178_19 is_154 rd_53 (by omega) (by omega) (fun v675 ev675 pv675 qv675 => ?_)
              refine w_imul gz_178_20 ⟨by omega, by omega⟩ ?_
              refine w_iadd gz_178_21 ⟨by omega, by omega⟩ ?_
              refine v_putI (j := 8) gz_178_22 rfl is_151 rd_10 rfl (by omega) (by omega) rfl (fun h676 fh676 => ?_)
              have gh676 : my_fr [(10, 7), (10, 8), (10, 27), (66, -1), (67, -1), (68, -1), (69, -1), (70, -1), (71, -1), (72, -1), (73, -1), (74, -1), (75, -1), (77, -1), (78, -1), (79, -1)] h h676 := my_fr.up my_fr.rf is_151 fh676 rfl
              have Tok_h676 : Tok h676 := Tok_ag (my_ag.up fh676 is_151 rfl) n_Tok
              have Mq_h676 : Mq h676 wv := Mq_ag (my_ag.up fh676 is_151 rfl) n_Mq
              have Wrd_h676 : Wrd h676 := Wrd_ag (my_ag.up fh676 is_151 rfl) n_Wrd
              refine w_vret gz_178_25 gm_178 ?_
              show wp l rho (d + 4) 185 88 [(2, 151), (0, 1), (0, 0), (0, 1), (0, 0), (9, 0), (9, 0), (9, 0)] [] h676 Q
              have ce677 : h676 151 7 = v674 := ((my_up_fld fh676 (by decide)).trans ev674.symm)
              have ce678 : h676 151 8 = (5 + (16 * v675)) := (my_up_self fh676)
              exact J88_0 (1) (0) (1) (0) ((5 + (16 * v675))) h676 (gh676) (by omega) (by omega) (by omega) (by omega) (by omega) (by omega) (by omega) (by omega) (by omega) (by omega) (((my_up_fld fh676 (by decide)).trans ev674.symm).trans (by omega)) ((my_up_self fh676).trans (by omega)) Tok_h676 Mq_h676 Wrd_h676 (by first | (intro q; exfalso; omega) | (intro _; assumption)) (by first | (intro q; exfalso; omega) | (intro _ q; omega) | (intro _ q; exfalso; have w := Wrd_h676; unfold Wrd at w; omega)) (by omega)
          ·
            show wp l rho (d + 4) 185 68 [(2, 151), (0, 1), (0, 0), (0, 1), (0, 0), (9, 0), (9, 0), (9, 0)] [(0, 1)] h Q
            refine w_ifne (t := 88) gz_185_68 rfl (fun u679 => ?_) (fun u679 => by exfalso; omega)
            have ce680 : h 151 7 = k151_7 := ek151_7.symm
            have ce681 : h 151 8 = 0 := cf
            exact J88_0 (1) (0) (1) (0) (0) h (my_fr.rf) (by omega) (by omega) (by omega) (by omega) (by omega) (by omega) (by omega) (by omega) (by omega) (by omega) (ek151_7.symm.trans (by omega)) (cf.trans (by omega)) n_Tok n_Mq n_Wrd (by first | (intro q; exfalso; omega) | (intro _; assumption)) (by first | (intro q; exfalso; omega) | (intro _ q; omega) | (intro _ q; exfalso; have w := n_Wrd; unfold Wrd at w; omega)) (by omega)
        ·
          show wp l rho (d + 4) 185 26 [(2, 151), (0, 1), (0, 0), (0, 1), (9, 0), (9, 0), (9, 0), (9, 0)] [(0, 1)] h Q
          refine w_istore (ls' := [(2, 151), (0, 1), (0, 0), (0, 1), (0, 1), (9, 0), (9, 0), (9, 0)]) gz_185_26 gm_185 rfl rfl rfl ?_
          refine w_iload_n gz_185_28 rfl ?_
          refine w_ifne (t := 62) gz_185_29 rfl (fun u682 => ?_) (fun u682 => by exfalso; omega)
          refine w_aload_n gz_185_62 rfl ?_
          refine w_bipush gz_185_63 (by decide) ?_
          refine w_inv (k := 0) (as := [(0, 10)]) (r := []) (x := 151) (ls0 := [(2, 151), (0, 10)]) gz_185_65 gm_177 rfl is_151 rd_10 rfl rfl rfl rfl rfl (c_Model_isWord_f0 (d := (d + 3)) (x1 := 10) (by omega) (by omega) (cf.trans (by omega)) (fun w683 => ?_) (fun w684 xp685 xp686 xp687 => ?_))
          ·
            show wp l rho (d + 4) 185 68 [(2, 151), (0, 1), (0, 0), (0, 1), (0, 1), (9, 0), (9, 0), (9, 0)] [(0, 0)] h Q
            refine w_ifne (t := 88) gz_185_68 rfl (fun u688 => by exfalso; omega) (fun u688 => ?_)
            refine w_aload_n gz_185_71 rfl ?_
            refine w_getX (v := 167) gz_185_72 is_151 rd_10 rfl (by decide) rfl ?_
            refine w_bipush gz_185_75 (by decide) ?_
            refine w_iald gz_185_77 is_167 rd_66 (by omega) (by omega) (fun v690 ev690 pv690 qv690 => ?_)
            refine w_bipush gz_185_78 (by decide) ?_
            refine w_icne (t := 88) gz_185_80 rfl (fun u691 => ?_) (fun u691 => ?_)
            ·
              have ce692 : h 151 7 = k151_7 := ek151_7.symm
              have ce693 : h 151 8 = 0 := cf
              exact J88_0 (1) (0) (1) (1) (0) h (my_fr.rf) (by omega) (by omega) (by omega) (by omega) (by omega) (by omega) (by omega) (by omega) (by omega) (by omega) (ek151_7.symm.trans (by omega)) (cf.trans (by omega)) n_Tok n_Mq n_Wrd (by first | (intro q; exfalso; omega) | (intro _; assumption)) (by first | (intro q; exfalso; omega) | (intro _ q; omega) | (intro _ q; exfalso; have w := n_Wrd; unfold Wrd at w; omega)) (by omega)
            ·
              refine w_aload_n gz_185_83 rfl ?_
              refine w_iconst gz_185_84 (by decide) ?_
              refine w_inv (k := 0) (as := [(0, 5)]) (r := []) (x := 151) (ls0 := [(2, 151), (0, 5)]) gz_185_85 gm_178 rfl is_151 rd_10 rfl rfl rfl rfl rfl ?_
              refine w_aload_n gz_178_0 rfl ?_
              refine v_getI (j := 8) gz_178_1 rfl is_151 rd_10 rfl (fun v694 ev694 pv694 qv694 => ?_)
              have zv694 := ev694.trans cf
              refine w_ifne (t := 25) gz_178_4 rfl (fun u695 => by exfalso; omega) (fun u695 => ?_)
              refine w_aload_n gz_178_7 rfl ?_
              refine w_iload_n gz_178_8 rfl ?_
              refine w_bipush gz_178_9 (by decide) ?_
              refine w_aload_n gz_178_11 rfl ?_
              refine w_getX (v := 154) gz_178_12 is_151 rd_10 rfl (by decide) rfl ?_
              refine w_aload_n gz_178_15 rfl ?_
              refine v_getI (j := 7) gz_178_16 rfl is_151 rd_10 rfl (fun v697 ev697 pv697 qv697 => ?_)
              have zv697 := ev697.trans ek151_7.symm
              refine w_iald gz_178_19 is_154 rd_53 (by omega) (by omega) (fun v698 ev698 pv698 qv698 => ?_)
              refine w_imul gz_178_20 ⟨by omega, by omega⟩ ?_
              refine w_iadd gz_178_21 ⟨by omega, by omega⟩ ?_
              refine v_putI (j := 8) gz_178_22 rfl is_151 rd_10 rfl (by omega) (by omega) rfl (fun h699 fh699 => ?_)
              have gh699 : my_fr [(10, 7), (10, 8), (10, 27), (66, -1), (67, -1), (68, -1), (69, -1), (70, -1), (71, -1), (72, -1), (73, -1), (74, -1), (75, -1), (77, -1), (78, -1), (79, -1)] h h699 := my_fr.up my_fr.rf is_151 fh699 rfl
              have Tok_h699 : Tok h699 := Tok_ag (my_ag.up fh699 is_151 rfl) n_Tok
              have Mq_h699 : Mq h699 wv := Mq_ag (my_ag.up fh699 is_151 rfl) n_Mq
              have Wrd_h699 : Wrd h699 := Wrd_ag (my_ag.up fh699 is_151 rfl) n_Wrd
              refine w_vret gz_178_25 gm_178 ?_
              show wp l rho (d + 4) 185 88 [(2, 151), (0, 1), (0, 0), (0, 1), (0, 1), (9, 0), (9, 0), (9, 0)] [] h699 Q
              have ce700 : h699 151 7 = v697 := ((my_up_fld fh699 (by decide)).trans ev697.symm)
              have ce701 : h699 151 8 = (5 + (16 * v698)) := (my_up_self fh699)
              exact J88_0 (1) (0) (1) (1) ((5 + (16 * v698))) h699 (gh699) (by omega) (by omega) (by omega) (by omega) (by omega) (by omega) (by omega) (by omega) (by omega) (by omega) (((my_up_fld fh699 (by decide)).trans ev697.symm).trans (by omega)) ((my_up_self fh699).trans (by omega)) Tok_h699 Mq_h699 Wrd_h699 (by first | (intro q; exfalso; omega) | (intro _; assumption)) (by first | (intro q; exfalso; omega) | (intro _ q; omega) | (intro _ q; exfalso; have w := Wrd_h699; unfold Wrd at w; omega)) (by omega)
          ·
            show wp l rho (d + 4) 185 68 [(2, 151), (0, 1), (0, 0), (0, 1), (0, 1), (9, 0), (9, 0), (9, 0)] [(0, 1)] h Q
            refine w_ifne (t := 88) gz_185_68 rfl (fun u702 => ?_) (fun u702 => by exfalso; omega)
            have ce703 : h 151 7 = k151_7 := ek151_7.symm
            have ce704 : h 151 8 = 0 := cf
            exact J88_0 (1) (0) (1) (1) (0) h (my_fr.rf) (by omega) (by omega) (by omega) (by omega) (by omega) (by omega) (by omega) (by omega) (by omega) (by omega) (ek151_7.symm.trans (by omega)) (cf.trans (by omega)) n_Tok n_Mq n_Wrd (by first | (intro q; exfalso; omega) | (intro _; assumption)) (by first | (intro q; exfalso; omega) | (intro _ q; omega) | (intro _ q; exfalso; have w := n_Wrd; unfold Wrd at w; omega)) (by omega)
    ·
      show wp l rho (d + 4) 185 12 [(2, 151), (0, 1), (9, 0), (9, 0), (9, 0), (9, 0), (9, 0), (9, 0)] [(0, 1)] h Q
      refine w_istore_n (ls' := [(2, 151), (0, 1), (0, 1), (9, 0), (9, 0), (9, 0), (9, 0), (9, 0)]) gz_185_12 gm_185 rfl rfl rfl ?_
      refine w_aload_n gz_185_13 rfl ?_
      refine w_bipush gz_185_14 (by decide) ?_
      refine w_inv (k := 0) (as := [(0, 8)]) (r := []) (x := 151) (ls0 := [(2, 151), (0, 8)]) gz_185_16 gm_177 rfl is_151 rd_10 rfl rfl rfl rfl rfl (c_Model_isWord_f0 (d := (d + 3)) (x1 := 8) (by omega) (by omega) (cf.trans (by omega)) (fun w705 => ?_) (fun w706 xp707 xp708 xp709 => ?_))
      ·
        show wp l rho (d + 4) 185 19 [(2, 151), (0, 1), (0, 1), (9, 0), (9, 0), (9, 0), (9, 0), (9, 0)] [(0, 0)] h Q
        refine w_istore_n (ls' := [(2, 151), (0, 1), (0, 1), (0, 0), (9, 0), (9, 0), (9, 0), (9, 0)]) gz_185_19 gm_185 rfl rfl rfl ?_
        refine w_aload_n gz_185_20 rfl ?_
        refine w_bipush gz_185_21 (by decide) ?_
        refine w_inv (k := 0) (as := [(0, 11)]) (r := []) (x := 151) (ls0 := [(2, 151), (0, 11)]) gz_185_23 gm_177 rfl is_151 rd_10 rfl rfl rfl rfl rfl (c_Model_isWord_f0 (d := (d + 3)) (x1 := 11) (by omega) (by omega) (cf.trans (by omega)) (fun w710 => ?_) (fun w711 xp712 xp713 xp714 => ?_))
        ·
          show wp l rho (d + 4) 185 26 [(2, 151), (0, 1), (0, 1), (0, 0), (9, 0), (9, 0), (9, 0), (9, 0)] [(0, 0)] h Q
          refine w_istore (ls' := [(2, 151), (0, 1), (0, 1), (0, 0), (0, 0), (9, 0), (9, 0), (9, 0)]) gz_185_26 gm_185 rfl rfl rfl ?_
          refine w_iload_n gz_185_28 rfl ?_
          refine w_ifne (t := 62) gz_185_29 rfl (fun u715 => ?_) (fun u715 => by exfalso; omega)
          refine w_aload_n gz_185_62 rfl ?_
          refine w_bipush gz_185_63 (by decide) ?_
          refine w_inv (k := 0) (as := [(0, 10)]) (r := []) (x := 151) (ls0 := [(2, 151), (0, 10)]) gz_185_65 gm_177 rfl is_151 rd_10 rfl rfl rfl rfl rfl (c_Model_isWord_f0 (d := (d + 3)) (x1 := 10) (by omega) (by omega) (cf.trans (by omega)) (fun w716 => ?_) (fun w717 xp718 xp719 xp720 => ?_))
          ·
            show wp l rho (d + 4) 185 68 [(2, 151), (0, 1), (0, 1), (0, 0), (0, 0), (9, 0), (9, 0), (9, 0)] [(0, 0)] h Q
            refine w_ifne (t := 88) gz_185_68 rfl (fun u721 => by exfalso; omega) (fun u721 => ?_)
            refine w_aload_n gz_185_71 rfl ?_
            refine w_getX (v := 167) gz_185_72 is_151 rd_10 rfl (by decide) rfl ?_
            refine w_bipush gz_185_75 (by decide) ?_
            refine w_iald gz_185_77 is_167 rd_66 (by omega) (by omega) (fun v723 ev723 pv723 qv723 => ?_)
            refine w_bipush gz_185_78 (by decide) ?_
            refine w_icne (t := 88) gz_185_80 rfl (fun u724 => ?_) (fun u724 => ?_)
            ·
              have ce725 : h 151 7 = k151_7 := ek151_7.symm
              have ce726 : h 151 8 = 0 := cf
              exact J88_0 (1) (1) (0) (0) (0) h (my_fr.rf) (by omega) (by omega) (by omega) (by omega) (by omega) (by omega) (by omega) (by omega) (by omega) (by omega) (ek151_7.symm.trans (by omega)) (cf.trans (by omega)) n_Tok n_Mq n_Wrd (by first | (intro q; exfalso; omega) | (intro _; assumption)) (by first | (intro q; exfalso; omega) | (intro _ q; omega) | (intro _ q; exfalso; have w := n_Wrd; unfold Wrd at w; omega)) (by omega)
            ·
              refine w_aload_n gz_185_83 rfl ?_
              refine w_iconst gz_185_84 (by decide) ?_
              refine w_inv (k := 0) (as := [(0, 5)]) (r := []) (x := 151) (ls0 := [(2, 151), (0, 5)]) gz_185_85 gm_178 rfl is_151 rd_10 rfl rfl rfl rfl rfl ?_
              refine w_aload_n gz_178_0 rfl ?_
              refine v_getI (j := 8) gz_178_1 rfl is_151 rd_10 rfl (fun v727 ev727 pv727 qv727 => ?_)
              have zv727 := ev727.trans cf
              refine w_ifne (t := 25) gz_178_4 rfl (fun u728 => by exfalso; omega) (fun u728 => ?_)
              refine w_aload_n gz_178_7 rfl ?_
              refine w_iload_n gz_178_8 rfl ?_
              refine w_bipush gz_178_9 (by decide) ?_
              refine w_aload_n gz_178_11 rfl ?_
              refine w_getX (v := 154) gz_178_12 is_151 rd_10 rfl (by decide) rfl ?_
              refine w_aload_n gz_178_15 rfl ?_
              refine v_getI (j := 7) gz_178_16 rfl is_151 rd_10 rfl (fun v730 ev730 pv730 qv730 => ?_)
              have zv730 := ev730.trans ek151_7.symm
              refine w_iald gz_178_19 is_154 rd_53 (by omega) (by omega) (fun v731 ev731 pv731 qv731 => ?_)
              refine w_imul gz_178_20 ⟨by omega, by omega⟩ ?_
              refine w_iadd gz_178_21 ⟨by omega, by omega⟩ ?_
              refine v_putI (j := 8) gz_178_22 rfl is_151 rd_10 rfl (by omega) (by omega) rfl (fun h732 fh732 => ?_)
              have gh732 : my_fr [(10, 7), (10, 8), (10, 27), (66, -1), (67, -1), (68, -1), (69, -1), (70, -1), (71, -1), (72, -1), (73, -1), (74, -1), (75, -1), (77, -1), (78, -1), (79, -1)] h h732 := my_fr.up my_fr.rf is_151 fh732 rfl
              have Tok_h732 : Tok h732 := Tok_ag (my_ag.up fh732 is_151 rfl) n_Tok
              have Mq_h732 : Mq h732 wv := Mq_ag (my_ag.up fh732 is_151 rfl) n_Mq
              have Wrd_h732 : Wrd h732 := Wrd_ag (my_ag.up fh732 is_151 rfl) n_Wrd
              refine w_vret gz_178_25 gm_178 ?_
              show wp l rho (d + 4) 185 88 [(2, 151), (0, 1), (0, 1), (0, 0), (0, 0), (9, 0), (9, 0), (9, 0)] [] h732 Q
              have ce733 : h732 151 7 = v730 := ((my_up_fld fh732 (by decide)).trans ev730.symm)
              have ce734 : h732 151 8 = (5 + (16 * v731)) := (my_up_self fh732)
              exact J88_0 (1) (1) (0) (0) ((5 + (16 * v731))) h732 (gh732) (by omega) (by omega) (by omega) (by omega) (by omega) (by omega) (by omega) (by omega) (by omega) (by omega) (((my_up_fld fh732 (by decide)).trans ev730.symm).trans (by omega)) ((my_up_self fh732).trans (by omega)) Tok_h732 Mq_h732 Wrd_h732 (by first | (intro q; exfalso; omega) | (intro _; assumption)) (by first | (intro q; exfalso; omega) | (intro _ q; omega) | (intro _ q; exfalso; have w := Wrd_h732; unfold Wrd at w; omega)) (by omega)
          ·
            show wp l rho (d + 4) 185 68 [(2, 151), (0, 1), (0, 1), (0, 0), (0, 0), (9, 0), (9, 0), (9, 0)] [(0, 1)] h Q
            refine w_ifne (t := 88) gz_185_68 rfl (fun u735 => ?_) (fun u735 => by exfalso; omega)
            have ce736 : h 151 7 = k151_7 := ek151_7.symm
            have ce737 : h 151 8 = 0 := cf
            exact J88_0 (1) (1) (0) (0) (0) h (my_fr.rf) (by omega) (by omega) (by omega) (by omega) (by omega) (by omega) (by omega) (by omega) (by omega) (by omega) (ek151_7.symm.trans (by omega)) (cf.trans (by omega)) n_Tok n_Mq n_Wrd (by first | (intro q; exfalso; omega) | (intro _; assumption)) (by first | (intro q; exfalso; omega) | (intro _ q; omega) | (intro _ q; exfalso; have w := n_Wrd; unfold Wrd at w; omega)) (by omega)
        ·
          show wp l rho (d + 4) 185 26 [(2, 151), (0, 1), (0, 1), (0, 0), (9, 0), (9, 0), (9, 0), (9, 0)] [(0, 1)] h Q
          refine w_istore (ls' := [(2, 151), (0, 1), (0, 1), (0, 0), (0, 1), (9, 0), (9, 0), (9, 0)]) gz_185_26 gm_185 rfl rfl rfl ?_
          refine w_iload_n gz_185_28 rfl ?_
          refine w_ifne (t := 62) gz_185_29 rfl (fun u738 => ?_) (fun u738 => by exfalso; omega)
          refine w_aload_n gz_185_62 rfl ?_
          refine w_bipush gz_185_63 (by decide) ?_
          refine w_inv (k := 0) (as := [(0, 10)]) (r := []) (x := 151) (ls0 := [(2, 151), (0, 10)]) gz_185_65 gm_177 rfl is_151 rd_10 rfl rfl rfl rfl rfl (c_Model_isWord_f0 (d := (d + 3)) (x1 := 10) (by omega) (by omega) (cf.trans (by omega)) (fun w739 => ?_) (fun w740 xp741 xp742 xp743 => ?_))
          ·
            show wp l rho (d + 4) 185 68 [(2, 151), (0, 1), (0, 1), (0, 0), (0, 1), (9, 0), (9, 0), (9, 0)] [(0, 0)] h Q
            refine w_ifne (t := 88) gz_185_68 rfl (fun u744 => by exfalso; omega) (fun u744 => ?_)
            refine w_aload_n gz_185_71 rfl ?_
            refine w_getX (v := 167) gz_185_72 is_151 rd_10 rfl (by decide) rfl ?_
            refine w_bipush gz_185_75 (by decide) ?_
            refine w_iald gz_185_77 is_167 rd_66 (by omega) (by omega) (fun v746 ev746 pv746 qv746 => ?_)
            refine w_bipush gz_185_78 (by decide) ?_
            refine w_icne (t := 88) gz_185_80 rfl (fun u747 => ?_) (fun u747 => ?_)
            ·
              have ce748 : h 151 7 = k151_7 := ek151_7.symm
              have ce749 : h 151 8 = 0 := cf
              exact J88_0 (1) (1) (0) (1) (0) h (my_fr.rf) (by omega) (by omega) (by omega) (by omega) (by omega) (by omega) (by omega) (by omega) (by omega) (by omega) (ek151_7.symm.trans (by omega)) (cf.trans (by omega)) n_Tok n_Mq n_Wrd (by first | (intro q; exfalso; omega) | (intro _; assumption)) (by first | (intro q; exfalso; omega) | (intro _ q; omega) | (intro _ q; exfalso; have w := n_Wrd; unfold Wrd at w; omega)) (by omega)
            ·
              refine w_aload_n gz_185_83 rfl ?_
              refine w_iconst gz_185_84 (by decide) ?_
              refine w_inv (k := 0) (as := [(0, 5)]) (r := []) (x := 151) (ls0 := [(2, 151), (0, 5)]) gz_185_85 gm_178 rfl is_151 rd_10 rfl rfl rfl rfl rfl ?_
              refine w_aload_n gz_178_0 rfl ?_
              refine v_getI (j := 8) gz_178_1 rfl is_151 rd_10 rfl (fun v750 ev750 pv750 qv750 => ?_)
              have zv750 := ev750.trans cf
              refine w_ifne (t := 25) gz_178_4 rfl (fun u751 => by exfalso; omega) (fun u751 => ?_)
              refine w_aload_n gz_178_7 rfl ?_
              refine w_iload_n gz_178_8 rfl ?_
              refine w_bipush gz_178_9 (by decide) ?_
              refine w_aload_n gz_178_11 rfl ?_
              refine w_getX (v := 154) gz_178_12 is_151 rd_10 rfl (by decide) rfl ?_
              refine w_aload_n gz_178_15 rfl ?_
              refine v_getI (j := 7) gz_178_16 rfl is_151 rd_10 rfl (fun v753 ev753 pv753 qv753 => ?_)
              have zv753 := ev753.trans ek151_7.symm
              refine w_iald gz_178_19 is_154 rd_53 (by omega) (by omega) (fun v754 ev754 pv754 qv754 => ?_)
              refine w_imul gz_178_20 ⟨by omega, by omega⟩ ?_
              refine w_iadd gz_178_21 ⟨by omega, by omega⟩ ?_
              refine v_putI (j := 8) gz_178_22 rfl is_151 rd_10 rfl (by omega) (by omega) rfl (fun h755 fh755 => ?_)
              have gh755 : my_fr [(10, 7), (10, 8), (10, 27), (66, -1), (67, -1), (68, -1), (69, -1), (70, -1), (71, -1), (72, -1), (73, -1), (74, -1), (75, -1), (77, -1), (78, -1), (79, -1)] h h755 := my_fr.up my_fr.rf is_151 fh755 rfl
              have Tok_h755 : Tok h755 := Tok_ag (my_ag.up fh755 is_151 rfl) n_Tok
              have Mq_h755 : Mq h755 wv := Mq_ag (my_ag.up fh755 is_151 rfl) n_Mq
              have Wrd_h755 : Wrd h755 := Wrd_ag (my_ag.up fh755 is_151 rfl) n_Wrd
              refine w_vret gz_178_25 gm_178 ?_
              show wp l rho (d + 4) 185 88 [(2, 151), (0, 1), (0, 1), (0, 0), (0, 1), (9, 0), (9, 0), (9, 0)] [] h755 Q
              have ce756 : h755 151 7 = v753 := ((my_up_fld fh755 (by decide)).trans ev753.symm)
              have ce757 : h755 151 8 = (5 + (16 * v754)) := (my_up_self fh755)
              exact J88_0 (1) (1) (0) (1) ((5 + (16 * v754))) h755 (gh755) (by omega) (by omega) (by omega) (by omega) (by omega) (by omega) (by omega) (by omega) (by omega) (by omega) (((my_up_fld fh755 (by decide)).trans ev753.symm).trans (by omega)) ((my_up_self fh755).trans (by omega)) Tok_h755 Mq_h755 Wrd_h755 (by first | (intro q; exfalso; omega) | (intro _; assumption)) (by first | (intro q; exfalso; omega) | (intro _ q; omega) | (intro _ q; exfalso; have w := Wrd_h755; unfold Wrd at w; omega)) (by omega)
          ·
            show wp l rho (d + 4) 185 68 [(2, 151), (0, 1), (0, 1), (0, 0), (0, 1), (9, 0), (9, 0), (9, 0)] [(0, 1)] h Q
            refine w_ifne (t := 88) gz_185_68 rfl (fun u758 => ?_) (fun u758 => by exfalso; omega)
            have ce759 : h 151 7 = k151_7 := ek151_7.symm
            have ce760 : h 151 8 = 0 := cf
            exact J88_0 (1) (1) (0) (1) (0) h (my_fr.rf) (by omega) (by omega) (by omega) (by omega) (by omega) (by omega) (by omega) (by omega) (by omega) (by omega) (ek151_7.symm.trans (by omega)) (cf.trans (by omega)) n_Tok n_Mq n_Wrd (by first | (intro q; exfalso; omega) | (intro _; assumption)) (by first | (intro q; exfalso; omega) | (intro _ q; omega) | (intro _ q; exfalso; have w := n_Wrd; unfold Wrd at w; omega)) (by omega)
      ·
        show wp l rho (d + 4) 185 19 [(2, 151), (0, 1), (0, 1), (9, 0), (9, 0), (9, 0), (9, 0), (9, 0)] [(0, 1)] h Q
        refine w_istore_n (ls' := [(2, 151), (0, 1), (0, 1), (0, 1), (9, 0), (9, 0), (9, 0), (9, 0)]) gz_185_19 gm_185 rfl rfl rfl ?_
        refine w_aload_n gz_185_20 rfl ?_
        refine w_bipush gz_185_21 (by decide) ?_
        refine w_inv (k := 0) (as := [(0, 11)]) (r := []) (x := 151) (ls0 := [(2, 151), (0, 11)]) gz_185_23 gm_177 rfl is_151 rd_10 rfl rfl rfl rfl rfl (c_Model_isWord_f0 (d := (d + 3)) (x1 := 11) (by omega) (by omega) (cf.trans (by omega)) (fun w761 => ?_) (fun w762 xp763 xp764 xp765 => ?_))
        ·
          show wp l rho (d + 4) 185 26 [(2, 151), (0, 1), (0, 1), (0, 1), (9, 0), (9, 0), (9, 0), (9, 0)] [(0, 0)] h Q
          refine w_istore (ls' := [(2, 151), (0, 1), (0, 1), (0, 1), (0, 0), (9, 0), (9, 0), (9, 0)]) gz_185_26 gm_185 rfl rfl rfl ?_
          refine w_iload_n gz_185_28 rfl ?_
          refine w_ifne (t := 62) gz_185_29 rfl (fun u766 => ?_) (fun u766 => by exfalso; omega)
          refine w_aload_n gz_185_62 rfl ?_
          refine w_bipush gz_185_63 (by decide) ?_
          refine w_inv (k := 0) (as := [(0, 10)]) (r := []) (x := 151) (ls0 := [(2, 151), (0, 10)]) gz_185_65 gm_177 rfl is_151 rd_10 rfl rfl rfl rfl rfl (c_Model_isWord_f0 (d := (d + 3)) (x1 := 10) (by omega) (by omega) (cf.trans (by omega)) (fun w767 => ?_) (fun w768 xp769 xp770 xp771 => ?_))
          ·
            show wp l rho (d + 4) 185 68 [(2, 151), (0, 1), (0, 1), (0, 1), (0, 0), (9, 0), (9, 0), (9, 0)] [(0, 0)] h Q
            refine w_ifne (t := 88) gz_185_68 rfl (fun u772 => by exfalso; omega) (fun u772 => ?_)
            refine w_aload_n gz_185_71 rfl ?_
            refine w_getX (v := 167) gz_185_72 is_151 rd_10 rfl (by decide) rfl ?_
            refine w_bipush gz_185_75 (by decide) ?_
            refine w_iald gz_185_77 is_167 rd_66 (by omega) (by omega) (fun v774 ev774 pv774 qv774 => ?_)
            refine w_bipush gz_185_78 (by decide) ?_
            refine w_icne (t := 88) gz_185_80 rfl (fun u775 => ?_) (fun u775 => ?_)
            ·
              have ce776 : h 151 7 = k151_7 := ek151_7.symm
              have ce777 : h 151 8 = 0 := cf
              exact J88_0 (1) (1) (1) (0) (0) h (my_fr.rf) (by omega) (by omega) (by omega) (by omega) (by omega) (by omega) (by omega) (by omega) (by omega) (by omega) (ek151_7.symm.trans (by omega)) (cf.trans (by omega)) n_Tok n_Mq n_Wrd (by first | (intro q; exfalso; omega) | (intro _; assumption)) (by first | (intro q; exfalso; omega) | (intro _ q; omega) | (intro _ q; exfalso; have w := n_Wrd; unfold Wrd at w; omega)) (by omega)
            ·
              refine w_aload_n gz_185_83 rfl ?_
              refine w_iconst gz_185_84 (by decide) ?_
              refine w_inv (k := 0) (as := [(0, 5)]) (r := []) (x := 151) (ls0 := [(2, 151), (0, 5)]) gz_185_85 gm_178 rfl is_151 rd_10 rfl rfl rfl rfl rfl ?_
              refine w_aload_n gz_178_0 rfl ?_
              refine v_getI (j := 8) gz_178_1 rfl is_151 rd_10 rfl (fun v778 ev778 pv778 qv778 => ?_)
              have zv778 := ev778.trans cf
              refine w_ifne (t := 25) gz_178_4 rfl (fun u779 => by exfalso; omega) (fun u779 => ?_)
              refine w_aload_n gz_178_7 rfl ?_
              refine w_iload_n gz_178_8 rfl ?_
              refine w_bipush gz_178_9 (by decide) ?_
              refine w_aload_n gz_178_11 rfl ?_
              refine w_getX (v := 154) gz_178_12 is_151 rd_10 rfl (by decide) rfl ?_
              refine w_aload_n gz_178_15 rfl ?_
              refine v_getI (j := 7) gz_178_16 rfl is_151 rd_10 rfl (fun v781 ev781 pv781 qv781 => ?_)
              have zv781 := ev781.trans ek151_7.symm
              refine w_iald gz_178_19 is_154 rd_53 (by omega) (by omega) (fun v782 ev782 pv782 qv782 => ?_)
              refine w_imul gz_178_20 ⟨by omega, by omega⟩ ?_
              refine w_iadd gz_178_21 ⟨by omega, by omega⟩ ?_
              refine v_putI (j := 8) gz_178_22 rfl is_151 rd_10 rfl (by omega) (by omega) rfl (fun h783 fh783 => ?_)
              have gh783 : my_fr [(10, 7), (10, 8), (10, 27), (66, -1), (67, -1), (68, -1), (69, -1), (70, -1), (71, -1), (72, -1), (73, -1), (74, -1), (75, -1), (77, -1), (78, -1), (79, -1)] h h783 := my_fr.up my_fr.rf is_151 fh783 rfl
              have Tok_h783 : Tok h783 := Tok_ag (my_ag.up fh783 is_151 rfl) n_Tok
              have Mq_h783 : Mq h783 wv := Mq_ag (my_ag.up fh783 is_151 rfl) n_Mq
              have Wrd_h783 : Wrd h783 := Wrd_ag (my_ag.up fh783 is_151 rfl) n_Wrd
              refine w_vret gz_178_25 gm_178 ?_
              show wp l rho (d + 4) 185 88 [(2, 151), (0, 1), (0, 1), (0, 1), (0, 0), (9, 0), (9, 0), (9, 0)] [] h783 Q
              have ce784 : h783 151 7 = v781 := ((my_up_fld fh783 (by decide)).trans ev781.symm)
              have ce785 : h783 151 8 = (5 + (16 * v782)) := (my_up_self fh783)
              exact J88_0 (1) (1) (1) (0) ((5 + (16 * v782))) h783 (gh783) (by omega) (by omega) (by omega) (by omega) (by omega) (by omega) (by omega) (by omega) (by omega) (by omega) (((my_up_fld fh783 (by decide)).trans ev781.symm).trans (by omega)) ((my_up_self fh783).trans (by omega)) Tok_h783 Mq_h783 Wrd_h783 (by first | (intro q; exfalso; omega) | (intro _; assumption)) (by first | (intro q; exfalso; omega) | (intro _ q; omega) | (intro _ q; exfalso; have w := Wrd_h783; unfold Wrd at w; omega)) (by omega)
          ·
            show wp l rho (d + 4) 185 68 [(2, 151), (0, 1), (0, 1), (0, 1), (0, 0), (9, 0), (9, 0), (9, 0)] [(0, 1)] h Q
            refine w_ifne (t := 88) gz_185_68 rfl (fun u786 => ?_) (fun u786 => by exfalso; omega)
            have ce787 : h 151 7 = k151_7 := ek151_7.symm
            have ce788 : h 151 8 = 0 := cf
            exact J88_0 (1) (1) (1) (0) (0) h (my_fr.rf) (by omega) (by omega) (by omega) (by omega) (by omega) (by omega) (by omega) (by omega) (by omega) (by omega) (ek151_7.symm.trans (by omega)) (cf.trans (by omega)) n_Tok n_Mq n_Wrd (by first | (intro q; exfalso; omega) | (intro _; assumption)) (by first | (intro q; exfalso; omega) | (intro _ q; omega) | (intro _ q; exfalso; have w := n_Wrd; unfold Wrd at w; omega)) (by omega)
        ·
          show wp l rho (d + 4) 185 26 [(2, 151), (0, 1), (0, 1), (0, 1), (9, 0), (9, 0), (9, 0), (9, 0)] [(0, 1)] h Q
          refine w_istore (ls' := [(2, 151), (0, 1), (0, 1), (0, 1), (0, 1), (9, 0), (9, 0), (9, 0)]) gz_185_26 gm_185 rfl rfl rfl ?_
          refine w_iload_n gz_185_28 rfl ?_
          refine w_ifne (t := 62) gz_185_29 rfl (fun u789 => ?_) (fun u789 => by exfalso; omega)
          refine w_aload_n gz_185_62 rfl ?_
          refine w_bipush gz_185_63 (by decide) ?_
          refine w_inv (k := 0) (as := [(0, 10)]) (r := []) (x := 151) (ls0 := [(2, 151), (0, 10)]) gz_185_65 gm_177 rfl is_151 rd_10 rfl rfl rfl rfl rfl (c_Model_isWord_f0 (d := (d + 3)) (x1 := 10) (by omega) (by omega) (cf.trans (by omega)) (fun w790 => ?_) (fun w791 xp792 xp793 xp794 => ?_))
          ·
            show wp l rho (d + 4) 185 68 [(2, 151), (0, 1), (0, 1), (0, 1), (0, 1), (9, 0), (9, 0), (9, 0)] [(0, 0)] h Q
            refine w_ifne (t := 88) gz_185_68 rfl (fun u795 => by exfalso; omega) (fun u795 => ?_)
            refine w_aload_n gz_185_71 rfl ?_
            refine w_getX (v := 167) gz_185_72 is_151 rd_10 rfl (by decide) rfl ?_
            refine w_bipush gz_185_75 (by decide) ?_
            refine w_iald gz_185_77 is_167 rd_66 (by omega) (by omega) (fun v797 ev797 pv797 qv797 => ?_)
            refine w_bipush gz_185_78 (by decide) ?_
            refine w_icne (t := 88) gz_185_80 rfl (fun u798 => ?_) (fun u798 => ?_)
            ·
              have ce799 : h 151 7 = k151_7 := ek151_7.symm
              have ce800 : h 151 8 = 0 := cf
              exact J88_0 (1) (1) (1) (1) (0) h (my_fr.rf) (by omega) (by omega) (by omega) (by omega) (by omega) (by omega) (by omega) (by omega) (by omega) (by omega) (ek151_7.symm.trans (by omega)) (cf.trans (by omega)) n_Tok n_Mq n_Wrd (by first | (intro q; exfalso; omega) | (intro _; assumption)) (by first | (intro q; exfalso; omega) | (intro _ q; omega) | (intro _ q; exfalso; have w := n_Wrd; unfold Wrd at w; omega)) (by omega)
            ·
              refine w_aload_n gz_185_83 rfl ?_
              refine w_iconst gz_185_84 (by decide) ?_
              refine w_inv (k := 0) (as := [(0, 5)]) (r := []) (x := 151) (ls0 := [(2, 151), (0, 5)]) gz_185_85 gm_178 rfl is_151 rd_10 rfl rfl rfl rfl rfl ?_
              refine w_aload_n gz_178_0 rfl ?_
              refine v_getI (j := 8) gz_178_1 rfl is_151 rd_10 rfl (fun v801 ev801 pv801 qv801 => ?_)
              have zv801 := ev801.trans cf
              refine w_ifne (t := 25) gz_178_4 rfl (fun u802 => by exfalso; omega) (fun u802 => ?_)
              refine w_aload_n gz_178_7 rfl ?_
              refine w_iload_n gz_178_8 rfl ?_
              refine w_bipush gz_178_9 (by decide) ?_
              refine w_aload_n gz_178_11 rfl ?_
              refine w_getX (v := 154) gz_178_12 is_151 rd_10 rfl (by decide) rfl ?_
              refine w_aload_n gz_178_15 rfl ?_
              refine v_getI (j := 7) gz_178_16 rfl is_151 rd_10 rfl (fun v804 ev804 pv804 qv804 => ?_)
              have zv804 := ev804.trans ek151_7.symm
              refine w_iald gz_178_19 is_154 rd_53 (by omega) (by omega) (fun v805 ev805 pv805 qv805 => ?_)
              refine w_imul gz_178_20 ⟨by omega, by omega⟩ ?_
              refine w_iadd gz_178_21 ⟨by omega, by omega⟩ ?_
              refine v_putI (j := 8) gz_178_22 rfl is_151 rd_10 rfl (by omega) (by omega) rfl (fun h806 fh806 => ?_)
              have gh806 : my_fr [(10, 7), (10, 8), (10, 27), (66, -1), (67, -1), (68, -1), (69, -1), (70, -1), (71, -1), (72, -1), (73, -1), (74, -1), (75, -1), (77, -1), (78, -1), (79, -1)] h h806 := my_fr.up my_fr.rf is_151 fh806 rfl
              have Tok_h806 : Tok h806 := Tok_ag (my_ag.up fh806 is_151 rfl) n_Tok
              have Mq_h806 : Mq h806 wv := Mq_ag (my_ag.up fh806 is_151 rfl) n_Mq
              have Wrd_h806 : Wrd h806 := Wrd_ag (my_ag.up fh806 is_151 rfl) n_Wrd
              refine w_vret gz_178_25 gm_178 ?_
              show wp l rho (d + 4) 185 88 [(2, 151), (0, 1), (0, 1), (0, 1), (0, 1), (9, 0), (9, 0), (9, 0)] [] h806 Q
              have ce807 : h806 151 7 = v804 := ((my_up_fld fh806 (by decide)).trans ev804.symm)
              have ce808 : h806 151 8 = (5 + (16 * v805)) := (my_up_self fh806)
              exact J88_0 (1) (1) (1) (1) ((5 + (16 * v805))) h806 (gh806) (by omega) (by omega) (by omega) (by omega) (by omega) (by omega) (by omega) (by omega) (by omega) (by omega) (((my_up_fld fh806 (by decide)).trans ev804.symm).trans (by omega)) ((my_up_self fh806).trans (by omega)) Tok_h806 Mq_h806 Wrd_h806 (by first | (intro q; exfalso; omega) | (intro _; assumption)) (by first | (intro q; exfalso; omega) | (intro _ q; omega) | (intro _ q; exfalso; have w := Wrd_h806; unfold Wrd at w; omega)) (by omega)
          ·
            show wp l rho (d + 4) 185 68 [(2, 151), (0, 1), (0, 1), (0, 1), (0, 1), (9, 0), (9, 0), (9, 0)] [(0, 1)] h Q
            refine w_ifne (t := 88) gz_185_68 rfl (fun u809 => ?_) (fun u809 => by exfalso; omega)
            have ce810 : h 151 7 = k151_7 := ek151_7.symm
            have ce811 : h 151 8 = 0 := cf
            exact J88_0 (1) (1) (1) (1) (0) h (my_fr.rf) (by omega) (by omega) (by omega) (by omega) (by omega) (by omega) (by omega) (by omega) (by omega) (by omega) (ek151_7.symm.trans (by omega)) (cf.trans (by omega)) n_Tok n_Mq n_Wrd (by first | (intro q; exfalso; omega) | (intro _; assumption)) (by first | (intro q; exfalso; omega) | (intro _ q; omega) | (intro _ q; exfalso; have w := n_Wrd; unfold Wrd at w; omega)) (by omega)
theorem c_Model_window {l : Launch} {rho : Nat → Int32} {d : Nat} {h : my_H} {Q : my_H → my_V → Prop} {x1 : Int} (n_Mw : Mw h) (n_Mw3 : Mw3 h) (n_Wrd : Wrd h) (k0 : ∀ (h' : my_H), my_fr [(10, 0), (10, 2), (10, 3), (10, 7), (10, 8), (10, 27), (10, 32), (10, 33), (52, -1), (53, -1), (54, -1), (63, -1), (64, -1), (65, -1), (66, -1), (67, -1), (68, -1), (69, -1), (70, -1), (71, -1), (72, -1), (73, -1), (74, -1), (75, -1), (76, -1), (77, -1), (78, -1), (79, -1)] h h' → h' 151 0 = 0 → h' 151 2 = 0 → Mw h' → Mw3 h' → Wrd h' → Q h' (0, (-1))) (k1 : ∀ (h' : my_H) (y : Int), my_fr [(10, 0), (10, 2), (10, 3), (10, 7), (10, 8), (10, 27), (10, 32), (10, 33), (52, -1), (53, -1), (54, -1), (63, -1), (64, -1), (65, -1), (66, -1), (67, -1), (68, -1), (69, -1), (70, -1), (71, -1), (72, -1), (73, -1), (74, -1), (75, -1), (76, -1), (77, -1), (78, -1), (79, -1)] h h' → 1 ≤ y → y ≤ 16005 → 0 ≤ x1 → x1 ≤ 5 → h' 151 0 = 0 → h' 151 2 = 0 → 1 ≤ h' 151 8 → h' 151 8 ≤ 16005 → Mw h' → Mw3 h' → Wrd h' → Q h' (0, y)) (k2 : ∀ (h' : my_H), my_fr [(10, 0), (10, 2), (10, 3), (10, 7), (10, 8), (10, 27), (10, 32), (10, 33), (52, -1), (53, -1), (54, -1), (63, -1), (64, -1), (65, -1), (66, -1), (67, -1), (68, -1), (69, -1), (70, -1), (71, -1), (72, -1), (73, -1), (74, -1), (75, -1), (76, -1), (77, -1), (78, -1), (79, -1)] h h' → 0 ≤ x1 → x1 ≤ 5 → h' 151 0 = 0 → h' 151 2 = 0 → h' 151 8 = 0 → Mw h' → Mw3 h' → Wrd h' → Q h' (0, 0)) : wp l rho (d + 5) 168 0 [(2, 151), (0, x1), (9, 0), (9, 0)] [] h Q := by
  have J119_0 : ∀ (n : Nat) (p119_0 : Int) (h119_0 : my_H), my_fr [(10, 0), (10, 2), (10, 3), (10, 7), (10, 8), (10, 27), (10, 32), (10, 33), (52, -1), (53, -1), (54, -1), (63, -1), (64, -1), (65, -1), (66, -1), (67, -1), (68, -1), (69, -1), (70, -1), (71, -1), (72, -1), (73, -1), (74, -1), (75, -1), (76, -1), (77, -1), (78, -1), (79, -1)] h h119_0 → 0 ≤ x1 → x1 ≤ 5 → 0 ≤ p119_0 → p119_0 ≤ 16005 → h119_0 151 0 = 0 → h119_0 151 2 = 0 → h119_0 151 8 = p119_0 → Mw h119_0 → Mw3 h119_0 → Wrd h119_0 → (h119_0 151 8 = 0 → Mq h119_0 x1) → (h119_0 151 8 = 0 → ∀ k : Int, 0 ≤ k → k ≤ 5 → h119_0 164 k = 1 → h119_0 165 k = 0 → h119_0 166 k ≠ x1) → Tok h119_0 → h119_0 151 7 ≤ 1001 → 17007 - h119_0 151 7 - h119_0 151 8 ≤ (n : Int) → wp l rho (d + 5) 168 119 [(2, 151), (0, x1), (0, 0), (0, 4)] [] h119_0 Q := by
    intro n
    induction n with
    | zero => intro p119_0 h119_0 gh_119_0 q0_119_0 q1_119_0 q2_119_0 q3_119_0 c151_0_119_0 c151_2_119_0 c151_8_119_0 n_Mw_119_0 n_Mw3_119_0 n_Wrd_119_0 mq_119_0 s6_119_0 tk_119_0 a1_119_0 hm_119_0; exfalso; omega
    | succ n ih_119_0 =>
      intro p119_0 h119_0 gh_119_0 q0_119_0 q1_119_0 q2_119_0 q3_119_0 c151_0_119_0 c151_2_119_0 c151_8_119_0 n_Mw_119_0 n_Mw3_119_0 n_Wrd_119_0 mq_119_0 s6_119_0 tk_119_0 a1_119_0 hm_119_0
      have Tok_h119_0t1 : Tok h119_0 := tk_119_0
      refine w_aload_n gz_168_119 rfl ?_
      refine v_getI (j := 8) gz_168_120 rfl is_151 rd_10 rfl (fun v2 ev2 pv2 qv2 => ?_)
      have zv2 := ev2.trans c151_8_119_0
      refine w_ifne (t := 145) gz_168_123 rfl (fun u3 => ?_) (fun u3 => ?_)
      ·
        refine w_aload_n gz_168_145 rfl ?_
        refine v_getI (j := 8) gz_168_146 rfl is_151 rd_10 rfl (fun v4 ev4 pv4 qv4 => ?_)
        have zv4 := ev4.trans ev2.symm
        refine w_ifne (t := 157) gz_168_149 rfl (fun u5 => ?_) (fun u5 => by exfalso; omega)
        refine w_aload_n gz_168_157 rfl ?_
        refine v_getI (j := 8) gz_168_158 rfl is_151 rd_10 rfl (fun v6 ev6 pv6 qv6 => ?_)
        have zv6 := ev6.trans ev4.symm
        have c7 := c151_0_119_0
        have c8 := c151_2_119_0
        have c9 := ev6.symm
        exact w_iret gz_168_161 gm_168 (k1 h119_0 (v6) (gh_119_0) (by omega) (by omega) (by omega) (by omega) (by omega) (by omega) (by omega) (by omega) n_Mw_119_0 n_Mw3_119_0 n_Wrd_119_0)
      ·
        refine w_aload_n gz_168_126 rfl ?_
        refine w_getX (v := 153) gz_168_127 is_151 rd_10 rfl (by decide) rfl ?_
        refine w_aload_n gz_168_130 rfl ?_
        refine v_getI (j := 7) gz_168_131 rfl is_151 rd_10 rfl (fun v11 ev11 pv11 qv11 => ?_)
        refine w_iald gz_168_134 is_153 rd_52 (by omega) (by omega) (fun v12 ev12 pv12 qv12 => ?_)
        refine w_ifeq (t := 145) gz_168_135 rfl (fun u13 => ?_) (fun u13 => ?_)
        ·
          refine w_aload_n gz_168_145 rfl ?_
          refine v_getI (j := 8) gz_168_146 rfl is_151 rd_10 rfl (fun v14 ev14 pv14 qv14 => ?_)
          have zv14 := ev14.trans ev2.symm
          refine w_ifne (t := 157) gz_168_149 rfl (fun u15 => by exfalso; omega) (fun u15 => ?_)
          refine w_aload_n gz_168_152 rfl ?_
          refine w_iload_n gz_168_153 rfl ?_
          refine w_inv (k := 4) (as := [(0, x1)]) (r := []) (x := 151) (ls0 := [(2, 151), (0, x1), (9, 0), (9, 0), (9, 0), (9, 0)]) gz_168_154 gm_191 rfl is_151 rd_10 rfl rfl rfl rfl rfl (c_Model_keeps2_f0 (d := (d + 4)) (x1 := x1) (by omega) (by omega) (ev14.symm.trans (by omega)) (mq_119_0 (by omega)) (s6_119_0 (by omega)) (fun h16 frh16 w17 Mw3_h16t18 => ?_))
          have gh16 : my_fr [(10, 0), (10, 2), (10, 3), (10, 7), (10, 8), (10, 27), (10, 32), (10, 33), (52, -1), (53, -1), (54, -1), (63, -1), (64, -1), (65, -1), (66, -1), (67, -1), (68, -1), (69, -1), (70, -1), (71, -1), (72, -1), (73, -1), (74, -1), (75, -1), (76, -1), (77, -1), (78, -1), (79, -1)] h h16 := my_fr.tr gh_119_0 (frh16.mo rfl)
          have Wrd_h16 : Wrd h16 := Wrd_ag (my_ag.fr frh16 rfl) n_Wrd_119_0
          have Tok_h16 : Tok h16 := Tok_ag (my_ag.fr frh16 rfl) Tok_h119_0t1
          show wp l rho (d + 5) 168 157 [(2, 151), (0, x1), (0, 0), (0, 4)] [] h16 Q
          have Mw_h16t19 : Mw h16 := (Mw3_h16t18).mw
          refine w_aload_n gz_168_157 rfl ?_
          refine v_getI (j := 8) gz_168_158 rfl is_151 rd_10 rfl (fun v20 ev20 pv20 qv20 => ?_)
          have zv20 := ev20.trans ((my_fr.at frh16 is_151 rfl).trans ev14.symm)
          have c21 := ((my_fr.at frh16 is_151 rfl).trans c151_0_119_0)
          have c22 := ((my_fr.at frh16 is_151 rfl).trans c151_2_119_0)
          have c23 := ev20.symm
          rw [show (v20 : Int) = 0 from by omega]
          exact w_iret gz_168_161 gm_168 (k2 h16 (gh16) (by omega) (by omega) (by omega) (by omega) (by omega) Mw_h16t19 Mw3_h16t18 Wrd_h16)
        ·
          refine w_aload_n gz_168_138 rfl ?_
          have Mq_h119_0t24 : Mq h119_0 x1 := mq_119_0 (by omega)
          have ce25 : h119_0 151 7 = v11 := ev11.symm
          refine w_inv (k := 7) (as := []) (r := []) (x := 151) (ls0 := [(2, 151), (9, 0), (9, 0), (9, 0), (9, 0), (9, 0), (9, 0), (9, 0)]) gz_168_139 gm_185 rfl is_151 rd_10 rfl rfl rfl rfl rfl (c_Model_readPane_f0 (d := d)  (wv := x1) (ev2.symm.trans (by omega)) (by first | assumption | omega) (by first | assumption | omega) Tok_h119_0t1 Mq_h119_0t24 n_Wrd_119_0 (fun h26 frh26 w27 w28 xp29 Tok_h26t30 Mq_h26t31 Wrd_h26t32 => ?_) (fun h33 frh33 w34 w35 w36 xp37 Tok_h33t38 Mq_h33t39 Wrd_h33t40 => ?_))
          ·
            have gh26 : my_fr [(10, 0), (10, 2), (10, 3), (10, 7), (10, 8), (10, 27), (10, 32), (10, 33), (52, -1), (53, -1), (54, -1), (63, -1), (64, -1), (65, -1), (66, -1), (67, -1), (68, -1), (69, -1), (70, -1), (71, -1), (72, -1), (73, -1), (74, -1), (75, -1), (76, -1), (77, -1), (78, -1), (79, -1)] h h26 := my_fr.tr gh_119_0 (frh26.mo rfl)
            have Wrd_h26 : Wrd h26 := Wrd_ag (my_ag.fr frh26 rfl) n_Wrd_119_0
            show wp l rho (d + 5) 168 142 [(2, 151), (0, x1), (0, 0), (0, 4)] [] h26 Q
            have Mw3_h26t41 : Mw3 h26 := (Mq_h26t31).mw3
            have Mw_h26t42 : Mw h26 := (Mq_h26t31).mw3.mw
            refine w_goto (t := 119) gz_168_142 rfl ?_
            have a164 : ∀ j : Int, h26 164 j = h119_0 164 j := fun j => ((my_fr.at frh26 is_164 rfl).trans (rfl : h119_0 164 j = h119_0 164 j))
            have a165 : ∀ j : Int, h26 165 j = h119_0 165 j := fun j => ((my_fr.at frh26 is_165 rfl).trans (rfl : h119_0 165 j = h119_0 165 j))
            have a166 : ∀ j : Int, h26 166 j = h119_0 166 j := fun j => ((my_fr.at frh26 is_166 rfl).trans (rfl : h119_0 166 j = h119_0 166 j))
            have ce43 : h26 151 8 = (h26 151 8) := (rfl : h26 151 8 = h26 151 8)
            exact ih_119_0 ((h26 151 8)) h26 (gh26) (by omega) (by omega) (by omega) (by omega) (((my_fr.at frh26 is_151 rfl).trans c151_0_119_0).trans (by omega)) (((my_fr.at frh26 is_151 rfl).trans c151_2_119_0).trans (by omega)) ((rfl : h26 151 8 = h26 151 8).trans (by omega)) Mw_h26t42 Mw3_h26t41 Wrd_h26t32 (by first | (intro q; exfalso; omega) | (intro _; assumption) | (intro _; exact Mq_h26t31)) (by first | (intro q; exfalso; omega) | (intro _ k a b c e; have z := s56 k b; rw [z.1] at e; rw [z.2]; exact u9_93_0 k a b (by rw [← a164]; exact c) e) | (intro _ k a b c e; rw [a164] at c; rw [a165] at e; rw [a166]; exact s6_119_0 (by omega) k a b c e)) (Tok_h26t30) (by have q := Tok_at Tok_h26t30; omega) (by omega)
          ·
            have gh33 : my_fr [(10, 0), (10, 2), (10, 3), (10, 7), (10, 8), (10, 27), (10, 32), (10, 33), (52, -1), (53, -1), (54, -1), (63, -1), (64, -1), (65, -1), (66, -1), (67, -1), (68, -1), (69, -1), (70, -1), (71, -1), (72, -1), (73, -1), (74, -1), (75, -1), (76, -1), (77, -1), (78, -1), (79, -1)] h h33 := my_fr.tr gh_119_0 (frh33.mo rfl)
            have Wrd_h33 : Wrd h33 := Wrd_ag (my_ag.fr frh33 rfl) n_Wrd_119_0
            show wp l rho (d + 5) 168 142 [(2, 151), (0, x1), (0, 0), (0, 4)] [] h33 Q
            have Mw3_h33t44 : Mw3 h33 := (Mq_h33t39).mw3
            have Mw_h33t45 : Mw h33 := (Mq_h33t39).mw3.mw
            refine w_goto (t := 119) gz_168_142 rfl ?_
            have a164 : ∀ j : Int, h33 164 j = h119_0 164 j := fun j => ((my_fr.at frh33 is_164 rfl).trans (rfl : h119_0 164 j = h119_0 164 j))
            have a165 : ∀ j : Int, h33 165 j = h119_0 165 j := fun j => ((my_fr.at frh33 is_165 rfl).trans (rfl : h119_0 165 j = h119_0 165 j))
            have a166 : ∀ j : Int, h33 166 j = h119_0 166 j := fun j => ((my_fr.at frh33 is_166 rfl).trans (rfl : h119_0 166 j = h119_0 166 j))
            have ce46 : h33 151 7 = (h33 151 7) := (rfl : h33 151 7 = h33 151 7)
            have ce47 : h33 151 8 = 0 := w36
            exact ih_119_0 (0) h33 (gh33) (by omega) (by omega) (by omega) (by omega) (((my_fr.at frh33 is_151 rfl).trans c151_0_119_0).trans (by omega)) (((my_fr.at frh33 is_151 rfl).trans c151_2_119_0).trans (by omega)) (w36.trans (by omega)) Mw_h33t45 Mw3_h33t44 Wrd_h33t40 (by first | (intro q; exfalso; omega) | (intro _; assumption) | (intro _; exact Mq_h33t39)) (by first | (intro q; exfalso; omega) | (intro _ k a b c e; have z := s56 k b; rw [z.1] at e; rw [z.2]; exact u9_93_0 k a b (by rw [← a164]; exact c) e) | (intro _ k a b c e; rw [a164] at c; rw [a165] at e; rw [a166]; exact s6_119_0 (by omega) k a b c e)) (Tok_h33t38) (by have q := Tok_at Tok_h33t38; omega) (by omega)
  have J93_0 : ∀ (n : Nat) (p93_0 : Int) (h93_0 : my_H), my_fr [(10, 0), (10, 2), (10, 3), (10, 7), (10, 8), (10, 27), (10, 32), (10, 33), (52, -1), (53, -1), (54, -1), (63, -1), (64, -1), (65, -1), (66, -1), (67, -1), (68, -1), (69, -1), (70, -1), (71, -1), (72, -1), (73, -1), (74, -1), (75, -1), (76, -1), (77, -1), (78, -1), (79, -1)] h h93_0 → 0 ≤ x1 → x1 ≤ 5 → 0 ≤ p93_0 → p93_0 ≤ 4 → h93_0 151 0 = 0 → h93_0 151 2 = 0 → h93_0 151 7 = 0 → h93_0 151 8 = 0 → Mw h93_0 → Mw3 h93_0 → Wrd h93_0 → h93_0 167 6 = 0 → (∀ k : Int, 0 ≤ k → k ≤ 5 → h93_0 164 k = 1 → h93_0 165 k = 0 → h93_0 166 k ≠ x1) → Tok h93_0 → 5 - p93_0 ≤ (n : Int) → wp l rho (d + 5) 168 93 [(2, 151), (0, x1), (0, 0), (0, p93_0)] [] h93_0 Q := by
    intro n
    induction n with
    | zero => intro p93_0 h93_0 gh_93_0 q0_93_0 q1_93_0 q2_93_0 q3_93_0 c151_0_93_0 c151_2_93_0 c151_7_93_0 c151_8_93_0 n_Mw_93_0 n_Mw3_93_0 n_Wrd_93_0 z6_93_0 u9_93_0 tk_93_0 hm_93_0; exfalso; omega
    | succ n ih_93_0 =>
      intro p93_0 h93_0 gh_93_0 q0_93_0 q1_93_0 q2_93_0 q3_93_0 c151_0_93_0 c151_2_93_0 c151_7_93_0 c151_8_93_0 n_Mw_93_0 n_Mw3_93_0 n_Wrd_93_0 z6_93_0 u9_93_0 tk_93_0 hm_93_0
      have Tok_h93_0t48 : Tok h93_0 := tk_93_0
      refine w_iload_n gz_168_93 rfl ?_
      refine w_iconst gz_168_94 (by decide) ?_
      refine w_icge (t := 114) gz_168_95 rfl (fun u49 => ?_) (fun u49 => ?_)
      ·
        refine w_aload_n gz_168_114 rfl ?_
        refine w_iload_n gz_168_115 rfl ?_
        refine w_inv (k := 1) (as := [(0, x1)]) (r := []) (x := 151) (ls0 := [(2, 151), (0, x1), (9, 0)]) gz_168_116 gm_174 rfl is_151 rd_10 rfl rfl rfl rfl rfl (c_Model_readOver_f0 (d := (d + 1)) (x1 := x1) (by omega) (by omega) (c151_8_93_0.trans (by omega)) Tok_h93_0t48 n_Mw_93_0 n_Mw3_93_0 (by first | assumption | omega | (subst_vars; omega)) (fun h50 frh50 w51 w52 Tok_h50t53 Mw_h50t54 Mw3_h50t55 => ?_) (fun h56 frh56 w57 w58 w59 xp60 xp61 Tok_h56t62 Mw_h56t63 Mw3_h56t64 => ?_))
        ·
          have gh50 : my_fr [(10, 0), (10, 2), (10, 3), (10, 7), (10, 8), (10, 27), (10, 32), (10, 33), (52, -1), (53, -1), (54, -1), (63, -1), (64, -1), (65, -1), (66, -1), (67, -1), (68, -1), (69, -1), (70, -1), (71, -1), (72, -1), (73, -1), (74, -1), (75, -1), (76, -1), (77, -1), (78, -1), (79, -1)] h h50 := my_fr.tr gh_93_0 (frh50.mo rfl)
          have Wrd_h50 : Wrd h50 := Wrd_ag (my_ag.fr frh50 rfl) n_Wrd_93_0
          show wp l rho (d + 5) 168 119 [(2, 151), (0, x1), (0, 0), (0, p93_0)] [] h50 Q
          have a164 : ∀ j : Int, h50 164 j = h93_0 164 j := fun j => ((my_fr.at frh50 is_164 rfl).trans (rfl : h93_0 164 j = h93_0 164 j))
          have a165 : ∀ j : Int, h50 165 j = h50 165 j := fun j => rfl
          have a166 : ∀ j : Int, h50 166 j = h50 166 j := fun j => rfl
          have ce65 : h50 151 8 = (h50 151 8) := (rfl : h50 151 8 = h50 151 8)
          rw [show (p93_0 : Int) = 4 from by omega]
          exact J119_0 (17007) ((h50 151 8)) h50 (gh50) (by omega) (by omega) (by omega) (by omega) (((my_fr.at frh50 is_151 rfl).trans c151_0_93_0).trans (by omega)) (((my_fr.at frh50 is_151 rfl).trans c151_2_93_0).trans (by omega)) ((rfl : h50 151 8 = h50 151 8).trans (by omega)) Mw_h50t54 Mw3_h50t55 Wrd_h50 (by first | (intro q; exfalso; omega) | (intro _; assumption) | (intro _; exact no_such_saying)) (by first | (intro q; exfalso; omega) | (intro _ k a b c e; have z := s56 k b; rw [z.1] at e; rw [z.2]; exact u9_93_0 k a b (by rw [← a164]; exact c) e) | (intro _ k a b c e; rw [a164] at c; rw [a165] at e; rw [a166]; exact s6_119_0 (by omega) k a b c e)) (Tok_h50t53) (by have q := Tok_at Tok_h50t53; omega) (by omega)
        ·
          have gh56 : my_fr [(10, 0), (10, 2), (10, 3), (10, 7), (10, 8), (10, 27), (10, 32), (10, 33), (52, -1), (53, -1), (54, -1), (63, -1), (64, -1), (65, -1), (66, -1), (67, -1), (68, -1), (69, -1), (70, -1), (71, -1), (72, -1), (73, -1), (74, -1), (75, -1), (76, -1), (77, -1), (78, -1), (79, -1)] h h56 := my_fr.tr gh_93_0 (frh56.mo rfl)
          have Wrd_h56 : Wrd h56 := Wrd_ag (my_ag.fr frh56 rfl) n_Wrd_93_0
          show wp l rho (d + 5) 168 119 [(2, 151), (0, x1), (0, 0), (0, p93_0)] [] h56 Q
          have s56 := xp61
          have a164 : ∀ j : Int, h56 164 j = h93_0 164 j := fun j => ((my_fr.at frh56 is_164 rfl).trans (rfl : h93_0 164 j = h93_0 164 j))
          have a165 : ∀ j : Int, h56 165 j = h56 165 j := fun j => rfl
          have a166 : ∀ j : Int, h56 166 j = h56 166 j := fun j => rfl
          have ce66 : h56 151 7 = (h56 151 7) := (rfl : h56 151 7 = h56 151 7)
          have ce67 : h56 151 8 = 0 := w59
          rw [show (p93_0 : Int) = 4 from by omega]
          exact J119_0 (17007) (0) h56 (gh56) (by omega) (by omega) (by omega) (by omega) (((my_fr.at frh56 is_151 rfl).trans c151_0_93_0).trans (by omega)) (((my_fr.at frh56 is_151 rfl).trans c151_2_93_0).trans (by omega)) (w59.trans (by omega)) Mw_h56t63 Mw3_h56t64 Wrd_h56 (by first | (intro q; exfalso; omega) | (intro _; assumption) | (intro _; exact no_such_saying)) (by first | (intro q; exfalso; omega) | (intro _ k a b c e; have z := s56 k b; rw [z.1] at e; rw [z.2]; exact u9_93_0 k a b (by rw [← a164]; exact c) e) | (intro _ k a b c e; rw [a164] at c; rw [a165] at e; rw [a166]; exact s6_119_0 (by omega) k a b c e)) (Tok_h56t62) (by have q := Tok_at Tok_h56t62; omega) (by omega)
      ·
        refine w_aload_n gz_168_98 rfl ?_
        refine w_getX (v := 173) gz_168_99 is_151 rd_10 rfl (by decide) rfl ?_
        refine w_bipush gz_168_102 (by decide) ?_
        refine w_iload_n gz_168_104 rfl ?_
        refine w_iadd gz_168_105 ⟨by omega, by omega⟩ ?_
        refine w_iconst gz_168_106 (by decide) ?_
        refine w_iast gz_168_107 is_173 rd_72 (by omega) (by omega) (by omega) (by omega) (fun h69 fh69 => ?_)
        have gh69 : my_fr [(10, 0), (10, 2), (10, 3), (10, 7), (10, 8), (10, 27), (10, 32), (10, 33), (52, -1), (53, -1), (54, -1), (63, -1), (64, -1), (65, -1), (66, -1), (67, -1), (68, -1), (69, -1), (70, -1), (71, -1), (72, -1), (73, -1), (74, -1), (75, -1), (76, -1), (77, -1), (78, -1), (79, -1)] h h69 := my_fr.up gh_93_0 is_173 fh69 rfl
        have Mw_h69 : Mw h69 := Mw_ag (my_ag.up fh69 is_173 rfl) n_Mw_93_0
        have Mw3_h69 : Mw3 h69 := Mw3_ag (my_ag.up fh69 is_173 rfl) n_Mw3_93_0
        have Wrd_h69 : Wrd h69 := Wrd_ag (my_ag.up fh69 is_173 rfl) n_Wrd_93_0
        have Tok_h69 : Tok h69 := Tok_ag (my_ag.up fh69 is_173 rfl) Tok_h93_0t48
        refine w_iinc (ls' := [(2, 151), (0, x1), (0, 0), (0, (p93_0 + 1))]) gz_168_108 rfl gm_168 rfl rfl rfl ⟨by omega, by omega⟩ ?_
        refine w_goto (t := 93) gz_168_111 rfl ?_
        have a164 : ∀ j : Int, h69 164 j = h93_0 164 j := fun j => ((my_up_role fh69 is_164 is_173 rfl).trans (rfl : h93_0 164 j = h93_0 164 j))
        have a165 : ∀ j : Int, h69 165 j = h93_0 165 j := fun j => ((my_up_role fh69 is_165 is_173 rfl).trans (rfl : h93_0 165 j = h93_0 165 j))
        have a166 : ∀ j : Int, h69 166 j = h93_0 166 j := fun j => ((my_up_role fh69 is_166 is_173 rfl).trans (rfl : h93_0 166 j = h93_0 166 j))
        have a167 : ∀ j : Int, h69 167 j = h93_0 167 j := fun j => ((my_up_role fh69 is_167 is_173 rfl).trans (rfl : h93_0 167 j = h93_0 167 j))
        exact ih_93_0 ((p93_0 + 1)) h69 (gh69) (by omega) (by omega) (by omega) (by omega) (((my_up_role fh69 is_151 is_173 rfl).trans c151_0_93_0).trans (by omega)) (((my_up_role fh69 is_151 is_173 rfl).trans c151_2_93_0).trans (by omega)) (((my_up_role fh69 is_151 is_173 rfl).trans c151_7_93_0).trans (by omega)) (((my_up_role fh69 is_151 is_173 rfl).trans c151_8_93_0).trans (by omega)) Mw_h69 Mw3_h69 Wrd_h69 (by rw [a167]; first | exact k67 | exact z6_93_0) (by intro k a b c e; rw [a164] at c; rw [a165] at e; rw [a166]; first | exact u9_93_0 k a b c e | exact un_9_0 (by omega) k a (by omega) c e) (Tok_h69) (by omega)
  have J9_0 : ∀ (n : Nat) (p9_0 p9_1 : Int) (h9_0 : my_H), my_fr [(10, 0), (10, 2), (10, 3), (10, 7), (10, 8), (10, 27), (10, 32), (10, 33), (52, -1), (53, -1), (54, -1), (63, -1), (64, -1), (65, -1), (66, -1), (67, -1), (68, -1), (69, -1), (70, -1), (71, -1), (72, -1), (73, -1), (74, -1), (75, -1), (76, -1), (77, -1), (78, -1), (79, -1)] h h9_0 → 0 ≤ p9_0 → p9_0 ≤ 1 → 0 ≤ p9_1 → p9_1 ≤ 6 → p9_0 ≤ p9_1 → h9_0 151 0 = 0 → Mw h9_0 → Mw3 h9_0 → Wrd h9_0 → (p9_0 = 0 → ∀ k : Int, 0 ≤ k → k < p9_1 → h9_0 164 k = 1 → h9_0 165 k = 0 → h9_0 166 k ≠ x1) → 7 - p9_1 ≤ (n : Int) → wp l rho (d + 5) 168 9 [(2, 151), (0, x1), (0, p9_0), (0, p9_1)] [] h9_0 Q := by
    intro n
    induction n with
    | zero => intro p9_0 p9_1 h9_0 gh_9_0 q0_9_0 q1_9_0 q2_9_0 q3_9_0 q4_9_0 c151_0_9_0 n_Mw_9_0 n_Mw3_9_0 n_Wrd_9_0 un_9_0 hm_9_0; exfalso; omega
    | succ n ih_9_0 =>
      intro p9_0 p9_1 h9_0 gh_9_0 q0_9_0 q1_9_0 q2_9_0 q3_9_0 q4_9_0 c151_0_9_0 n_Mw_9_0 n_Mw3_9_0 n_Wrd_9_0 un_9_0 hm_9_0
      refine w_iload_n gz_168_9 rfl ?_
      refine w_bipush gz_168_10 (by decide) ?_
      refine w_icge (t := 59) gz_168_12 rfl (fun u70 => ?_) (fun u70 => ?_)
      ·
        refine w_iload_n gz_168_59 rfl ?_
        refine w_iconst gz_168_60 (by decide) ?_
        refine w_iconst gz_168_61 (by decide) ?_
        refine w_inS (k := 0) (as := [(0, 5), (0, 0), (0, x1)]) (r := []) (ls0 := [(0, x1), (0, 0), (0, 5)]) gz_168_62 gm_147 rfl rfl rfl rfl rfl rfl ?_
        refine w_iload_n gz_147_0 rfl ?_
        refine w_iload_n gz_147_1 rfl ?_
        refine w_iclt (t := 14) gz_147_2 rfl (fun u71 => ?_) (fun u71 => ?_)
        ·
          refine w_iconst gz_147_14 (by decide) ?_
          refine w_bret gz_147_15 gm_147 (by omega) (by omega) ?_
          show wp l rho (d + 5) 168 65 [(2, 151), (0, x1), (0, p9_0), (0, p9_1)] [(0, 0)] h9_0 Q
          refine w_ifeq (t := 72) gz_168_65 rfl (fun u72 => ?_) (fun u72 => by exfalso; omega)
          refine w_aload_n gz_168_72 rfl ?_
          refine w_iconst gz_168_73 (by decide) ?_
          refine v_putI (j := 2) gz_168_74 rfl is_151 rd_10 rfl (by omega) (by omega) rfl (fun h73 fh73 => ?_)
          have gh73 : my_fr [(10, 0), (10, 2), (10, 3), (10, 7), (10, 8), (10, 27), (10, 32), (10, 33), (52, -1), (53, -1), (54, -1), (63, -1), (64, -1), (65, -1), (66, -1), (67, -1), (68, -1), (69, -1), (70, -1), (71, -1), (72, -1), (73, -1), (74, -1), (75, -1), (76, -1), (77, -1), (78, -1), (79, -1)] h h73 := my_fr.up gh_9_0 is_151 fh73 rfl
          have Mw_h73 : Mw h73 := Mw_ag (my_ag.up fh73 is_151 rfl) n_Mw_9_0
          have Mw3_h73 : Mw3 h73 := Mw3_ag (my_ag.up fh73 is_151 rfl) n_Mw3_9_0
          have Wrd_h73 : Wrd h73 := Wrd_ag (my_ag.up fh73 is_151 rfl) n_Wrd_9_0
          refine w_iconst gz_168_77 (by decide) ?_
          have c74 := ((my_up_fld fh73 (by decide)).trans c151_0_9_0)
          have c75 := (my_up_self fh73)
          exact w_iret gz_168_78 gm_168 (k0 h73 (gh73) (by omega) (by omega) Mw_h73 Mw3_h73 Wrd_h73)
        ·
          refine w_iload_n gz_147_5 rfl ?_
          refine w_iload_n gz_147_6 rfl ?_
          refine w_icgt (t := 14) gz_147_7 rfl (fun u76 => ?_) (fun u76 => ?_)
          ·
            refine w_iconst gz_147_14 (by decide) ?_
            refine w_bret gz_147_15 gm_147 (by omega) (by omega) ?_
            show wp l rho (d + 5) 168 65 [(2, 151), (0, x1), (0, p9_0), (0, p9_1)] [(0, 0)] h9_0 Q
            refine w_ifeq (t := 72) gz_168_65 rfl (fun u77 => ?_) (fun u77 => by exfalso; omega)
            refine w_aload_n gz_168_72 rfl ?_
            refine w_iconst gz_168_73 (by decide) ?_
            refine v_putI (j := 2) gz_168_74 rfl is_151 rd_10 rfl (by omega) (by omega) rfl (fun h78 fh78 => ?_)
            have gh78 : my_fr [(10, 0), (10, 2), (10, 3), (10, 7), (10, 8), (10, 27), (10, 32), (10, 33), (52, -1), (53, -1), (54, -1), (63, -1), (64, -1), (65, -1), (66, -1), (67, -1), (68, -1), (69, -1), (70, -1), (71, -1), (72, -1), (73, -1), (74, -1), (75, -1), (76, -1), (77, -1), (78, -1), (79, -1)] h h78 := my_fr.up gh_9_0 is_151 fh78 rfl
            have Mw_h78 : Mw h78 := Mw_ag (my_ag.up fh78 is_151 rfl) n_Mw_9_0
            have Mw3_h78 : Mw3 h78 := Mw3_ag (my_ag.up fh78 is_151 rfl) n_Mw3_9_0
            have Wrd_h78 : Wrd h78 := Wrd_ag (my_ag.up fh78 is_151 rfl) n_Wrd_9_0
            refine w_iconst gz_168_77 (by decide) ?_
            have c79 := ((my_up_fld fh78 (by decide)).trans c151_0_9_0)
            have c80 := (my_up_self fh78)
            exact w_iret gz_168_78 gm_168 (k0 h78 (gh78) (by omega) (by omega) Mw_h78 Mw3_h78 Wrd_h78)
          ·
            refine w_iconst gz_147_10 (by decide) ?_
            refine w_goto (t := 15) gz_147_11 rfl ?_
            refine w_bret gz_147_15 gm_147 (by omega) (by omega) ?_
            show wp l rho (d + 5) 168 65 [(2, 151), (0, x1), (0, p9_0), (0, p9_1)] [(0, 1)] h9_0 Q
            refine w_ifeq (t := 72) gz_168_65 rfl (fun u81 => by exfalso; omega) (fun u81 => ?_)
            refine w_iload_n gz_168_68 rfl ?_
            refine w_ifeq (t := 79) gz_168_69 rfl (fun u82 => ?_) (fun u82 => ?_)
            ·
              refine w_aload_n gz_168_79 rfl ?_
              refine w_inv (k := 6) (as := []) (r := []) (x := 151) (ls0 := [(2, 151), (9, 0), (9, 0), (9, 0), (9, 0), (9, 0), (9, 0)]) gz_168_80 gm_169 rfl is_151 rd_10 rfl rfl rfl rfl rfl (c_Model_cutAll (d := (d + 2))   (fun h83 frh83 w84 w85 w86 Tok_h83t87 => ?_))
              have gh83 : my_fr [(10, 0), (10, 2), (10, 3), (10, 7), (10, 8), (10, 27), (10, 32), (10, 33), (52, -1), (53, -1), (54, -1), (63, -1), (64, -1), (65, -1), (66, -1), (67, -1), (68, -1), (69, -1), (70, -1), (71, -1), (72, -1), (73, -1), (74, -1), (75, -1), (76, -1), (77, -1), (78, -1), (79, -1)] h h83 := my_fr.tr gh_9_0 (frh83.mo rfl)
              have Mw_h83 : Mw h83 := Mw_ag (my_ag.fr frh83 rfl) n_Mw_9_0
              have Mw3_h83 : Mw3 h83 := Mw3_ag (my_ag.fr frh83 rfl) n_Mw3_9_0
              have Wrd_h83 : Wrd h83 := Wrd_ag (my_ag.fr frh83 rfl) n_Wrd_9_0
              show wp l rho (d + 5) 168 83 [(2, 151), (0, x1), (0, p9_0), (0, p9_1)] [] h83 Q
              refine w_aload_n gz_168_83 rfl ?_
              refine w_getX (v := 167) gz_168_84 is_151 rd_10 rfl (by decide) rfl ?_
              refine w_bipush gz_168_87 (by decide) ?_
              refine w_iconst gz_168_89 (by decide) ?_
              refine w_iast gz_168_90 is_167 rd_66 (by omega) (by omega) (by omega) (by omega) (fun h89 fh89 => ?_)
              have gh89 : my_fr [(10, 0), (10, 2), (10, 3), (10, 7), (10, 8), (10, 27), (10, 32), (10, 33), (52, -1), (53, -1), (54, -1), (63, -1), (64, -1), (65, -1), (66, -1), (67, -1), (68, -1), (69, -1), (70, -1), (71, -1), (72, -1), (73, -1), (74, -1), (75, -1), (76, -1), (77, -1), (78, -1), (79, -1)] h h89 := my_fr.up gh83 is_167 fh89 rfl
              have Wrd_h89 : Wrd h89 := Wrd_ag (my_ag.up fh89 is_167 rfl) Wrd_h83
              have Tok_h89 : Tok h89 := Tok_ag (my_ag.up fh89 is_167 rfl) Tok_h83t87
              have Mw3_h89t90 : Mw3 h89 := Mw3_6 (by decide) fh89 Mw3_h83
              have Mw_h89t91 : Mw h89 := (Mw3_6 (by decide) fh89 Mw3_h83).mw
              have k67 := my_up_self fh89
              refine w_iconst gz_168_91 (by decide) ?_
              refine w_istore_n (ls' := [(2, 151), (0, x1), (0, p9_0), (0, 0)]) gz_168_92 gm_168 rfl rfl rfl ?_
              have a164 : ∀ j : Int, h89 164 j = h9_0 164 j := fun j => ((my_up_role fh89 is_164 is_167 rfl).trans ((my_fr.at frh83 is_164 rfl).trans (rfl : h9_0 164 j = h9_0 164 j)))
              have a165 : ∀ j : Int, h89 165 j = h9_0 165 j := fun j => ((my_up_role fh89 is_165 is_167 rfl).trans ((my_fr.at frh83 is_165 rfl).trans (rfl : h9_0 165 j = h9_0 165 j)))
              have a166 : ∀ j : Int, h89 166 j = h9_0 166 j := fun j => ((my_up_role fh89 is_166 is_167 rfl).trans ((my_fr.at frh83 is_166 rfl).trans (rfl : h9_0 166 j = h9_0 166 j)))
              have a167 : ∀ j : Int, h89 167 j = h89 167 j := fun j => rfl
              rw [show (p9_0 : Int) = 0 from by omega]
              exact J93_0 5 (0) h89 (gh89) (by omega) (by omega) (by omega) (by omega) (((my_up_role fh89 is_151 is_167 rfl).trans ((my_fr.at frh83 is_151 rfl).trans c151_0_9_0)).trans (by omega)) (((my_up_role fh89 is_151 is_167 rfl).trans w84).trans (by omega)) (((my_up_role fh89 is_151 is_167 rfl).trans w85).trans (by omega)) (((my_up_role fh89 is_151 is_167 rfl).trans w86).trans (by omega)) Mw_h89t91 Mw3_h89t90 Wrd_h89 (by rw [a167]; first | exact k67 | exact z6_93_0) (by intro k a b c e; rw [a164] at c; rw [a165] at e; rw [a166]; first | exact u9_93_0 k a b c e | exact un_9_0 (by omega) k a (by omega) c e) (Tok_h89) (by omega)
            ·
              refine w_aload_n gz_168_72 rfl ?_
              refine w_iconst gz_168_73 (by decide) ?_
              refine v_putI (j := 2) gz_168_74 rfl is_151 rd_10 rfl (by omega) (by omega) rfl (fun h92 fh92 => ?_)
              have gh92 : my_fr [(10, 0), (10, 2), (10, 3), (10, 7), (10, 8), (10, 27), (10, 32), (10, 33), (52, -1), (53, -1), (54, -1), (63, -1), (64, -1), (65, -1), (66, -1), (67, -1), (68, -1), (69, -1), (70, -1), (71, -1), (72, -1), (73, -1), (74, -1), (75, -1), (76, -1), (77, -1), (78, -1), (79, -1)] h h92 := my_fr.up gh_9_0 is_151 fh92 rfl
              have Mw_h92 : Mw h92 := Mw_ag (my_ag.up fh92 is_151 rfl) n_Mw_9_0
              have Mw3_h92 : Mw3 h92 := Mw3_ag (my_ag.up fh92 is_151 rfl) n_Mw3_9_0
              have Wrd_h92 : Wrd h92 := Wrd_ag (my_ag.up fh92 is_151 rfl) n_Wrd_9_0
              refine w_iconst gz_168_77 (by decide) ?_
              have c93 := ((my_up_fld fh92 (by decide)).trans c151_0_9_0)
              have c94 := (my_up_self fh92)
              exact w_iret gz_168_78 gm_168 (k0 h92 (gh92) (by omega) (by omega) Mw_h92 Mw3_h92 Wrd_h92)
      ·
        refine w_iload_n gz_168_15 rfl ?_
        refine w_ifne (t := 47) gz_168_16 rfl (fun u95 => ?_) (fun u95 => ?_)
        ·
          refine w_iconst gz_168_47 (by decide) ?_
          refine w_goto (t := 52) gz_168_48 rfl ?_
          refine w_istore_n (ls' := [(2, 151), (0, x1), (0, 1), (0, p9_1)]) gz_168_52 gm_168 rfl rfl rfl ?_
          refine w_iinc (ls' := [(2, 151), (0, x1), (0, 1), (0, (p9_1 + 1))]) gz_168_53 rfl gm_168 rfl rfl rfl ⟨by omega, by omega⟩ ?_
          refine w_goto (t := 9) gz_168_56 rfl ?_
          have a164 : ∀ j : Int, h9_0 164 j = h9_0 164 j := fun _ => rfl
          have a165 : ∀ j : Int, h9_0 165 j = h9_0 165 j := fun _ => rfl
          have a166 : ∀ j : Int, h9_0 166 j = h9_0 166 j := fun _ => rfl
          exact ih_9_0 (1) ((p9_1 + 1)) h9_0 (gh_9_0) (by omega) (by omega) (by omega) (by omega) (by omega) (c151_0_9_0.trans (by omega)) n_Mw_9_0 n_Mw3_9_0 n_Wrd_9_0 (by first | (intro _ k a b; exfalso; omega) | (intro q; exfalso; omega) | (intro q k a b c e; rw [a164] at c; rw [a165] at e; rw [a166]; rcases (by omega : k = p9_1 ∨ k < p9_1) with z | z <;> first | exact un_9_0 (by omega) k a z c e | (subst z; omega) | (subst_vars; omega))) (by omega)
        ·
          refine w_aload_n gz_168_19 rfl ?_
          refine w_getX (v := 164) gz_168_20 is_151 rd_10 rfl (by decide) rfl ?_
          refine w_iload_n gz_168_23 rfl ?_
          refine w_bald gz_168_24 is_164 rd_63 (by omega) (by omega) (fun v97 ev97 pv97 qv97 => ?_)
          refine w_ifeq (t := 51) gz_168_25 rfl (fun u98 => ?_) (fun u98 => ?_)
          ·
            refine w_iconst gz_168_51 (by decide) ?_
            refine w_istore_n (ls' := [(2, 151), (0, x1), (0, 0), (0, p9_1)]) gz_168_52 gm_168 rfl rfl rfl ?_
            refine w_iinc (ls' := [(2, 151), (0, x1), (0, 0), (0, (p9_1 + 1))]) gz_168_53 rfl gm_168 rfl rfl rfl ⟨by omega, by omega⟩ ?_
            refine w_goto (t := 9) gz_168_56 rfl ?_
            have a164 : ∀ j : Int, h9_0 164 j = h9_0 164 j := fun _ => rfl
            have a165 : ∀ j : Int, h9_0 165 j = h9_0 165 j := fun _ => rfl
            have a166 : ∀ j : Int, h9_0 166 j = h9_0 166 j := fun _ => rfl
            exact ih_9_0 (0) ((p9_1 + 1)) h9_0 (gh_9_0) (by omega) (by omega) (by omega) (by omega) (by omega) (c151_0_9_0.trans (by omega)) n_Mw_9_0 n_Mw3_9_0 n_Wrd_9_0 (by first | (intro _ k a b; exfalso; omega) | (intro q; exfalso; omega) | (intro q k a b c e; rw [a164] at c; rw [a165] at e; rw [a166]; rcases (by omega : k = p9_1 ∨ k < p9_1) with z | z <;> first | exact un_9_0 (by omega) k a z c e | (subst z; omega) | (subst_vars; omega))) (by omega)
          ·
            refine w_aload_n gz_168_28 rfl ?_
            refine w_getX (v := 165) gz_168_29 is_151 rd_10 rfl (by decide) rfl ?_
            refine w_iload_n gz_168_32 rfl ?_
            refine w_bald gz_168_33 is_165 rd_64 (by omega) (by omega) (fun v100 ev100 pv100 qv100 => ?_)
            refine w_ifne (t := 51) gz_168_34 rfl (fun u101 => ?_) (fun u101 => ?_)
            ·
              refine w_iconst gz_168_51 (by decide) ?_
              refine w_istore_n (ls' := [(2, 151), (0, x1), (0, 0), (0, p9_1)]) gz_168_52 gm_168 rfl rfl rfl ?_
              refine w_iinc (ls' := [(2, 151), (0, x1), (0, 0), (0, (p9_1 + 1))]) gz_168_53 rfl gm_168 rfl rfl rfl ⟨by omega, by omega⟩ ?_
              refine w_goto (t := 9) gz_168_56 rfl ?_
              have a164 : ∀ j : Int, h9_0 164 j = h9_0 164 j := fun _ => rfl
              have a165 : ∀ j : Int, h9_0 165 j = h9_0 165 j := fun _ => rfl
              have a166 : ∀ j : Int, h9_0 166 j = h9_0 166 j := fun _ => rfl
              exact ih_9_0 (0) ((p9_1 + 1)) h9_0 (gh_9_0) (by omega) (by omega) (by omega) (by omega) (by omega) (c151_0_9_0.trans (by omega)) n_Mw_9_0 n_Mw3_9_0 n_Wrd_9_0 (by first | (intro _ k a b; exfalso; omega) | (intro q; exfalso; omega) | (intro q k a b c e; rw [a164] at c; rw [a165] at e; rw [a166]; rcases (by omega : k = p9_1 ∨ k < p9_1) with z | z <;> first | exact un_9_0 (by omega) k a z c e | (subst z; omega) | (subst_vars; omega))) (by omega)
            ·
              refine w_aload_n gz_168_37 rfl ?_
              refine w_getX (v := 166) gz_168_38 is_151 rd_10 rfl (by decide) rfl ?_
              refine w_iload_n gz_168_41 rfl ?_
              refine w_iald gz_168_42 is_166 rd_65 (by omega) (by omega) (fun v103 ev103 pv103 qv103 => ?_)
              refine w_iload_n gz_168_43 rfl ?_
              refine w_icne (t := 51) gz_168_44 rfl (fun u104 => ?_) (fun u104 => ?_)
              ·
                refine w_iconst gz_168_51 (by decide) ?_
                refine w_istore_n (ls' := [(2, 151), (0, x1), (0, 0), (0, p9_1)]) gz_168_52 gm_168 rfl rfl rfl ?_
                refine w_iinc (ls' := [(2, 151), (0, x1), (0, 0), (0, (p9_1 + 1))]) gz_168_53 rfl gm_168 rfl rfl rfl ⟨by omega, by omega⟩ ?_
                refine w_goto (t := 9) gz_168_56 rfl ?_
                have a164 : ∀ j : Int, h9_0 164 j = h9_0 164 j := fun _ => rfl
                have a165 : ∀ j : Int, h9_0 165 j = h9_0 165 j := fun _ => rfl
                have a166 : ∀ j : Int, h9_0 166 j = h9_0 166 j := fun _ => rfl
                exact ih_9_0 (0) ((p9_1 + 1)) h9_0 (gh_9_0) (by omega) (by omega) (by omega) (by omega) (by omega) (c151_0_9_0.trans (by omega)) n_Mw_9_0 n_Mw3_9_0 n_Wrd_9_0 (by first | (intro _ k a b; exfalso; omega) | (intro q; exfalso; omega) | (intro q k a b c e; rw [a164] at c; rw [a165] at e; rw [a166]; rcases (by omega : k = p9_1 ∨ k < p9_1) with z | z <;> first | exact un_9_0 (by omega) k a z c e | (subst z; omega) | (subst_vars; omega))) (by omega)
              ·
                refine w_iconst gz_168_47 (by decide) ?_
                refine w_goto (t := 52) gz_168_48 rfl ?_
                refine w_istore_n (ls' := [(2, 151), (0, x1), (0, 1), (0, p9_1)]) gz_168_52 gm_168 rfl rfl rfl ?_
                refine w_iinc (ls' := [(2, 151), (0, x1), (0, 1), (0, (p9_1 + 1))]) gz_168_53 rfl gm_168 rfl rfl rfl ⟨by omega, by omega⟩ ?_
                refine w_goto (t := 9) gz_168_56 rfl ?_
                have a164 : ∀ j : Int, h9_0 164 j = h9_0 164 j := fun _ => rfl
                have a165 : ∀ j : Int, h9_0 165 j = h9_0 165 j := fun _ => rfl
                have a166 : ∀ j : Int, h9_0 166 j = h9_0 166 j := fun _ => rfl
                exact ih_9_0 (1) ((p9_1 + 1)) h9_0 (gh_9_0) (by omega) (by omega) (by omega) (by omega) (by omega) (c151_0_9_0.trans (by omega)) n_Mw_9_0 n_Mw3_9_0 n_Wrd_9_0 (by first | (intro _ k a b; exfalso; omega) | (intro q; exfalso; omega) | (intro q k a b c e; rw [a164] at c; rw [a165] at e; rw [a166]; rcases (by omega : k = p9_1 ∨ k < p9_1) with z | z <;> first | exact un_9_0 (by omega) k a z c e | (subst z; omega) | (subst_vars; omega))) (by omega)
  refine w_aload_n gz_168_0 rfl ?_
  refine w_iconst gz_168_1 (by decide) ?_
  refine v_putI (j := 0) gz_168_2 rfl is_151 rd_10 rfl (by omega) (by omega) rfl (fun h105 fh105 => ?_)
  have gh105 : my_fr [(10, 0), (10, 2), (10, 3), (10, 7), (10, 8), (10, 27), (10, 32), (10, 33), (52, -1), (53, -1), (54, -1), (63, -1), (64, -1), (65, -1), (66, -1), (67, -1), (68, -1), (69, -1), (70, -1), (71, -1), (72, -1), (73, -1), (74, -1), (75, -1), (76, -1), (77, -1), (78, -1), (79, -1)] h h105 := my_fr.up my_fr.rf is_151 fh105 rfl
  have Mw_h105 : Mw h105 := Mw_ag (my_ag.up fh105 is_151 rfl) n_Mw
  have Mw3_h105 : Mw3 h105 := Mw3_ag (my_ag.up fh105 is_151 rfl) n_Mw3
  have Wrd_h105 : Wrd h105 := Wrd_ag (my_ag.up fh105 is_151 rfl) n_Wrd
  refine w_iconst gz_168_5 (by decide) ?_
  refine w_istore_n (ls' := [(2, 151), (0, x1), (0, 0), (9, 0)]) gz_168_6 gm_168 rfl rfl rfl ?_
  refine w_iconst gz_168_7 (by decide) ?_
  refine w_istore_n (ls' := [(2, 151), (0, x1), (0, 0), (0, 0)]) gz_168_8 gm_168 rfl rfl rfl ?_
  have a164 : ∀ j : Int, h105 164 j = h 164 j := fun j => ((my_up_role fh105 is_164 is_151 rfl).trans (rfl : h 164 j = h 164 j))
  have a165 : ∀ j : Int, h105 165 j = h 165 j := fun j => ((my_up_role fh105 is_165 is_151 rfl).trans (rfl : h 165 j = h 165 j))
  have a166 : ∀ j : Int, h105 166 j = h 166 j := fun j => ((my_up_role fh105 is_166 is_151 rfl).trans (rfl : h 166 j = h 166 j))
  exact J9_0 7 (0) (0) h105 (gh105) (by omega) (by omega) (by omega) (by omega) (by omega) ((my_up_self fh105).trans (by omega)) Mw_h105 Mw3_h105 Wrd_h105 (by first | (intro _ k a b; exfalso; omega) | (intro q; exfalso; omega) | (intro q k a b c e; rw [a164] at c; rw [a165] at e; rw [a166]; rcases (by omega : k = p9_1 ∨ k < p9_1) with z | z <;> first | exact un_9_0 (by omega) k a z c e | (subst z; omega) | (subst_vars; omega))) (by omega)
end MYNModel_readPane_f0
