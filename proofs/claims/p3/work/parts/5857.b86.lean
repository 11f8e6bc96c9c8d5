/-! contracts, printed by wip/gen/gy.py -/
section MYNModel_readPane7_f0
set_option maxHeartbeats 8000000 in
theorem c_Model_readPane7_f0 {l : Launch} {rho : Nat → Int32} {d : Nat} {h : my_H} {Q : my_H → my_V → Prop} {wv : Int} (cf : h 151 8 = 0) (hwv : wv ≤ 5) (hwv0 : 0 ≤ wv) (n_Tok : Tok h) (n_Mq : Mq h wv) (n_Wrd : Wrd h) (n_Wd9 : Wd9 h) (k0 : ∀ (h' : my_H), my_fr [(10, 7), (10, 8), (10, 27), (66, -1), (67, -1), (68, -1), (69, -1), (70, -1), (71, -1), (72, -1), (73, -1), (74, -1), (75, -1), (77, -1), (78, -1), (79, -1)] h h' → 1 ≤ h' 151 8 → h' 151 8 ≤ 16005 → h 151 7 ≤ h' 151 7 → (∃ y c s : Int, paneR (sm h) (h 157) (h 157 (h 151 33)) (h 151 7) (h 151 27) (h 167 6) (h' 151 8) y c s) → Ko h h' → Kf h h' → Tok h' → Mq h' wv → Wrd h' → Wd9 h' → Q h' (9, 0)) (k1 : ∀ (h' : my_H), my_fr [(10, 7), (10, 8), (10, 27), (66, -1), (67, -1), (68, -1), (69, -1), (70, -1), (71, -1), (72, -1), (73, -1), (74, -1), (75, -1), (77, -1), (78, -1), (79, -1)] h h' → 1 ≤ h' 151 7 → h' 151 7 ≤ 1001 → h' 151 8 = 0 → h 151 7 < h' 151 7 → paneR (sm h) (h 157) (h 157 (h 151 33)) (h 151 7) (h 151 27) (h 167 6) (h' 151 8) (h' 151 7) (h' 151 27) (h' 167 6) → Ko h h' → PmQ h h' → Kf h h' → Tok h' → Mq h' wv → Wrd h' → Wd9 h' → Q h' (9, 0)) : wp l rho (d + 4) 185 0 [(2, 151), (9, 0), (9, 0), (9, 0), (9, 0), (9, 0), (9, 0), (9, 0)] [] h Q := by
  refine v_know (x := 151) (j := 7) (b := 7) rfl is_151 rd_10 rfl (fun k151_7 ek151_7 pk151_7 qk151_7 => ?_)
  refine v_know (x := 151) (j := 27) (b := 27) rfl is_151 rd_10 rfl (fun k151_27 ek151_27 pk151_27 qk151_27 => ?_)
  refine v_know (x := 151) (j := 33) (b := 33) rfl is_151 rd_10 rfl (fun k151_33 ek151_33 pk151_33 qk151_33 => ?_)
  have J88_0 : ∀ (p88_0 p88_1 p88_2 p88_3 p88_4 : Int) (h88_0 : my_H), my_fr [(10, 7), (10, 8), (10, 27), (66, -1), (67, -1), (68, -1), (69, -1), (70, -1), (71, -1), (72, -1), (73, -1), (74, -1), (75, -1), (77, -1), (78, -1), (79, -1)] h h88_0 → 0 ≤ p88_0 → p88_0 ≤ 1 → 0 ≤ p88_1 → p88_1 ≤ 1 → 0 ≤ p88_2 → p88_2 ≤ 1 → 0 ≤ p88_3 → p88_3 ≤ 1 → 0 ≤ p88_4 → p88_4 ≤ 16005 → h88_0 151 27 = k151_27 → h88_0 151 33 = k151_33 → h88_0 151 7 = k151_7 → h88_0 151 8 = p88_4 → Tok h88_0 → Mq h88_0 wv → Wrd h88_0 → Wd9 h88_0 → Ko h h88_0 → my_ag MzF h h88_0 → Ff h h88_0 → Kf h h88_0 → (h88_0 151 8 = 0 → h88_0 153 (h88_0 151 7) = 1) → (h88_0 151 8 = 0 → (p88_0 = 1 ∨ p88_1 = 1 ∨ p88_2 = 1 ∨ p88_3 = 1) → h88_0 167 6 ≤ 5) → h88_0 151 7 = h 151 7 → h88_0 151 27 = h 151 27 → h88_0 167 6 = h 167 6 → (h88_0 151 8 = 0 → (p88_0 = 1 → sW (sm h) (h 151 7) = 4904) ∧ (p88_0 = 0 → sW (sm h) (h 151 7) ≠ 4904) ∧ (p88_1 = 1 → sW (sm h) (h 151 7) = 8422) ∧ (p88_1 = 0 → sW (sm h) (h 151 7) ≠ 8422) ∧ (p88_2 = 1 → sW (sm h) (h 151 7) = 527412) ∧ (p88_2 = 0 → sW (sm h) (h 151 7) ≠ 527412) ∧ (p88_3 = 1 → sW (sm h) (h 151 7) = 26801) ∧ (p88_3 = 0 → sW (sm h) (h 151 7) ≠ 26801) ∧ (p88_0 = 0 → p88_1 = 0 → p88_2 = 0 → p88_3 = 0 → sW (sm h) (h 151 7) = 316695)) → (h88_0 151 8 ≠ 0 → (sW (sm h) (h 151 7) ≠ 316695 ∧ sW (sm h) (h 151 7) ≠ 4904 ∧ sW (sm h) (h 151 7) ≠ 8422 ∧ sW (sm h) (h 151 7) ≠ 527412 ∧ sW (sm h) (h 151 7) ≠ 26801 ∧ h88_0 151 8 = 1 + 16 * sP (sm h) (h 151 7)) ∨ ((sW (sm h) (h 151 7) = 4904 ∨ sW (sm h) (h 151 7) = 8422 ∨ sW (sm h) (h 151 7) = 527412 ∨ sW (sm h) (h 151 7) = 26801) ∧ 6 ≤ h 167 6 ∧ h88_0 151 8 = 5 + 16 * sP (sm h) (h 151 7))) → wp l rho (d + 4) 185 88 [(2, 151), (0, p88_0), (0, p88_1), (0, p88_2), (0, p88_3), (9, 0), (9, 0), (9, 0)] [] h88_0 Q := by
    intro p88_0 p88_1 p88_2 p88_3 p88_4 h88_0 gh_88_0 q0_88_0 q1_88_0 q2_88_0 q3_88_0 q4_88_0 q5_88_0 q6_88_0 q7_88_0 q8_88_0 q9_88_0 c151_27_88_0 c151_33_88_0 c151_7_88_0 c151_8_88_0 n_Tok_88_0 n_Mq_88_0 n_Wrd_88_0 n_Wd9_88_0 n_Ko_88_0 n_AgM_88_0 n_Ff_88_0 n_Kf_88_0 wd_88_0 pn_88_0 am_88_0 cw_88_0 c6_88_0 w1_88_0 wf_88_0
    have w1z := w1_88_0
    have wfz := wf_88_0
    refine w_aload_n gz_185_88 rfl ?_
    refine v_getI (j := 8) gz_185_89 rfl is_151 rd_10 rfl (fun v1 ev1 pv1 qv1 => ?_)
    have zv1 := ev1.trans c151_8_88_0
    refine w_ifle (t := 96) gz_185_92 rfl (fun u2 => ?_) (fun u2 => ?_)
    ·
      refine w_aload_n gz_185_96 rfl ?_
      refine w_dup gz_185_97 rfl ?_
      refine v_getI (j := 7) gz_185_98 rfl is_151 rd_10 rfl (fun v3 ev3 pv3 qv3 => ?_)
      have zv3 := ev3.trans c151_7_88_0
      refine w_iconst gz_185_101 (by decide) ?_
      refine w_iadd gz_185_102 ⟨by omega, by omega⟩ ?_
      have w1 := wd_88_0 (by omega)
      have hi4 : 0 ≤ (v3 + 1) := by have q := Tok_at n_Tok_88_0; omega
      have hi5 : (v3 + 1) ≤ 1001 := by have q := Tok_at n_Tok_88_0; omega
      refine v_putI (j := 7) gz_185_103 rfl is_151 rd_10 rfl (by omega) (by omega) rfl (fun h6 fh6 => ?_)
      have gh6 : my_fr [(10, 7), (10, 8), (10, 27), (66, -1), (67, -1), (68, -1), (69, -1), (70, -1), (71, -1), (72, -1), (73, -1), (74, -1), (75, -1), (77, -1), (78, -1), (79, -1)] h h6 := my_fr.up gh_88_0 is_151 fh6 rfl
      have ps7a : h88_0 151 7 = h 151 7 := am_88_0
      have ps7 : h6 151 7 = (sN (sm h) (h 151 7)) := by
        rw [my_up_self fh6]
        show (v3 + 1) = h 151 7 + 1
        omega
      have Mq_h6 : Mq h6 wv := Mq_ag (my_ag.up fh6 is_151 rfl) n_Mq_88_0
      have Wrd_h6 : Wrd h6 := Wrd_ag (my_ag.up fh6 is_151 rfl) n_Wrd_88_0
      have Wd9_h6 : Wd9 h6 := Wd9_ag (my_ag.up fh6 is_151 rfl) n_Wd9_88_0
      have Ko_h6 : Ko h h6 := Ko_ag (my_ag.up fh6 is_151 rfl) n_Ko_88_0
      have AgM_h6 : my_ag MzF h h6 := AgM_ag (my_ag.up fh6 is_151 rfl) n_AgM_88_0
      have Ff_h6 : Ff h h6 := Ff_ag (my_ag.up fh6 is_151 rfl) n_Ff_88_0
      have Kf_h6 : Kf h h6 := Kf_ag (my_ag.up fh6 is_151 rfl) n_Kf_88_0
      have Tok_h6t8 : Tok h6 := Tok_inc n_Tok_88_0 (by omega) (by omega) fh6
      have k7 := my_up_self fh6
      refine w_bipush gz_185_106 (by decide) ?_
      refine w_aload_n gz_185_108 rfl ?_
      refine w_getX (v := 167) gz_185_109 is_151 rd_10 rfl (by decide) rfl ?_
      refine w_bipush gz_185_112 (by decide) ?_
      refine w_iald gz_185_114 is_167 rd_66 (by omega) (by omega) (fun v10 ev10 pv10 qv10 => ?_)
      have b167 : ∀ j : Int, h6 167 j = h88_0 167 j := fun j => ((my_up_role fh6 is_167 is_151 rfl).trans (rfl : h88_0 167 j = h88_0 167 j))
      have p5 := pn_88_0 (by omega)
      have q6 := b167 6
      refine w_iadd gz_185_115 ⟨by omega, by omega⟩ ?_
      refine w_istore (ls' := [(2, 151), (0, p88_0), (0, p88_1), (0, p88_2), (0, p88_3), (0, (36 + v10)), (9, 0), (9, 0)]) gz_185_116 gm_185 rfl rfl rfl ?_
      refine w_iload_n gz_185_118 rfl ?_
      refine w_ifeq (t := 131) gz_185_119 rfl (fun u11 => ?_) (fun u11 => ?_)
      ·
        refine w_iload_n gz_185_131 rfl ?_
        refine w_ifeq (t := 144) gz_185_132 rfl (fun u12 => ?_) (fun u12 => ?_)
        ·
          refine w_iload_n gz_185_144 rfl ?_
          refine w_ifeq (t := 157) gz_185_145 rfl (fun u13 => ?_) (fun u13 => ?_)
          ·
            refine w_iload gz_185_157 rfl ?_
            refine w_ifeq (t := 171) gz_185_159 rfl (fun u14 => ?_) (fun u14 => ?_)
            ·
              refine w_aload_n gz_185_171 rfl ?_
              refine w_aload_n gz_185_172 rfl ?_
              refine w_getX (v := 157) gz_185_173 is_151 rd_10 rfl (by decide) rfl ?_
              refine w_aload_n gz_185_176 rfl ?_
              refine v_getI (j := 33) gz_185_177 rfl is_151 rd_10 rfl (fun v16 ev16 pv16 qv16 => ?_)
              have zv16 := ev16.trans ((my_up_fld fh6 (by decide)).trans c151_33_88_0)
              refine w_iald gz_185_180 is_157 rd_56 (by omega) (by omega) (fun v17 ev17 pv17 qv17 => ?_)
              refine w_iconst gz_185_181 (by decide) ?_
              refine w_isub gz_185_182 ⟨by omega, by omega⟩ ?_
              have ce18 : h6 151 7 = (v3 + 1) := (my_up_self fh6)
              have ce19 : h6 151 27 = k151_27 := ((my_up_fld fh6 (by decide)).trans c151_27_88_0)
              have b183 : (v17 - 1) = h 157 (h 151 33) - 1 := by
                have a := my_fr.at (j := 33) gh6 is_151 rfl
                have b := my_fr.at (j := v16) gh6 is_157 rfl
                rw [show h 151 33 = v16 by omega]
                omega
              have kF_h6t20 : mkQ h6 := mkO
              refine w_inv (k := 0) (as := [(0, (v17 - 1))]) (r := []) (x := 151) (ls0 := [(2, 151), (0, (v17 - 1))]) gz_185_183 gm_187 rfl is_151 rd_10 rfl rfl rfl rfl rfl (c_Model_takeNumber9_f0 (d := (d + 2)) (x1 := (v17 - 1)) (by omega) (by omega) (((my_up_fld fh6 (by decide)).trans ev1.symm).trans (by omega)) Tok_h6t8 (fun h21 frh21 w22 w23 xp24 xp25 Tok_h21t26 => ?_) (fun h27 v28 frh27 w29 w30 w31 w32 w33 xp34 xp35 xp36 xp37 xp38 xp39 xp40 xp41 Tok_h27t42 => ?_))
              ·
                have gh21 : my_fr [(10, 7), (10, 8), (10, 27), (66, -1), (67, -1), (68, -1), (69, -1), (70, -1), (71, -1), (72, -1), (73, -1), (74, -1), (75, -1), (77, -1), (78, -1), (79, -1)] h h21 := my_fr.tr gh6 (frh21.mo rfl)
                have Mq_h21 : Mq h21 wv := Mq_ag (my_ag.fr frh21 rfl) Mq_h6
                have Wrd_h21 : Wrd h21 := Wrd_ag (my_ag.fr frh21 rfl) Wrd_h6
                have Wd9_h21 : Wd9 h21 := Wd9_ag (my_ag.fr frh21 rfl) Wd9_h6
                have Ko_h21 : Ko h h21 := Ko_ag (my_ag.fr frh21 rfl) Ko_h6
                have AgM_h21 : my_ag MzF h h21 := AgM_ag (my_ag.fr frh21 rfl) AgM_h6
                have Ff_h21 : Ff h h21 := Ff_ag (my_ag.fr frh21 rfl) Ff_h6
                have Kf_h21 : Kf h h21 := Kf_ag (my_ag.fr frh21 rfl) Kf_h6
                have kF_h21 : mkQ h21 := mkT (my_ag.fr frh21 rfl) kF_h6t20
                show wp l rho (d + 4) 185 186 [(2, 151), (0, p88_0), (0, p88_1), (0, p88_2), (0, p88_3), (0, (36 + v10)), (9, 0), (9, 0)] [(0, 0)] h21 Q
                have ps43 : h6 151 7 = (sN (sm h) (h 151 7)) := ps7
                rw [ps43] at xp24
                have tE44 : sm h6 = sm h := sm_eq (fun j => my_fr.at gh6 is_153 rfl) (fun j => my_fr.at gh6 is_154 rfl) (fun j => my_fr.at gh6 is_155 rfl)
                rw [tE44] at xp25
                rw [ps43] at xp25
                refine w_istore (ls' := [(2, 151), (0, p88_0), (0, p88_1), (0, p88_2), (0, p88_3), (0, (36 + v10)), (0, 0), (9, 0)]) gz_185_186 gm_185 rfl rfl rfl ?_
                refine w_aload_n gz_185_188 rfl ?_
                refine w_bipush gz_185_189 (by decide) ?_
                have ce45 : h21 151 27 = k151_27 := ((my_fr.at frh21 is_151 rfl).trans ((my_up_fld fh6 (by decide)).trans c151_27_88_0))
                refine w_inv (k := 0) (as := [(0, 19)]) (r := []) (x := 151) (ls0 := [(2, 151), (0, 19)]) gz_185_191 gm_187 rfl is_151 rd_10 rfl rfl rfl rfl rfl (c_Model_takeNumber9_f1 (d := (d + 2)) (x1 := 19) (by omega) (by omega) ((h21 151 8)) ((rfl : h21 151 8 = h21 151 8)) (by omega) (by omega) Tok_h21t26 (fun w46 w47 xp48 Tok_h21t49 => ?_))
                show wp l rho (d + 4) 185 194 [(2, 151), (0, p88_0), (0, p88_1), (0, p88_2), (0, p88_3), (0, (36 + v10)), (0, 0), (9, 0)] [(0, 0)] h21 Q
                have ps50 : h21 151 7 = (((sN (sm h) (h 151 7)))) := xp24
                rw [ps50] at xp48
                refine w_istore (ls' := [(2, 151), (0, p88_0), (0, p88_1), (0, p88_2), (0, p88_3), (0, (36 + v10)), (0, 0), (0, 0)]) gz_185_194 gm_185 rfl rfl rfl ?_
                have ce51 : h21 151 8 = (h21 151 8) := (rfl : h21 151 8 = h21 151 8)
                have zF : fillM (sm h) (sN (sm h) (h 151 7)) (h 157 (h 151 33)) (h21 151 8) ((((sN (sm h) (h 151 7))))) := by (unfold fillM; first | exact Or.inr (Or.inr ⟨by omega, by omega, Or.inr (Or.inr ⟨by omega, by omega, ⟨by omega, by omega⟩⟩)⟩) | exact Or.inr (Or.inr ⟨by omega, by omega, or_assoc.mp (Or.inl (by omega))⟩) | exact or_assoc.mp (Or.inl (by omega)))
                refine w_aload_n gz_185_196 rfl ?_
                refine w_getX (v := 173) gz_185_197 is_151 rd_10 rfl (by decide) rfl ?_
                refine w_bipush gz_185_200 (by decide) ?_
                refine w_iload gz_185_202 rfl ?_
                refine w_iadd gz_185_204 ⟨by omega, by omega⟩ ?_
                refine w_aload_n gz_185_205 rfl ?_
                refine v_getI (j := 8) gz_185_206 rfl is_151 rd_10 rfl (fun v53 ev53 pv53 qv53 => ?_)
                have zv53 := ev53.trans (rfl : h21 151 8 = h21 151 8)
                refine w_ifne (t := 217) gz_185_209 rfl (fun u54 => ?_) (fun u54 => by exfalso; omega)
                refine w_aload_n gz_185_217 rfl ?_
                refine w_getX (v := 173) gz_185_218 is_151 rd_10 rfl (by decide) rfl ?_
                refine w_bipush gz_185_221 (by decide) ?_
                refine w_iload gz_185_223 rfl ?_
                refine w_iadd gz_185_225 ⟨by omega, by omega⟩ ?_
                have hi56 : 0 ≤ (24 + 0) := by omega
                have hi57 : (24 + 0) ≤ 27 := by omega
                refine w_iald gz_185_226 is_173 rd_72 (by omega) (by omega) (fun v58 ev58 pv58 qv58 => ?_)
                have ff9 := Ff_h21
                have hi59 : (-1) ≤ v58 := by omega
                have hi60 : v58 ≤ 19 := by omega
                have hi61 : 0 ≤ (24 + 0) := by omega
                have hi62 : (24 + 0) ≤ 27 := by omega
                refine w_iast gz_185_227 is_173 rd_72 (by omega) (by omega) (by omega) (by omega) (fun h63 fh63 => ?_)
                have gh63 : my_fr [(10, 7), (10, 8), (10, 27), (66, -1), (67, -1), (68, -1), (69, -1), (70, -1), (71, -1), (72, -1), (73, -1), (74, -1), (75, -1), (77, -1), (78, -1), (79, -1)] h h63 := my_fr.up gh21 is_173 fh63 rfl
                have Mq_h63 : Mq h63 wv := Mq_ag (my_ag.up fh63 is_173 rfl) Mq_h21
                have Wrd_h63 : Wrd h63 := Wrd_ag (my_ag.up fh63 is_173 rfl) Wrd_h21
                have Wd9_h63 : Wd9 h63 := Wd9_ag (my_ag.up fh63 is_173 rfl) Wd9_h21
                have Ko_h63 : Ko h h63 := Ko_ag (my_ag.up fh63 is_173 rfl) Ko_h21
                have AgM_h63 : my_ag MzF h h63 := AgM_ag (my_ag.up fh63 is_173 rfl) AgM_h21
                have Kf_h63 : Kf h h63 := Kf_u (a := 173) hwv (by decide) (by omega) fh63 Kf_h21
                have kF_h63 : mkQ h63 := mkT (my_ag.up fh63 is_173 rfl) kF_h21
                have Tok_h63 : Tok h63 := Tok_ag (my_ag.up fh63 is_173 rfl) Tok_h21t49
                have f73 := fh63
                refine w_aload_n gz_185_228 rfl ?_
                refine v_getI (j := 8) gz_185_229 rfl is_151 rd_10 rfl (fun v64 ev64 pv64 qv64 => ?_)
                have zv64 := ev64.trans ((my_up_role fh63 is_151 is_173 rfl).trans ev53.symm)
                refine w_ifne (t := 269) gz_185_232 rfl (fun u65 => ?_) (fun u65 => by exfalso; omega)
                refine w_aload_n gz_185_269 rfl ?_
                refine w_bipush gz_185_270 (by decide) ?_
                have ce66 : h63 151 7 = h21 151 7 := ((my_up_role fh63 is_151 is_173 rfl).trans (rfl : h21 151 7 = h21 151 7))
                refine w_inv (k := 0) (as := [(0, 59)]) (r := []) (x := 151) (ls0 := [(2, 151), (0, 59)]) gz_185_272 gm_183 rfl is_151 rd_10 rfl rfl rfl rfl rfl (c_Model_takeSign9_f1 (d := (d + 2))  (v64) (ev64.symm) (by omega) (by omega) Tok_h63 (fun w67 w68 xp69 xp70 Tok_h63t71 => ?_))
                show wp l rho (d + 4) 185 275 [(2, 151), (0, p88_0), (0, p88_1), (0, p88_2), (0, p88_3), (0, (36 + v10)), (0, 0), (0, 0)] [] h63 Q
                have ps72 : h63 151 7 = (((sN (sm h) (h 151 7)))) := ((my_up_role fh63 is_151 is_173 rfl).trans xp24)
                rw [ps72] at xp69
                rw [ps72] at xp70
                have psR : h63 151 7 = (((sN (sm h) (h 151 7)))) := ((my_up_role fh63 is_151 is_173 rfl).trans xp24)
                have npsR : sm h63 = sm h := sm_eq (fun j => my_fr.at gh63 is_153 rfl) (fun j => my_fr.at gh63 is_154 rfl) (fun j => my_fr.at gh63 is_155 rfl)
                have ce73 : h63 151 7 = h21 151 7 := ((my_up_role fh63 is_151 is_173 rfl).trans (rfl : h21 151 7 = h21 151 7))
                have ce74 : h63 151 8 = v64 := ev64.symm
                have ce75 : h63 151 27 = k151_27 := ((my_up_role fh63 is_151 is_173 rfl).trans ((my_fr.at frh21 is_151 rfl).trans ((my_up_fld fh6 (by decide)).trans c151_27_88_0)))
                have r167 : ∀ j : Int, h63 167 j = h88_0 167 j := fun j => ((my_up_role fh63 is_167 is_173 rfl).trans ((my_fr.at frh21 is_167 rfl).trans ((my_up_role fh6 is_167 is_151 rfl).trans (rfl : h88_0 167 j = h88_0 167 j))))
                have r6 := r167 6
                have r173 : ∀ j : Int, h63 173 j = h63 173 j := fun j => rfl
                have zR9 : ∃ y c s : Int, paneR (sm h) (h 157) (h 157 (h 151 33)) (h 151 7) (h 151 27) (h 167 6) (h63 151 8) y c s := ⟨0, _, _, Or.inl ⟨by omega, fillM_R zF (by first | exact Or.inl ⟨by omega, by omega⟩ | exact Or.inr ⟨by omega, Or.inl ⟨by omega, by omega⟩⟩ | exact Or.inr ⟨by omega, Or.inr ⟨by omega, by omega, by omega⟩⟩), rfl, rfl⟩⟩
                have c76 := ev64.symm
                exact w_vret gz_185_275 gm_185 (k0 h63 (gh63) (by omega) (by omega) (by first | exact Kf_h63 | exact Ko_h63 | exact zR9 | exact zQ9 | omega) (by first | exact Kf_h63 | exact Ko_h63 | exact zR9 | exact zQ9 | omega) (by first | exact Kf_h63 | exact Ko_h63 | exact zR9 | exact zQ9 | omega) (by first | exact Kf_h63 | exact Ko_h63 | exact zR9 | exact zQ9 | omega) Tok_h63t71 Mq_h63 Wrd_h63 Wd9_h63)
              ·
                have gh27 : my_fr [(10, 7), (10, 8), (10, 27), (66, -1), (67, -1), (68, -1), (69, -1), (70, -1), (71, -1), (72, -1), (73, -1), (74, -1), (75, -1), (77, -1), (78, -1), (79, -1)] h h27 := my_fr.tr gh6 (frh27.mo rfl)
                have Mq_h27 : Mq h27 wv := Mq_ag (my_ag.fr frh27 rfl) Mq_h6
                have Wrd_h27 : Wrd h27 := Wrd_ag (my_ag.fr frh27 rfl) Wrd_h6
                have Wd9_h27 : Wd9 h27 := Wd9_ag (my_ag.fr frh27 rfl) Wd9_h6
                have Ko_h27 : Ko h h27 := Ko_ag (my_ag.fr frh27 rfl) Ko_h6
                have AgM_h27 : my_ag MzF h h27 := AgM_ag (my_ag.fr frh27 rfl) AgM_h6
                have Ff_h27 : Ff h h27 := Ff_ag (my_ag.fr frh27 rfl) Ff_h6
                have Kf_h27 : Kf h h27 := Kf_ag (my_ag.fr frh27 rfl) Kf_h6
                have kF_h27 : mkQ h27 := mkT (my_ag.fr frh27 rfl) kF_h6t20
                show wp l rho (d + 4) 185 186 [(2, 151), (0, p88_0), (0, p88_1), (0, p88_2), (0, p88_3), (0, (36 + v10)), (9, 0), (9, 0)] [(0, v28)] h27 Q
                have ps77 : h6 151 7 = (sN (sm h) (h 151 7)) := ps7
                rw [ps77] at xp36
                rw [ps77] at xp37
                rw [ps77] at xp38
                have tE78 : sm h6 = sm h := sm_eq (fun j => my_fr.at gh6 is_153 rfl) (fun j => my_fr.at gh6 is_154 rfl) (fun j => my_fr.at gh6 is_155 rfl)
                rw [tE78] at xp39
                rw [ps77] at xp39
                rw [tE78] at xp40
                rw [ps77] at xp40
                rw [tE78] at xp41
                rw [ps77] at xp41
                refine w_istore (ls' := [(2, 151), (0, p88_0), (0, p88_1), (0, p88_2), (0, p88_3), (0, (36 + v10)), (0, v28), (9, 0)]) gz_185_186 gm_185 rfl rfl rfl ?_
                refine w_aload_n gz_185_188 rfl ?_
                refine w_bipush gz_185_189 (by decide) ?_
                have ce79 : h27 151 7 = (h27 151 7) := (rfl : h27 151 7 = h27 151 7)
                have ce80 : h27 151 27 = k151_27 := ((my_fr.at frh27 is_151 rfl).trans ((my_up_fld fh6 (by decide)).trans c151_27_88_0))
                refine w_inv (k := 0) (as := [(0, 19)]) (r := []) (x := 151) (ls0 := [(2, 151), (0, 19)]) gz_185_191 gm_187 rfl is_151 rd_10 rfl rfl rfl rfl rfl (c_Model_takeNumber9_f0 (d := (d + 2)) (x1 := 19) (by omega) (by omega) (w33.trans (by omega)) Tok_h27t42 (fun h81 frh81 w82 w83 xp84 xp85 Tok_h81t86 => ?_) (fun h87 v88 frh87 w89 w90 w91 w92 w93 xp94 xp95 xp96 xp97 xp98 xp99 xp100 xp101 Tok_h87t102 => ?_))
                ·
                  have gh81 : my_fr [(10, 7), (10, 8), (10, 27), (66, -1), (67, -1), (68, -1), (69, -1), (70, -1), (71, -1), (72, -1), (73, -1), (74, -1), (75, -1), (77, -1), (78, -1), (79, -1)] h h81 := my_fr.tr gh27 (frh81.mo rfl)
                  have Mq_h81 : Mq h81 wv := Mq_ag (my_ag.fr frh81 rfl) Mq_h27
                  have Wrd_h81 : Wrd h81 := Wrd_ag (my_ag.fr frh81 rfl) Wrd_h27
                  have Wd9_h81 : Wd9 h81 := Wd9_ag (my_ag.fr frh81 rfl) Wd9_h27
                  have Ko_h81 : Ko h h81 := Ko_ag (my_ag.fr frh81 rfl) Ko_h27
                  have AgM_h81 : my_ag MzF h h81 := AgM_ag (my_ag.fr frh81 rfl) AgM_h27
                  have Ff_h81 : Ff h h81 := Ff_ag (my_ag.fr frh81 rfl) Ff_h27
                  have Kf_h81 : Kf h h81 := Kf_ag (my_ag.fr frh81 rfl) Kf_h27
                  have kF_h81 : mkQ h81 := mkT (my_ag.fr frh81 rfl) kF_h27
                  show wp l rho (d + 4) 185 194 [(2, 151), (0, p88_0), (0, p88_1), (0, p88_2), (0, p88_3), (0, (36 + v10)), (0, v28), (9, 0)] [(0, 0)] h81 Q
                  have ps103 : h27 151 7 = (sN (sm h) (((sN (sm h) (h 151 7))))) := xp39
                  rw [ps103] at xp84
                  have tE104 : sm h27 = sm h := sm_eq (fun j => my_fr.at gh27 is_153 rfl) (fun j => my_fr.at gh27 is_154 rfl) (fun j => my_fr.at gh27 is_155 rfl)
                  rw [tE104] at xp85
                  rw [ps103] at xp85
                  refine w_istore (ls' := [(2, 151), (0, p88_0), (0, p88_1), (0, p88_2), (0, p88_3), (0, (36 + v10)), (0, v28), (0, 0)]) gz_185_194 gm_185 rfl rfl rfl ?_
                  have ce105 : h81 151 8 = (h81 151 8) := (rfl : h81 151 8 = h81 151 8)
                  have zF : fillM (sm h) (sN (sm h) (h 151 7)) (h 157 (h 151 33)) (h81 151 8) ((((sN (sm h) (((sN (sm h) (h 151 7)))))))) := by (unfold fillM; first | exact Or.inr (Or.inr ⟨by omega, by omega, Or.inr (Or.inr ⟨by omega, by omega, ⟨by omega, by omega⟩⟩)⟩) | exact Or.inr (Or.inr ⟨by omega, by omega, or_assoc.mp (Or.inl (by omega))⟩) | exact or_assoc.mp (Or.inl (by omega)))
                  refine w_aload_n gz_185_196 rfl ?_
                  refine w_getX (v := 173) gz_185_197 is_151 rd_10 rfl (by decide) rfl ?_
                  refine w_bipush gz_185_200 (by decide) ?_
                  refine w_iload gz_185_202 rfl ?_
                  refine w_iadd gz_185_204 ⟨by omega, by omega⟩ ?_
                  refine w_aload_n gz_185_205 rfl ?_
                  refine v_getI (j := 8) gz_185_206 rfl is_151 rd_10 rfl (fun v107 ev107 pv107 qv107 => ?_)
                  have zv107 := ev107.trans (rfl : h81 151 8 = h81 151 8)
                  refine w_ifne (t := 217) gz_185_209 rfl (fun u108 => ?_) (fun u108 => by exfalso; omega)
                  refine w_aload_n gz_185_217 rfl ?_
                  refine w_getX (v := 173) gz_185_218 is_151 rd_10 rfl (by decide) rfl ?_
                  refine w_bipush gz_185_221 (by decide) ?_
                  refine w_iload gz_185_223 rfl ?_
                  refine w_iadd gz_185_225 ⟨by omega, by omega⟩ ?_
                  have hi110 : 0 ≤ (24 + v28) := by omega
                  have hi111 : (24 + v28) ≤ 27 := by omega
                  refine w_iald gz_185_226 is_173 rd_72 (by omega) (by omega) (fun v112 ev112 pv112 qv112 => ?_)
                  have ff9 := Ff_h81
                  have hi113 : (-1) ≤ v112 := by omega
                  have hi114 : v112 ≤ 19 := by omega
                  have hi115 : 0 ≤ (24 + v28) := by omega
                  have hi116 : (24 + v28) ≤ 27 := by omega
                  refine w_iast gz_185_227 is_173 rd_72 (by omega) (by omega) (by omega) (by omega) (fun h117 fh117 => ?_)
                  have gh117 : my_fr [(10, 7), (10, 8), (10, 27), (66, -1), (67, -1), (68, -1), (69, -1), (70, -1), (71, -1), (72, -1), (73, -1), (74, -1), (75, -1), (77, -1), (78, -1), (79, -1)] h h117 := my_fr.up gh81 is_173 fh117 rfl
                  have Mq_h117 : Mq h117 wv := Mq_ag (my_ag.up fh117 is_173 rfl) Mq_h81
                  have Wrd_h117 : Wrd h117 := Wrd_ag (my_ag.up fh117 is_173 rfl) Wrd_h81
                  have Wd9_h117 : Wd9 h117 := Wd9_ag (my_ag.up fh117 is_173 rfl) Wd9_h81
                  have Ko_h117 : Ko h h117 := Ko_ag (my_ag.up fh117 is_173 rfl) Ko_h81
                  have AgM_h117 : my_ag MzF h h117 := AgM_ag (my_ag.up fh117 is_173 rfl) AgM_h81
                  have Kf_h117 : Kf h h117 := Kf_u (a := 173) hwv (by decide) (by omega) fh117 Kf_h81
                  have kF_h117 : mkQ h117 := mkT (my_ag.up fh117 is_173 rfl) kF_h81
                  have Tok_h117 : Tok h117 := Tok_ag (my_ag.up fh117 is_173 rfl) Tok_h81t86
                  have f73 := fh117
                  refine w_aload_n gz_185_228 rfl ?_
                  refine v_getI (j := 8) gz_185_229 rfl is_151 rd_10 rfl (fun v118 ev118 pv118 qv118 => ?_)
                  have zv118 := ev118.trans ((my_up_role fh117 is_151 is_173 rfl).trans ev107.symm)
                  refine w_ifne (t := 269) gz_185_232 rfl (fun u119 => ?_) (fun u119 => by exfalso; omega)
                  refine w_aload_n gz_185_269 rfl ?_
                  refine w_bipush gz_185_270 (by decide) ?_
                  have ce120 : h117 151 7 = h81 151 7 := ((my_up_role fh117 is_151 is_173 rfl).trans (rfl : h81 151 7 = h81 151 7))
                  refine w_inv (k := 0) (as := [(0, 59)]) (r := []) (x := 151) (ls0 := [(2, 151), (0, 59)]) gz_185_272 gm_183 rfl is_151 rd_10 rfl rfl rfl rfl rfl (c_Model_takeSign9_f1 (d := (d + 2))  (v118) (ev118.symm) (by omega) (by omega) Tok_h117 (fun w121 w122 xp123 xp124 Tok_h117t125 => ?_))
                  show wp l rho (d + 4) 185 275 [(2, 151), (0, p88_0), (0, p88_1), (0, p88_2), (0, p88_3), (0, (36 + v10)), (0, v28), (0, 0)] [] h117 Q
                  have ps126 : h117 151 7 = (((sN (sm h) (((sN (sm h) (h 151 7))))))) := ((my_up_role fh117 is_151 is_173 rfl).trans xp84)
                  rw [ps126] at xp123
                  rw [ps126] at xp124
                  have psR : h117 151 7 = (((sN (sm h) (((sN (sm h) (h 151 7))))))) := ((my_up_role fh117 is_151 is_173 rfl).trans xp84)
                  have npsR : sm h117 = sm h := sm_eq (fun j => my_fr.at gh117 is_153 rfl) (fun j => my_fr.at gh117 is_154 rfl) (fun j => my_fr.at gh117 is_155 rfl)
                  have ce127 : h117 151 7 = h81 151 7 := ((my_up_role fh117 is_151 is_173 rfl).trans (rfl : h81 151 7 = h81 151 7))
                  have ce128 : h117 151 8 = v118 := ev118.symm
                  have ce129 : h117 151 27 = k151_27 := ((my_up_role fh117 is_151 is_173 rfl).trans ((my_fr.at frh81 is_151 rfl).trans ((my_fr.at frh27 is_151 rfl).trans ((my_up_fld fh6 (by decide)).trans c151_27_88_0))))
                  have r167 : ∀ j : Int, h117 167 j = h88_0 167 j := fun j => ((my_up_role fh117 is_167 is_173 rfl).trans ((my_fr.at frh81 is_167 rfl).trans ((my_fr.at frh27 is_167 rfl).trans ((my_up_role fh6 is_167 is_151 rfl).trans (rfl : h88_0 167 j = h88_0 167 j)))))
                  have r6 := r167 6
                  have r173 : ∀ j : Int, h117 173 j = h117 173 j := fun j => rfl
                  have zR9 : ∃ y c s : Int, paneR (sm h) (h 157) (h 157 (h 151 33)) (h 151 7) (h 151 27) (h 167 6) (h117 151 8) y c s := ⟨0, _, _, Or.inl ⟨by omega, fillM_R zF (by first | exact Or.inl ⟨by omega, by omega⟩ | exact Or.inr ⟨by omega, Or.inl ⟨by omega, by omega⟩⟩ | exact Or.inr ⟨by omega, Or.inr ⟨by omega, by omega, by omega⟩⟩), rfl, rfl⟩⟩
                  have c130 := ev118.symm
                  exact w_vret gz_185_275 gm_185 (k0 h117 (gh117) (by omega) (by omega) (by first | exact Kf_h117 | exact Ko_h117 | exact zR9 | exact zQ9 | omega) (by first | exact Kf_h117 | exact Ko_h117 | exact zR9 | exact zQ9 | omega) (by first | exact Kf_h117 | exact Ko_h117 | exact zR9 | exact zQ9 | omega) (by first | exact Kf_h117 | exact Ko_h117 | exact zR9 | exact zQ9 | omega) Tok_h117t125 Mq_h117 Wrd_h117 Wd9_h117)
                ·
                  have gh87 : my_fr [(10, 7), (10, 8), (10, 27), (66, -1), (67, -1), (68, -1), (69, -1), (70, -1), (71, -1), (72, -1), (73, -1), (74, -1), (75, -1), (77, -1), (78, -1), (79, -1)] h h87 := my_fr.tr gh27 (frh87.mo rfl)
                  have Mq_h87 : Mq h87 wv := Mq_ag (my_ag.fr frh87 rfl) Mq_h27
                  have Wrd_h87 : Wrd h87 := Wrd_ag (my_ag.fr frh87 rfl) Wrd_h27
                  have Wd9_h87 : Wd9 h87 := Wd9_ag (my_ag.fr frh87 rfl) Wd9_h27
                  have Ko_h87 : Ko h h87 := Ko_ag (my_ag.fr frh87 rfl) Ko_h27
                  have AgM_h87 : my_ag MzF h h87 := AgM_ag (my_ag.fr frh87 rfl) AgM_h27
                  have Ff_h87 : Ff h h87 := Ff_ag (my_ag.fr frh87 rfl) Ff_h27
                  have Kf_h87 : Kf h h87 := Kf_ag (my_ag.fr frh87 rfl) Kf_h27
                  have kF_h87 : mkQ h87 := mkT (my_ag.fr frh87 rfl) kF_h27
                  show wp l rho (d + 4) 185 194 [(2, 151), (0, p88_0), (0, p88_1), (0, p88_2), (0, p88_3), (0, (36 + v10)), (0, v28), (9, 0)] [(0, v88)] h87 Q
                  have ps131 : h27 151 7 = (sN (sm h) (((sN (sm h) (h 151 7))))) := xp39
                  rw [ps131] at xp96
                  rw [ps131] at xp97
                  rw [ps131] at xp98
                  have tE132 : sm h27 = sm h := sm_eq (fun j => my_fr.at gh27 is_153 rfl) (fun j => my_fr.at gh27 is_154 rfl) (fun j => my_fr.at gh27 is_155 rfl)
                  rw [tE132] at xp99
                  rw [ps131] at xp99
                  rw [tE132] at xp100
                  rw [ps131] at xp100
                  rw [tE132] at xp101
                  rw [ps131] at xp101
                  refine w_istore (ls' := [(2, 151), (0, p88_0), (0, p88_1), (0, p88_2), (0, p88_3), (0, (36 + v10)), (0, v28), (0, v88)]) gz_185_194 gm_185 rfl rfl rfl ?_
                  have ce133 : h87 151 7 = (h87 151 7) := (rfl : h87 151 7 = h87 151 7)
                  have ce134 : h87 151 8 = 0 := w93
                  have zF : fillM (sm h) (sN (sm h) (h 151 7)) (h 157 (h 151 33)) (h87 151 8) ((sN (sm h) (((sN (sm h) (((sN (sm h) (h 151 7))))))))) := by (unfold fillM; first | exact Or.inr (Or.inr ⟨by omega, by omega, Or.inr (Or.inr ⟨by omega, by omega, ⟨by omega, by omega⟩⟩)⟩) | exact Or.inr (Or.inr ⟨by omega, by omega, or_assoc.mp (Or.inl (by omega))⟩) | exact or_assoc.mp (Or.inl (by omega)))
                  refine w_aload_n gz_185_196 rfl ?_
                  refine w_getX (v := 173) gz_185_197 is_151 rd_10 rfl (by decide) rfl ?_
                  refine w_bipush gz_185_200 (by decide) ?_
                  refine w_iload gz_185_202 rfl ?_
                  refine w_iadd gz_185_204 ⟨by omega, by omega⟩ ?_
                  refine w_aload_n gz_185_205 rfl ?_
                  refine v_getI (j := 8) gz_185_206 rfl is_151 rd_10 rfl (fun v136 ev136 pv136 qv136 => ?_)
                  have zv136 := ev136.trans w93
                  refine w_ifne (t := 217) gz_185_209 rfl (fun u137 => by exfalso; omega) (fun u137 => ?_)
                  refine w_iload gz_185_212 rfl ?_
                  refine w_goto (t := 227) gz_185_214 rfl ?_
                  have ff9 := Ff_h87
                  have hi138 : (-1) ≤ v88 := by omega
                  have hi139 : v88 ≤ 19 := by omega
                  have hi140 : 0 ≤ (24 + v28) := by omega
                  have hi141 : (24 + v28) ≤ 27 := by omega
                  refine w_iast gz_185_227 is_173 rd_72 (by omega) (by omega) (by omega) (by omega) (fun h142 fh142 => ?_)
                  have gh142 : my_fr [(10, 7), (10, 8), (10, 27), (66, -1), (67, -1), (68, -1), (69, -1), (70, -1), (71, -1), (72, -1), (73, -1), (74, -1), (75, -1), (77, -1), (78, -1), (79, -1)] h h142 := my_fr.up gh87 is_173 fh142 rfl
                  have Mq_h142 : Mq h142 wv := Mq_ag (my_ag.up fh142 is_173 rfl) Mq_h87
                  have Wrd_h142 : Wrd h142 := Wrd_ag (my_ag.up fh142 is_173 rfl) Wrd_h87
                  have Wd9_h142 : Wd9 h142 := Wd9_ag (my_ag.up fh142 is_173 rfl) Wd9_h87
                  have Ko_h142 : Ko h h142 := Ko_ag (my_ag.up fh142 is_173 rfl) Ko_h87
                  have AgM_h142 : my_ag MzF h h142 := AgM_ag (my_ag.up fh142 is_173 rfl) AgM_h87
                  have Kf_h142 : Kf h h142 := Kf_u (a := 173) hwv (by decide) (by omega) fh142 Kf_h87
                  have kF_h142 : mkQ h142 := mkT (my_ag.up fh142 is_173 rfl) kF_h87
                  have Tok_h142 : Tok h142 := Tok_ag (my_ag.up fh142 is_173 rfl) Tok_h87t102
                  have f73 := fh142
                  refine w_aload_n gz_185_228 rfl ?_
                  refine v_getI (j := 8) gz_185_229 rfl is_151 rd_10 rfl (fun v143 ev143 pv143 qv143 => ?_)
                  have zv143 := ev143.trans ((my_up_role fh142 is_151 is_173 rfl).trans ev136.symm)
                  refine w_ifne (t := 269) gz_185_232 rfl (fun u144 => by exfalso; omega) (fun u144 => ?_)
                  refine w_iload_n gz_185_235 rfl ?_
                  refine w_ifne (t := 252) gz_185_236 rfl (fun u145 => by exfalso; omega) (fun u145 => ?_)
                  refine w_iload_n gz_185_239 rfl ?_
                  refine w_ifne (t := 252) gz_185_240 rfl (fun u146 => by exfalso; omega) (fun u146 => ?_)
                  refine w_iload_n gz_185_243 rfl ?_
                  refine w_ifne (t := 252) gz_185_244 rfl (fun u147 => by exfalso; omega) (fun u147 => ?_)
                  refine w_iload gz_185_247 rfl ?_
                  refine w_ifeq (t := 269) gz_185_249 rfl (fun u148 => ?_) (fun u148 => by exfalso; omega)
                  refine w_aload_n gz_185_269 rfl ?_
                  refine w_bipush gz_185_270 (by decide) ?_
                  have ce149 : h142 151 7 = (h87 151 7) := ((my_up_role fh142 is_151 is_173 rfl).trans (rfl : h87 151 7 = h87 151 7))
                  refine w_inv (k := 0) (as := [(0, 59)]) (r := []) (x := 151) (ls0 := [(2, 151), (0, 59)]) gz_185_272 gm_183 rfl is_151 rd_10 rfl rfl rfl rfl rfl (c_Model_takeSign9_f0 (d := (d + 2))  (ev143.symm.trans (by omega)) Tok_h142 (fun h150 frh150 w151 w152 xp153 xp154 xp155 Tok_h150t156 => ?_) (fun h157 frh157 w158 w159 w160 xp161 xp162 xp163 Tok_h157t164 => ?_))
                  ·
                    have gh150 : my_fr [(10, 7), (10, 8), (10, 27), (66, -1), (67, -1), (68, -1), (69, -1), (70, -1), (71, -1), (72, -1), (73, -1), (74, -1), (75, -1), (77, -1), (78, -1), (79, -1)] h h150 := my_fr.tr gh142 (frh150.mo rfl)
                    have Mq_h150 : Mq h150 wv := Mq_ag (my_ag.fr frh150 rfl) Mq_h142
                    have Wrd_h150 : Wrd h150 := Wrd_ag (my_ag.fr frh150 rfl) Wrd_h142
                    have Wd9_h150 : Wd9 h150 := Wd9_ag (my_ag.fr frh150 rfl) Wd9_h142
                    have Ko_h150 : Ko h h150 := Ko_ag (my_ag.fr frh150 rfl) Ko_h142
                    have AgM_h150 : my_ag MzF h h150 := AgM_ag (my_ag.fr frh150 rfl) AgM_h142
                    have Kf_h150 : Kf h h150 := Kf_ag (my_ag.fr frh150 rfl) Kf_h142
                    have kF_h150 : mkQ h150 := mkT (my_ag.fr frh150 rfl) kF_h142
                    show wp l rho (d + 4) 185 275 [(2, 151), (0, p88_0), (0, p88_1), (0, p88_2), (0, p88_3), (0, (36 + v10)), (0, v28), (0, v88)] [] h150 Q
                    have ps165 : h142 151 7 = (sN (sm h) (((sN (sm h) (((sN (sm h) (h 151 7)))))))) := ((my_up_role fh142 is_151 is_173 rfl).trans xp99)
                    rw [ps165] at xp153
                    have tE166 : sm h142 = sm h := sm_eq (fun j => my_fr.at gh142 is_153 rfl) (fun j => my_fr.at gh142 is_154 rfl) (fun j => my_fr.at gh142 is_155 rfl)
                    rw [tE166] at xp154
                    rw [ps165] at xp154
                    rw [tE166] at xp155
                    rw [ps165] at xp155
                    have psR : h150 151 7 = h150 151 7 := (rfl : h150 151 7 = h150 151 7)
                    have npsR : sm h150 = sm h := sm_eq (fun j => my_fr.at gh150 is_153 rfl) (fun j => my_fr.at gh150 is_154 rfl) (fun j => my_fr.at gh150 is_155 rfl)
                    have ce167 : h150 151 8 = (h150 151 8) := (rfl : h150 151 8 = h150 151 8)
                    have ce168 : h150 151 27 = k151_27 := ((my_fr.at frh150 is_151 rfl).trans ((my_up_role fh142 is_151 is_173 rfl).trans ((my_fr.at frh87 is_151 rfl).trans ((my_fr.at frh27 is_151 rfl).trans ((my_up_fld fh6 (by decide)).trans c151_27_88_0)))))
                    have r167 : ∀ j : Int, h150 167 j = h88_0 167 j := fun j => ((my_fr.at frh150 is_167 rfl).trans ((my_up_role fh142 is_167 is_173 rfl).trans ((my_fr.at frh87 is_167 rfl).trans ((my_fr.at frh27 is_167 rfl).trans ((my_up_role fh6 is_167 is_151 rfl).trans (rfl : h88_0 167 j = h88_0 167 j))))))
                    have r6 := r167 6
                    have r173 : ∀ j : Int, h150 173 j = h142 173 j := fun j => ((my_fr.at frh150 is_173 rfl).trans (rfl : h142 173 j = h142 173 j))
                    have zR9 : ∃ y c s : Int, paneR (sm h) (h 157) (h 157 (h 151 33)) (h 151 7) (h 151 27) (h 167 6) (h150 151 8) y c s := ⟨0, _, _, Or.inl ⟨by omega, fillM_R zF (by first | exact Or.inl ⟨by omega, by omega⟩ | exact Or.inr ⟨by omega, Or.inl ⟨by omega, by omega⟩⟩ | exact Or.inr ⟨by omega, Or.inr ⟨by omega, by omega, by omega⟩⟩), rfl, rfl⟩⟩
                    have c169 := (rfl : h150 151 8 = h150 151 8)
                    exact w_vret gz_185_275 gm_185 (k0 h150 (gh150) (by omega) (by omega) (by first | exact Kf_h150 | exact Ko_h150 | exact zR9 | exact zQ9 | omega) (by first | exact Kf_h150 | exact Ko_h150 | exact zR9 | exact zQ9 | omega) (by first | exact Kf_h150 | exact Ko_h150 | exact zR9 | exact zQ9 | omega) (by first | exact Kf_h150 | exact Ko_h150 | exact zR9 | exact zQ9 | omega) Tok_h150t156 Mq_h150 Wrd_h150 Wd9_h150)
                  ·
                    have gh157 : my_fr [(10, 7), (10, 8), (10, 27), (66, -1), (67, -1), (68, -1), (69, -1), (70, -1), (71, -1), (72, -1), (73, -1), (74, -1), (75, -1), (77, -1), (78, -1), (79, -1)] h h157 := my_fr.tr gh142 (frh157.mo rfl)
                    have Mq_h157 : Mq h157 wv := Mq_ag (my_ag.fr frh157 rfl) Mq_h142
                    have Wrd_h157 : Wrd h157 := Wrd_ag (my_ag.fr frh157 rfl) Wrd_h142
                    have Wd9_h157 : Wd9 h157 := Wd9_ag (my_ag.fr frh157 rfl) Wd9_h142
                    have Ko_h157 : Ko h h157 := Ko_ag (my_ag.fr frh157 rfl) Ko_h142
                    have AgM_h157 : my_ag MzF h h157 := AgM_ag (my_ag.fr frh157 rfl) AgM_h142
                    have Kf_h157 : Kf h h157 := Kf_ag (my_ag.fr frh157 rfl) Kf_h142
                    have kF_h157 : mkQ h157 := mkT (my_ag.fr frh157 rfl) kF_h142
                    show wp l rho (d + 4) 185 275 [(2, 151), (0, p88_0), (0, p88_1), (0, p88_2), (0, p88_3), (0, (36 + v10)), (0, v28), (0, v88)] [] h157 Q
                    have ps170 : h142 151 7 = (sN (sm h) (((sN (sm h) (((sN (sm h) (h 151 7)))))))) := ((my_up_role fh142 is_151 is_173 rfl).trans xp99)
                    rw [ps170] at xp161
                    have tE171 : sm h142 = sm h := sm_eq (fun j => my_fr.at gh142 is_153 rfl) (fun j => my_fr.at gh142 is_154 rfl) (fun j => my_fr.at gh142 is_155 rfl)
                    rw [tE171] at xp162
                    rw [ps170] at xp162
                    rw [tE171] at xp163
                    rw [ps170] at xp163
                    have psR : h157 151 7 = (sN (sm h) (((sN (sm h) (((sN (sm h) (((sN (sm h) (h 151 7))))))))))) := xp162
                    have npsR : sm h157 = sm h := sm_eq (fun j => my_fr.at gh157 is_153 rfl) (fun j => my_fr.at gh157 is_154 rfl) (fun j => my_fr.at gh157 is_155 rfl)
                    have ce172 : h157 151 7 = (h157 151 7) := (rfl : h157 151 7 = h157 151 7)
                    have ce173 : h157 151 8 = 0 := w160
                    have ce174 : h157 151 27 = k151_27 := ((my_fr.at frh157 is_151 rfl).trans ((my_up_role fh142 is_151 is_173 rfl).trans ((my_fr.at frh87 is_151 rfl).trans ((my_fr.at frh27 is_151 rfl).trans ((my_up_fld fh6 (by decide)).trans c151_27_88_0)))))
                    have r167 : ∀ j : Int, h157 167 j = h88_0 167 j := fun j => ((my_fr.at frh157 is_167 rfl).trans ((my_up_role fh142 is_167 is_173 rfl).trans ((my_fr.at frh87 is_167 rfl).trans ((my_fr.at frh27 is_167 rfl).trans ((my_up_role fh6 is_167 is_151 rfl).trans (rfl : h88_0 167 j = h88_0 167 j))))))
                    have r6 := r167 6
                    have r173 : ∀ j : Int, h157 173 j = h142 173 j := fun j => ((my_fr.at frh157 is_173 rfl).trans (rfl : h142 173 j = h142 173 j))
                    have zR9 : paneR (sm h) (h 157) (h 157 (h 151 33)) (h 151 7) (h 151 27) (h 167 6) (h157 151 8) (h157 151 7) (h157 151 27) (h157 167 6) := Or.inl ⟨by omega, fillM_R zF (by first | exact Or.inl ⟨by omega, by omega⟩ | exact Or.inr ⟨by omega, Or.inl ⟨by omega, by omega⟩⟩ | exact Or.inr ⟨by omega, Or.inr ⟨by omega, by omega, by omega⟩⟩), by omega, by omega⟩
                    have zQ9 : PmQ h h157 := PmQ_f (by omega) AgM_h157 (by omega) r173 f73 ff9 (by omega) (by omega)
                    have c175 := (rfl : h157 151 7 = h157 151 7)
                    have c176 := w160
                    exact w_vret gz_185_275 gm_185 (k1 h157 (gh157) (by omega) (by omega) (by omega) (by first | exact Kf_h157 | exact Ko_h157 | exact zR9 | exact zQ9 | omega) (by first | exact Kf_h157 | exact Ko_h157 | exact zR9 | exact zQ9 | omega) (by first | exact Kf_h157 | exact Ko_h157 | exact zR9 | exact zQ9 | omega) (by first | exact Kf_h157 | exact Ko_h157 | exact zR9 | exact zQ9 | omega) (by first | exact Kf_h157 | exact Ko_h157 | exact zR9 | exact zQ9 | omega) Tok_h157t164 Mq_h157 Wrd_h157 Wd9_h157)
            ·
              refine w_aload_n gz_185_162 rfl ?_
              refine w_iload gz_185_163 rfl ?_
              have ce177 : h6 151 7 = (v3 + 1) := (my_up_self fh6)
              have ce178 : h6 151 27 = k151_27 := ((my_up_fld fh6 (by decide)).trans c151_27_88_0)
              have am9 := AgM_h6
              have kS_h6t179 : mkQ h6 := mkO
              have hi180 : 36 ≤ (36 + v10) := by omega
              have hi181 : (36 + v10) ≤ 41 := by omega
              refine w_inv (k := 0) (as := [(0, (36 + v10))]) (r := []) (x := 151) (ls0 := [(2, 151), (0, (36 + v10))]) gz_185_165 gm_190 rfl is_151 rd_10 rfl rfl rfl rfl rfl (c_Model_readSum7_f0 (d := d) (x1 := (36 + v10)) (wv := wv) (by omega) (by omega) (((my_up_fld fh6 (by decide)).trans ev1.symm).trans (by omega)) (by first | assumption | omega) (by first | assumption | omega) Tok_h6t8 Mq_h6 Wd9_h6 (by first | assumption | exact no_such_saying | exact Fp_told (by omega) (by omega) | omega | (subst_vars; omega) | omega) (fun h182 frh182 w183 w184 xp185 xp186 xp187 Tok_h182t188 Mq_h182t189 Wd9_h182t190 => ?_) (fun h191 frh191 w192 w193 w194 xp195 xp196 xp197 xp198 xp199 xp200 xp201 Tok_h191t202 Mq_h191t203 Wd9_h191t204 => ?_))
              ·
                have gh182 : my_fr [(10, 7), (10, 8), (10, 27), (66, -1), (67, -1), (68, -1), (69, -1), (70, -1), (71, -1), (72, -1), (73, -1), (74, -1), (75, -1), (77, -1), (78, -1), (79, -1)] h h182 := my_fr.tr gh6 (frh182.mo rfl)
                have Wrd_h182 : Wrd h182 := Wrd_ag (my_ag.fr frh182 rfl) Wrd_h6
                have Wd9_h182 : Wd9 h182 := Wd9_ag (my_ag.fr frh182 rfl) Wd9_h6
                have Ff_h182 : Ff h h182 := Ff_ag (my_ag.fr frh182 rfl) Ff_h6
                have Kf_h182 : Kf h h182 := Kf_ag (my_ag.fr frh182 rfl) Kf_h6
                have kS_h182 : mkQ h182 := mkT (my_ag.fr frh182 rfl) kS_h6t179
                show wp l rho (d + 4) 185 168 [(2, 151), (0, p88_0), (0, p88_1), (0, p88_2), (0, p88_3), (0, (36 + v10)), (9, 0), (9, 0)] [] h182 Q
                have ps205 : h6 151 7 = (sN (sm h) (h 151 7)) := ps7
                rw [ps205] at xp185
                have tE206 : sm h6 = sm h := sm_eq (fun j => my_fr.at gh6 is_153 rfl) (fun j => my_fr.at gh6 is_154 rfl) (fun j => my_fr.at gh6 is_155 rfl)
                rw [tE206] at xp186
                rw [ps205] at xp186
                have q27 : h6 151 27 = h 151 27 := by omega
                have q57 : h6 157 = h 157 := funext (fun j => my_fr.at gh6 is_157 rfl)
                have zS := xp186
                simp only [q27, q57] at zS
                have Ko_h182t207 : Ko h h182 := Ko_tr Ko_h6 xp187
                refine w_goto (t := 228) gz_185_168 rfl ?_
                refine w_aload_n gz_185_228 rfl ?_
                refine v_getI (j := 8) gz_185_229 rfl is_151 rd_10 rfl (fun v208 ev208 pv208 qv208 => ?_)
                have zv208 := ev208.trans (rfl : h182 151 8 = h182 151 8)
                refine w_ifne (t := 269) gz_185_232 rfl (fun u209 => ?_) (fun u209 => by exfalso; omega)
                refine w_aload_n gz_185_269 rfl ?_
                refine w_bipush gz_185_270 (by decide) ?_
                refine w_inv (k := 0) (as := [(0, 59)]) (r := []) (x := 151) (ls0 := [(2, 151), (0, 59)]) gz_185_272 gm_183 rfl is_151 rd_10 rfl rfl rfl rfl rfl (c_Model_takeSign9_f1 (d := (d + 2))  (v208) (ev208.symm) (by omega) (by omega) Tok_h182t188 (fun w210 w211 xp212 xp213 Tok_h182t214 => ?_))
                show wp l rho (d + 4) 185 275 [(2, 151), (0, p88_0), (0, p88_1), (0, p88_2), (0, p88_3), (0, (36 + v10)), (9, 0), (9, 0)] [] h182 Q
                have psR : h182 151 7 = h182 151 7 := (rfl : h182 151 7 = h182 151 7)
                have npsR : sm h182 = sm h := sm_eq (fun j => my_fr.at gh182 is_153 rfl) (fun j => my_fr.at gh182 is_154 rfl) (fun j => my_fr.at gh182 is_155 rfl)
                have ce215 : h182 151 8 = v208 := ev208.symm
                have ce216 : h182 151 27 = k151_27 := ((my_fr.at frh182 is_151 rfl).trans ((my_up_fld fh6 (by decide)).trans c151_27_88_0))
                have r167 : ∀ j : Int, h182 167 j = h88_0 167 j := fun j => ((my_fr.at frh182 is_167 rfl).trans ((my_up_role fh6 is_167 is_151 rfl).trans (rfl : h88_0 167 j = h88_0 167 j)))
                have r6 := r167 6
                have r173 : ∀ j : Int, h182 173 j = h88_0 173 j := fun j => ((my_fr.at frh182 is_173 rfl).trans ((my_up_role fh6 is_173 is_151 rfl).trans (rfl : h88_0 173 j = h88_0 173 j)))
                have s171 : ∀ j : Int, h182 171 j = h182 171 j := fun _ => rfl
                have zR9 : ∃ y c s : Int, paneR (sm h) (h 157) (h 157 (h 151 33)) (h 151 7) (h 151 27) (h 167 6) (h182 151 8) y c s := ⟨0, _, _, Or.inr (Or.inr (Or.inr (Or.inr (Or.inr (Or.inl ⟨by omega, by omega, sumM_R zS (by first | exact Or.inl ⟨by omega, by omega⟩ | exact Or.inr ⟨by omega, Or.inl ⟨by omega, by omega⟩⟩ | exact Or.inr ⟨by omega, Or.inr ⟨by omega, by omega, by omega⟩⟩), rfl, rfl⟩)))))⟩
                have c217 := ev208.symm
                exact w_vret gz_185_275 gm_185 (k0 h182 (gh182) (by omega) (by omega) (by first | exact Kf_h182 | exact Ko_h182t207 | exact zR9 | exact zQ9 | omega) (by first | exact Kf_h182 | exact Ko_h182t207 | exact zR9 | exact zQ9 | omega) (by first | exact Kf_h182 | exact Ko_h182t207 | exact zR9 | exact zQ9 | omega) (by first | exact Kf_h182 | exact Ko_h182t207 | exact zR9 | exact zQ9 | omega) Tok_h182t214 Mq_h182t189 Wrd_h182 Wd9_h182t190)
              ·
                have gh191 : my_fr [(10, 7), (10, 8), (10, 27), (66, -1), (67, -1), (68, -1), (69, -1), (70, -1), (71, -1), (72, -1), (73, -1), (74, -1), (75, -1), (77, -1), (78, -1), (79, -1)] h h191 := my_fr.tr gh6 (frh191.mo rfl)
                have Wrd_h191 : Wrd h191 := Wrd_ag (my_ag.fr frh191 rfl) Wrd_h6
                have Wd9_h191 : Wd9 h191 := Wd9_ag (my_ag.fr frh191 rfl) Wd9_h6
                have Ff_h191 : Ff h h191 := Ff_ag (my_ag.fr frh191 rfl) Ff_h6
                have Kf_h191 : Kf h h191 := Kf_ag (my_ag.fr frh191 rfl) Kf_h6
                have kS_h191 : mkQ h191 := mkT (my_ag.fr frh191 rfl) kS_h6t179
                show wp l rho (d + 4) 185 168 [(2, 151), (0, p88_0), (0, p88_1), (0, p88_2), (0, p88_3), (0, (36 + v10)), (9, 0), (9, 0)] [] h191 Q
                have ps218 : h6 151 7 = (sN (sm h) (h 151 7)) := ps7
                rw [ps218] at xp197
                have tE219 : sm h6 = sm h := sm_eq (fun j => my_fr.at gh6 is_153 rfl) (fun j => my_fr.at gh6 is_154 rfl) (fun j => my_fr.at gh6 is_155 rfl)
                rw [tE219] at xp198
                rw [ps218] at xp198
                rw [tE219] at xp201
                rw [ps218] at xp201
                have q27 : h6 151 27 = h 151 27 := by omega
                have q57 : h6 157 = h 157 := funext (fun j => my_fr.at gh6 is_157 rfl)
                have zS := xp198
                simp only [q27, q57] at zS
                have pk := xp195
                have pk3 := xp196
                have kd := xp199
                have Ko_h191t220 : Ko h h191 := Ko_tr Ko_h6 xp200
                have PmJ_h191t221 : PmJ h h191 := PmJ_s (by omega) (by omega) am9 xp201
                refine w_goto (t := 228) gz_185_168 rfl ?_
                refine w_aload_n gz_185_228 rfl ?_
                refine v_getI (j := 8) gz_185_229 rfl is_151 rd_10 rfl (fun v222 ev222 pv222 qv222 => ?_)
                have zv222 := ev222.trans w194
                refine w_ifne (t := 269) gz_185_232 rfl (fun u223 => by exfalso; omega) (fun u223 => ?_)
                refine w_iload_n gz_185_235 rfl ?_
                refine w_ifne (t := 252) gz_185_236 rfl (fun u224 => by exfalso; omega) (fun u224 => ?_)
                refine w_iload_n gz_185_239 rfl ?_
                refine w_ifne (t := 252) gz_185_240 rfl (fun u225 => by exfalso; omega) (fun u225 => ?_)
                refine w_iload_n gz_185_243 rfl ?_
                refine w_ifne (t := 252) gz_185_244 rfl (fun u226 => by exfalso; omega) (fun u226 => ?_)
                refine w_iload gz_185_247 rfl ?_
                refine w_ifeq (t := 269) gz_185_249 rfl (fun u227 => by exfalso; omega) (fun u227 => ?_)
                refine w_aload_n gz_185_252 rfl ?_
                refine w_iload gz_185_253 rfl ?_
                have d167 : ∀ j : Int, h191 167 j = h88_0 167 j := fun j => ((my_fr.at frh191 is_167 rfl).trans ((my_up_role fh6 is_167 is_151 rfl).trans (rfl : h88_0 167 j = h88_0 167 j)))
                have d6 := d167 6
                have mr0 := Mq_h191t203
                have ce228 : h191 151 27 = k151_27 := ((my_fr.at frh191 is_151 rfl).trans ((my_up_fld fh6 (by decide)).trans c151_27_88_0))
                refine w_inv (k := 1) (as := [(0, (36 + v10))]) (r := []) (x := 151) (ls0 := [(2, 151), (0, (36 + v10)), (9, 0)]) gz_185_255 gm_182 rfl is_151 rd_10 rfl rfl rfl rfl rfl (c_Model_pane2_f0 (d := (d + 3)) (x1 := (36 + v10)) (by omega) (by omega) (ev222.symm.trans (by omega)) (pk.1) (fun h229 frh229 w230 xp231 xp232 => ?_))
                have gh229 : my_fr [(10, 7), (10, 8), (10, 27), (66, -1), (67, -1), (68, -1), (69, -1), (70, -1), (71, -1), (72, -1), (73, -1), (74, -1), (75, -1), (77, -1), (78, -1), (79, -1)] h h229 := my_fr.tr gh191 (frh229.mo rfl)
                have Wrd_h229 : Wrd h229 := Wrd_ag (my_ag.fr frh229 rfl) Wrd_h191
                have Wd9_h229 : Wd9 h229 := Wd9_ag (my_ag.fr frh229 rfl) Wd9_h191t204
                have Ff_h229 : Ff h h229 := Ff_ag (my_ag.fr frh229 rfl) Ff_h191
                have Kf_h229 : Kf h h229 := Kf_ag (my_ag.fr frh229 rfl) Kf_h191
                have kS_h229 : mkQ h229 := mkT (my_ag.fr frh229 rfl) kS_h191
                have Tok_h229 : Tok h229 := Tok_ag (my_ag.fr frh229 rfl) Tok_h191t202
                have Ko_h229 : Ko h h229 := Ko_ag (my_ag.fr frh229 rfl) Ko_h191t220
                have PmJ_h229 : PmJ h h229 := PmJ_ag (my_ag.fr frh229 rfl) PmJ_h191t221
                show wp l rho (d + 4) 185 258 [(2, 151), (0, p88_0), (0, p88_1), (0, p88_2), (0, p88_3), (0, (36 + v10)), (9, 0), (9, 0)] [] h229 Q
                have ag0 : my_ag M3F h191 h229 := my_ag.fr frh229 rfl
                have e27 := xp231
                have e67 : h229 167 6 = h191 167 6 := ag0.at mis_167 rfl
                have mc := ms_c e27
                try (have m3 := mc.2.2.1 kd; rw [← m3] at zW)
                try (have q58 : h191 157 = h 157 := funext (fun j => my_fr.at gh191 is_157 rfl); have j4 := mc.2.1 kd.1; rw [kd.2, q58] at j4)
                refine w_aload_n gz_185_258 rfl ?_
                refine w_getX (v := 167) gz_185_259 is_151 rd_10 rfl (by decide) rfl ?_
                refine w_bipush gz_185_262 (by decide) ?_
                refine w_dup2 gz_185_264 rfl rfl ?_
                refine w_iald gz_185_265 is_167 rd_66 (by omega) (by omega) (fun v234 ev234 pv234 qv234 => ?_)
                have zv234 := ev234.trans ((my_fr.at frh229 is_167 rfl).trans ((my_fr.at frh191 is_167 rfl).trans ev10.symm))
                refine w_iconst gz_185_266 (by decide) ?_
                refine w_iadd gz_185_267 ⟨by omega, by omega⟩ ?_
                have hi235 : 0 ≤ (v234 + 1) := by omega
                have hi236 : (v234 + 1) ≤ 6 := by omega
                refine w_iast gz_185_268 is_167 rd_66 (by omega) (by omega) (by omega) (by omega) (fun h237 fh237 => ?_)
                have gh237 : my_fr [(10, 7), (10, 8), (10, 27), (66, -1), (67, -1), (68, -1), (69, -1), (70, -1), (71, -1), (72, -1), (73, -1), (74, -1), (75, -1), (77, -1), (78, -1), (79, -1)] h h237 := my_fr.up gh229 is_167 fh237 rfl
                have Wrd_h237 : Wrd h237 := Wrd_ag (my_ag.up fh237 is_167 rfl) Wrd_h229
                have Wd9_h237 : Wd9 h237 := Wd9_ag (my_ag.up fh237 is_167 rfl) Wd9_h229
                have Ff_h237 : Ff h h237 := Ff_ag (my_ag.up fh237 is_167 rfl) Ff_h229
                have Kf_h237 : Kf h h237 := Kf_ag (my_ag.up fh237 is_167 rfl) Kf_h229
                have kS_h237 : mkQ h237 := mkT (my_ag.up fh237 is_167 rfl) kS_h229
                have Tok_h237 : Tok h237 := Tok_ag (my_ag.up fh237 is_167 rfl) Tok_h229
                have Ko_h237 : Ko h h237 := Ko_7 (a := 167) hwv (by decide) (by omega) fh237 Ko_h229
                have PmJ_h237 : PmJ h h237 := PmJ_ag (my_ag.up fh237 is_167 rfl) PmJ_h229
                have Mq_h237t238 : Mq h237 wv := Mq_add mr0 (by omega) pk pk3 ag0 e27 fh237 (by omega) (by omega)
                have k6 := my_up_self fh237
                refine w_aload_n gz_185_269 rfl ?_
                refine w_bipush gz_185_270 (by decide) ?_
                have ce239 : h237 151 7 = (h191 151 7) := ((my_up_role fh237 is_151 is_167 rfl).trans ((my_fr.at frh229 is_151 rfl).trans (rfl : h191 151 7 = h191 151 7)))
                refine w_inv (k := 0) (as := [(0, 59)]) (r := []) (x := 151) (ls0 := [(2, 151), (0, 59)]) gz_185_272 gm_183 rfl is_151 rd_10 rfl rfl rfl rfl rfl (c_Model_takeSign9_f0 (d := (d + 2))  (((my_up_role fh237 is_151 is_167 rfl).trans ((my_fr.at frh229 is_151 rfl).trans ev222.symm)).trans (by omega)) Tok_h237 (fun h240 frh240 w241 w242 xp243 xp244 xp245 Tok_h240t246 => ?_) (fun h247 frh247 w248 w249 w250 xp251 xp252 xp253 Tok_h247t254 => ?_))
                ·
                  have gh240 : my_fr [(10, 7), (10, 8), (10, 27), (66, -1), (67, -1), (68, -1), (69, -1), (70, -1), (71, -1), (72, -1), (73, -1), (74, -1), (75, -1), (77, -1), (78, -1), (79, -1)] h h240 := my_fr.tr gh237 (frh240.mo rfl)
                  have Wrd_h240 : Wrd h240 := Wrd_ag (my_ag.fr frh240 rfl) Wrd_h237
                  have Wd9_h240 : Wd9 h240 := Wd9_ag (my_ag.fr frh240 rfl) Wd9_h237
                  have Ff_h240 : Ff h h240 := Ff_ag (my_ag.fr frh240 rfl) Ff_h237
                  have Kf_h240 : Kf h h240 := Kf_ag (my_ag.fr frh240 rfl) Kf_h237
                  have kS_h240 : mkQ h240 := mkT (my_ag.fr frh240 rfl) kS_h237
                  have Ko_h240 : Ko h h240 := Ko_ag (my_ag.fr frh240 rfl) Ko_h237
                  have PmJ_h240 : PmJ h h240 := PmJ_ag (my_ag.fr frh240 rfl) PmJ_h237
                  have Mq_h240 : Mq h240 wv := Mq_ag (my_ag.fr frh240 rfl) Mq_h237t238
                  show wp l rho (d + 4) 185 275 [(2, 151), (0, p88_0), (0, p88_1), (0, p88_2), (0, p88_3), (0, (36 + v10)), (9, 0), (9, 0)] [] h240 Q
                  have ps255 : h237 151 7 = h191 151 7 := ((my_up_role fh237 is_151 is_167 rfl).trans ((my_fr.at frh229 is_151 rfl).trans (rfl : h191 151 7 = h191 151 7)))
                  rw [ps255] at xp243
                  have tE256 : sm h237 = sm h := sm_eq (fun j => my_fr.at gh237 is_153 rfl) (fun j => my_fr.at gh237 is_154 rfl) (fun j => my_fr.at gh237 is_155 rfl)
                  rw [tE256] at xp244
                  rw [ps255] at xp244
                  rw [tE256] at xp245
                  rw [ps255] at xp245
                  have psR : h240 151 7 = h240 151 7 := (rfl : h240 151 7 = h240 151 7)
                  have npsR : sm h240 = sm h := sm_eq (fun j => my_fr.at gh240 is_153 rfl) (fun j => my_fr.at gh240 is_154 rfl) (fun j => my_fr.at gh240 is_155 rfl)
                  have ce257 : h240 151 8 = (h240 151 8) := (rfl : h240 151 8 = h240 151 8)
                  have ce258 : h240 151 27 = h229 151 27 := ((my_fr.at frh240 is_151 rfl).trans ((my_up_role fh237 is_151 is_167 rfl).trans (rfl : h229 151 27 = h229 151 27)))
                  have r167 : ∀ j : Int, h240 167 j = h237 167 j := fun j => ((my_fr.at frh240 is_167 rfl).trans (rfl : h237 167 j = h237 167 j))
                  have r6 := r167 6
                  have cw9 : h240 151 27 = h229 151 27 := by omega
                  have r173 : ∀ j : Int, h240 173 j = h88_0 173 j := fun j => ((my_fr.at frh240 is_173 rfl).trans ((my_up_role fh237 is_173 is_167 rfl).trans ((my_fr.at frh229 is_173 rfl).trans ((my_fr.at frh191 is_173 rfl).trans ((my_up_role fh6 is_173 is_151 rfl).trans (rfl : h88_0 173 j = h88_0 173 j))))))
                  have s171 : ∀ j : Int, h240 171 j = h191 171 j := fun j => ((my_fr.at frh240 is_171 rfl).trans ((my_up_role fh237 is_171 is_167 rfl).trans ((my_fr.at frh229 is_171 rfl).trans (rfl : h191 171 j = h191 171 j))))
                  have zR9 : ∃ y c s : Int, paneR (sm h) (h 157) (h 157 (h 151 33)) (h 151 7) (h 151 27) (h 167 6) (h240 151 8) y c s := ⟨0, _, _, Or.inr (Or.inr (Or.inr (Or.inr (Or.inr (Or.inl ⟨by omega, by omega, sumM_R zS (by first | exact Or.inl ⟨by omega, by omega⟩ | exact Or.inr ⟨by omega, Or.inl ⟨by omega, by omega⟩⟩ | exact Or.inr ⟨by omega, Or.inr ⟨by omega, by omega, by omega⟩⟩), rfl, rfl⟩)))))⟩
                  have c259 := (rfl : h240 151 8 = h240 151 8)
                  exact w_vret gz_185_275 gm_185 (k0 h240 (gh240) (by omega) (by omega) (by first | exact Kf_h240 | exact Ko_h240 | exact zR9 | exact zQ9 | omega) (by first | exact Kf_h240 | exact Ko_h240 | exact zR9 | exact zQ9 | omega) (by first | exact Kf_h240 | exact Ko_h240 | exact zR9 | exact zQ9 | omega) (by first | exact Kf_h240 | exact Ko_h240 | exact zR9 | exact zQ9 | omega) Tok_h240t246 Mq_h240 Wrd_h240 Wd9_h240)
                ·
                  have gh247 : my_fr [(10, 7), (10, 8), (10, 27), (66, -1), (67, -1), (68, -1), (69, -1), (70, -1), (71, -1), (72, -1), (73, -1), (74, -1), (75, -1), (77, -1), (78, -1), (79, -1)] h h247 := my_fr.tr gh237 (frh247.mo rfl)
                  have Wrd_h247 : Wrd h247 := Wrd_ag (my_ag.fr frh247 rfl) Wrd_h237
                  have Wd9_h247 : Wd9 h247 := Wd9_ag (my_ag.fr frh247 rfl) Wd9_h237
                  have Ff_h247 : Ff h h247 := Ff_ag (my_ag.fr frh247 rfl) Ff_h237
                  have Kf_h247 : Kf h h247 := Kf_ag (my_ag.fr frh247 rfl) Kf_h237
                  have kS_h247 : mkQ h247 := mkT (my_ag.fr frh247 rfl) kS_h237
                  have Ko_h247 : Ko h h247 := Ko_ag (my_ag.fr frh247 rfl) Ko_h237
                  have PmJ_h247 : PmJ h h247 := PmJ_ag (my_ag.fr frh247 rfl) PmJ_h237
                  have Mq_h247 : Mq h247 wv := Mq_ag (my_ag.fr frh247 rfl) Mq_h237t238
                  show wp l rho (d + 4) 185 275 [(2, 151), (0, p88_0), (0, p88_1), (0, p88_2), (0, p88_3), (0, (36 + v10)), (9, 0), (9, 0)] [] h247 Q
                  have ps260 : h237 151 7 = h191 151 7 := ((my_up_role fh237 is_151 is_167 rfl).trans ((my_fr.at frh229 is_151 rfl).trans (rfl : h191 151 7 = h191 151 7)))
                  rw [ps260] at xp251
                  have tE261 : sm h237 = sm h := sm_eq (fun j => my_fr.at gh237 is_153 rfl) (fun j => my_fr.at gh237 is_154 rfl) (fun j => my_fr.at gh237 is_155 rfl)
                  rw [tE261] at xp252
                  rw [ps260] at xp252
                  rw [tE261] at xp253
                  rw [ps260] at xp253
                  have psR : h247 151 7 = (sN (sm h) ((h191 151 7))) := xp252
                  have npsR : sm h247 = sm h := sm_eq (fun j => my_fr.at gh247 is_153 rfl) (fun j => my_fr.at gh247 is_154 rfl) (fun j => my_fr.at gh247 is_155 rfl)
                  have ce262 : h247 151 7 = (h247 151 7) := (rfl : h247 151 7 = h247 151 7)
                  have ce263 : h247 151 8 = 0 := w250
                  have ce264 : h247 151 27 = h229 151 27 := ((my_fr.at frh247 is_151 rfl).trans ((my_up_role fh237 is_151 is_167 rfl).trans (rfl : h229 151 27 = h229 151 27)))
                  have r167 : ∀ j : Int, h247 167 j = h237 167 j := fun j => ((my_fr.at frh247 is_167 rfl).trans (rfl : h237 167 j = h237 167 j))
                  have r6 := r167 6
                  have cw9 : h247 151 27 = h229 151 27 := by omega
                  have r173 : ∀ j : Int, h247 173 j = h88_0 173 j := fun j => ((my_fr.at frh247 is_173 rfl).trans ((my_up_role fh237 is_173 is_167 rfl).trans ((my_fr.at frh229 is_173 rfl).trans ((my_fr.at frh191 is_173 rfl).trans ((my_up_role fh6 is_173 is_151 rfl).trans (rfl : h88_0 173 j = h88_0 173 j))))))
                  have s171 : ∀ j : Int, h247 171 j = h191 171 j := fun j => ((my_fr.at frh247 is_171 rfl).trans ((my_up_role fh237 is_171 is_167 rfl).trans ((my_fr.at frh229 is_171 rfl).trans (rfl : h191 171 j = h191 171 j))))
                  have zR9 : paneR (sm h) (h 157) (h 157 (h 151 33)) (h 151 7) (h 151 27) (h 167 6) (h247 151 8) (h247 151 7) (h247 151 27) (h247 167 6) := Or.inr (Or.inr (Or.inr (Or.inr (Or.inr (Or.inl ⟨by omega, by omega, sumM_R zS (by first | exact Or.inl ⟨by omega, by omega⟩ | exact Or.inr ⟨by omega, Or.inl ⟨by omega, by omega⟩⟩ | exact Or.inr ⟨by omega, Or.inr ⟨by omega, by omega, by omega⟩⟩), by first | omega | exact cw9, by omega⟩)))))
                  have zQ9 : PmQ h h247 := PmQ_p (by omega) PmJ_h247 (by omega) Ff_h247 (fun q => absurd q (by omega))
                  have c265 := (rfl : h247 151 7 = h247 151 7)
                  have c266 := w250
                  exact w_vret gz_185_275 gm_185 (k1 h247 (gh247) (by omega) (by omega) (by omega) (by first | exact Kf_h247 | exact Ko_h247 | exact zR9 | exact zQ9 | omega) (by first | exact Kf_h247 | exact Ko_h247 | exact zR9 | exact zQ9 | omega) (by first | exact Kf_h247 | exact Ko_h247 | exact zR9 | exact zQ9 | omega) (by first | exact Kf_h247 | exact Ko_h247 | exact zR9 | exact zQ9 | omega) (by first | exact Kf_h247 | exact Ko_h247 | exact zR9 | exact zQ9 | omega) Tok_h247t254 Mq_h247 Wrd_h247 Wd9_h247)
          ·
            refine w_aload_n gz_185_148 rfl ?_
            refine w_iload gz_185_149 rfl ?_
            have ce267 : h6 151 7 = (v3 + 1) := (my_up_self fh6)
            have ce268 : h6 151 27 = k151_27 := ((my_up_fld fh6 (by decide)).trans c151_27_88_0)
            have am9 := AgM_h6
            have kJ_h6t269 : mkQ h6 := mkO
            have hi270 : 36 ≤ (36 + v10) := by omega
            have hi271 : (36 + v10) ≤ 41 := by omega
            refine w_inv (k := 1) (as := [(0, (36 + v10))]) (r := []) (x := 151) (ls0 := [(2, 151), (0, (36 + v10)), (9, 0)]) gz_185_151 gm_189 rfl is_151 rd_10 rfl rfl rfl rfl rfl (c_Model_readJoin7_f0 (d := d) (x1 := (36 + v10)) (wv := wv) (by omega) (by omega) (((my_up_fld fh6 (by decide)).trans ev1.symm).trans (by omega)) (by first | assumption | omega) (by first | assumption | omega) Tok_h6t8 Mq_h6 Wd9_h6 (by first | assumption | exact no_such_saying | exact Fp_told (by omega) (by omega) | omega | (subst_vars; omega) | omega) (fun h272 frh272 w273 w274 xp275 xp276 xp277 Tok_h272t278 Mq_h272t279 Wd9_h272t280 => ?_) (fun h281 frh281 w282 w283 w284 xp285 xp286 xp287 xp288 xp289 xp290 xp291 Tok_h281t292 Mq_h281t293 Wd9_h281t294 => ?_))
            ·
              have gh272 : my_fr [(10, 7), (10, 8), (10, 27), (66, -1), (67, -1), (68, -1), (69, -1), (70, -1), (71, -1), (72, -1), (73, -1), (74, -1), (75, -1), (77, -1), (78, -1), (79, -1)] h h272 := my_fr.tr gh6 (frh272.mo rfl)
              have Wrd_h272 : Wrd h272 := Wrd_ag (my_ag.fr frh272 rfl) Wrd_h6
              have Wd9_h272 : Wd9 h272 := Wd9_ag (my_ag.fr frh272 rfl) Wd9_h6
              have Ff_h272 : Ff h h272 := Ff_ag (my_ag.fr frh272 rfl) Ff_h6
              have Kf_h272 : Kf h h272 := Kf_ag (my_ag.fr frh272 rfl) Kf_h6
              have kJ_h272 : mkQ h272 := mkT (my_ag.fr frh272 rfl) kJ_h6t269
              show wp l rho (d + 4) 185 154 [(2, 151), (0, p88_0), (0, p88_1), (0, p88_2), (0, p88_3), (0, (36 + v10)), (9, 0), (9, 0)] [] h272 Q
              have ps295 : h6 151 7 = (sN (sm h) (h 151 7)) := ps7
              rw [ps295] at xp275
              have tE296 : sm h6 = sm h := sm_eq (fun j => my_fr.at gh6 is_153 rfl) (fun j => my_fr.at gh6 is_154 rfl) (fun j => my_fr.at gh6 is_155 rfl)
              rw [tE296] at xp276
              rw [ps295] at xp276
              have q27 : h6 151 27 = h 151 27 := by omega
              have q57 : h6 157 = h 157 := funext (fun j => my_fr.at gh6 is_157 rfl)
              have zJ := xp276
              simp only [q27, q57] at zJ
              have Ko_h272t297 : Ko h h272 := Ko_tr Ko_h6 xp277
              refine w_goto (t := 228) gz_185_154 rfl ?_
              refine w_aload_n gz_185_228 rfl ?_
              refine v_getI (j := 8) gz_185_229 rfl is_151 rd_10 rfl (fun v298 ev298 pv298 qv298 => ?_)
              have zv298 := ev298.trans (rfl : h272 151 8 = h272 151 8)
              refine w_ifne (t := 269) gz_185_232 rfl (fun u299 => ?_) (fun u299 => by exfalso; omega)
              refine w_aload_n gz_185_269 rfl ?_
              refine w_bipush gz_185_270 (by decide) ?_
              refine w_inv (k := 0) (as := [(0, 59)]) (r := []) (x := 151) (ls0 := [(2, 151), (0, 59)]) gz_185_272 gm_183 rfl is_151 rd_10 rfl rfl rfl rfl rfl (c_Model_takeSign9_f1 (d := (d + 2))  (v298) (ev298.symm) (by omega) (by omega) Tok_h272t278 (fun w300 w301 xp302 xp303 Tok_h272t304 => ?_))
              show wp l rho (d + 4) 185 275 [(2, 151), (0, p88_0), (0, p88_1), (0, p88_2), (0, p88_3), (0, (36 + v10)), (9, 0), (9, 0)] [] h272 Q
              have psR : h272 151 7 = h272 151 7 := (rfl : h272 151 7 = h272 151 7)
              have npsR : sm h272 = sm h := sm_eq (fun j => my_fr.at gh272 is_153 rfl) (fun j => my_fr.at gh272 is_154 rfl) (fun j => my_fr.at gh272 is_155 rfl)
              have ce305 : h272 151 8 = v298 := ev298.symm
              have ce306 : h272 151 27 = k151_27 := ((my_fr.at frh272 is_151 rfl).trans ((my_up_fld fh6 (by decide)).trans c151_27_88_0))
              have r167 : ∀ j : Int, h272 167 j = h88_0 167 j := fun j => ((my_fr.at frh272 is_167 rfl).trans ((my_up_role fh6 is_167 is_151 rfl).trans (rfl : h88_0 167 j = h88_0 167 j)))
              have r6 := r167 6
              have r173 : ∀ j : Int, h272 173 j = h88_0 173 j := fun j => ((my_fr.at frh272 is_173 rfl).trans ((my_up_role fh6 is_173 is_151 rfl).trans (rfl : h88_0 173 j = h88_0 173 j)))
              have s171 : ∀ j : Int, h272 171 j = h272 171 j := fun _ => rfl
              have zR9 : ∃ y c s : Int, paneR (sm h) (h 157) (h 157 (h 151 33)) (h 151 7) (h 151 27) (h 167 6) (h272 151 8) y c s := ⟨0, 0, _, Or.inr (Or.inr (Or.inr (Or.inr (Or.inl ⟨by omega, by omega, joinM_R zJ (by first | exact Or.inl ⟨by omega, by omega⟩ | exact Or.inr ⟨by omega, Or.inl ⟨by omega, by omega⟩⟩ | exact Or.inr ⟨by omega, Or.inr ⟨by omega, by omega, by omega⟩⟩), fun q => absurd q (by omega), rfl⟩))))⟩
              have c307 := ev298.symm
              exact w_vret gz_185_275 gm_185 (k0 h272 (gh272) (by omega) (by omega) (by first | exact Kf_h272 | exact Ko_h272t297 | exact zR9 | exact zQ9 | omega) (by first | exact Kf_h272 | exact Ko_h272t297 | exact zR9 | exact zQ9 | omega) (by first | exact Kf_h272 | exact Ko_h272t297 | exact zR9 | exact zQ9 | omega) (by first | exact Kf_h272 | exact Ko_h272t297 | exact zR9 | exact zQ9 | omega) Tok_h272t304 Mq_h272t279 Wrd_h272 Wd9_h272t280)
            ·
              have gh281 : my_fr [(10, 7), (10, 8), (10, 27), (66, -1), (67, -1), (68, -1), (69, -1), (70, -1), (71, -1), (72, -1), (73, -1), (74, -1), (75, -1), (77, -1), (78, -1), (79, -1)] h h281 := my_fr.tr gh6 (frh281.mo rfl)
              have Wrd_h281 : Wrd h281 := Wrd_ag (my_ag.fr frh281 rfl) Wrd_h6
              have Wd9_h281 : Wd9 h281 := Wd9_ag (my_ag.fr frh281 rfl) Wd9_h6
              have Ff_h281 : Ff h h281 := Ff_ag (my_ag.fr frh281 rfl) Ff_h6
              have Kf_h281 : Kf h h281 := Kf_ag (my_ag.fr frh281 rfl) Kf_h6
              have kJ_h281 : mkQ h281 := mkT (my_ag.fr frh281 rfl) kJ_h6t269
              show wp l rho (d + 4) 185 154 [(2, 151), (0, p88_0), (0, p88_1), (0, p88_2), (0, p88_3), (0, (36 + v10)), (9, 0), (9, 0)] [] h281 Q
              have ps308 : h6 151 7 = (sN (sm h) (h 151 7)) := ps7
              rw [ps308] at xp287
              have tE309 : sm h6 = sm h := sm_eq (fun j => my_fr.at gh6 is_153 rfl) (fun j => my_fr.at gh6 is_154 rfl) (fun j => my_fr.at gh6 is_155 rfl)
              rw [tE309] at xp288
              rw [ps308] at xp288
              rw [tE309] at xp289
              rw [ps308] at xp289
              rw [tE309] at xp291
              rw [ps308] at xp291
              have q27 : h6 151 27 = h 151 27 := by omega
              have q57 : h6 157 = h 157 := funext (fun j => my_fr.at gh6 is_157 rfl)
              have zJ := xp288
              simp only [q27, q57] at zJ
              have pk := xp285
              have pk3 := xp286
              have kd := xp289
              have Ko_h281t310 : Ko h h281 := Ko_tr Ko_h6 xp290
              have PmJ_h281t311 : PmJ h h281 := PmJ_j (by omega) (by omega) am9 q57 xp291
              refine w_goto (t := 228) gz_185_154 rfl ?_
              refine w_aload_n gz_185_228 rfl ?_
              refine v_getI (j := 8) gz_185_229 rfl is_151 rd_10 rfl (fun v312 ev312 pv312 qv312 => ?_)
              have zv312 := ev312.trans w284
              refine w_ifne (t := 269) gz_185_232 rfl (fun u313 => by exfalso; omega) (fun u313 => ?_)
              refine w_iload_n gz_185_235 rfl ?_
              refine w_ifne (t := 252) gz_185_236 rfl (fun u314 => by exfalso; omega) (fun u314 => ?_)
              refine w_iload_n gz_185_239 rfl ?_
              refine w_ifne (t := 252) gz_185_240 rfl (fun u315 => by exfalso; omega) (fun u315 => ?_)
              refine w_iload_n gz_185_243 rfl ?_
              refine w_ifne (t := 252) gz_185_244 rfl (fun u316 => ?_) (fun u316 => by exfalso; omega)
              refine w_aload_n gz_185_252 rfl ?_
              refine w_iload gz_185_253 rfl ?_
              have d167 : ∀ j : Int, h281 167 j = h88_0 167 j := fun j => ((my_fr.at frh281 is_167 rfl).trans ((my_up_role fh6 is_167 is_151 rfl).trans (rfl : h88_0 167 j = h88_0 167 j)))
              have d6 := d167 6
              have mr0 := Mq_h281t293
              have ce317 : h281 151 27 = k151_27 := ((my_fr.at frh281 is_151 rfl).trans ((my_up_fld fh6 (by decide)).trans c151_27_88_0))
              refine w_inv (k := 1) (as := [(0, (36 + v10))]) (r := []) (x := 151) (ls0 := [(2, 151), (0, (36 + v10)), (9, 0)]) gz_185_255 gm_182 rfl is_151 rd_10 rfl rfl rfl rfl rfl (c_Model_pane2_f0 (d := (d + 3)) (x1 := (36 + v10)) (by omega) (by omega) (ev312.symm.trans (by omega)) (pk.1) (fun h318 frh318 w319 xp320 xp321 => ?_))
              have gh318 : my_fr [(10, 7), (10, 8), (10, 27), (66, -1), (67, -1), (68, -1), (69, -1), (70, -1), (71, -1), (72, -1), (73, -1), (74, -1), (75, -1), (77, -1), (78, -1), (79, -1)] h h318 := my_fr.tr gh281 (frh318.mo rfl)
              have Wrd_h318 : Wrd h318 := Wrd_ag (my_ag.fr frh318 rfl) Wrd_h281
              have Wd9_h318 : Wd9 h318 := Wd9_ag (my_ag.fr frh318 rfl) Wd9_h281t294
              have Ff_h318 : Ff h h318 := Ff_ag (my_ag.fr frh318 rfl) Ff_h281
              have Kf_h318 : Kf h h318 := Kf_ag (my_ag.fr frh318 rfl) Kf_h281
              have kJ_h318 : mkQ h318 := mkT (my_ag.fr frh318 rfl) kJ_h281
              have Tok_h318 : Tok h318 := Tok_ag (my_ag.fr frh318 rfl) Tok_h281t292
              have Ko_h318 : Ko h h318 := Ko_ag (my_ag.fr frh318 rfl) Ko_h281t310
              have PmJ_h318 : PmJ h h318 := PmJ_ag (my_ag.fr frh318 rfl) PmJ_h281t311
              show wp l rho (d + 4) 185 258 [(2, 151), (0, p88_0), (0, p88_1), (0, p88_2), (0, p88_3), (0, (36 + v10)), (9, 0), (9, 0)] [] h318 Q
              have ag0 : my_ag M3F h281 h318 := my_ag.fr frh318 rfl
              have e27 := xp320
              have e67 : h318 167 6 = h281 167 6 := ag0.at mis_167 rfl
              have mc := ms_c e27
              try (have m3 := mc.2.2.1 kd; rw [← m3] at zW)
              try (have q58 : h281 157 = h 157 := funext (fun j => my_fr.at gh281 is_157 rfl); have j4 := mc.2.1 kd.1; rw [kd.2, q58] at j4)
              refine w_aload_n gz_185_258 rfl ?_
              refine w_getX (v := 167) gz_185_259 is_151 rd_10 rfl (by decide) rfl ?_
              refine w_bipush gz_185_262 (by decide) ?_
              refine w_dup2 gz_185_264 rfl rfl ?_
              refine w_iald gz_185_265 is_167 rd_66 (by omega) (by omega) (fun v323 ev323 pv323 qv323 => ?_)
              have zv323 := ev323.trans ((my_fr.at frh318 is_167 rfl).trans ((my_fr.at frh281 is_167 rfl).trans ev10.symm))
              refine w_iconst gz_185_266 (by decide) ?_
              refine w_iadd gz_185_267 ⟨by omega, by omega⟩ ?_
              have hi324 : 0 ≤ (v323 + 1) := by omega
              have hi325 : (v323 + 1) ≤ 6 := by omega
              refine w_iast gz_185_268 is_167 rd_66 (by omega) (by omega) (by omega) (by omega) (fun h326 fh326 => ?_)
              have gh326 : my_fr [(10, 7), (10, 8), (10, 27), (66, -1), (67, -1), (68, -1), (69, -1), (70, -1), (71, -1), (72, -1), (73, -1), (74, -1), (75, -1), (77, -1), (78, -1), (79, -1)] h h326 := my_fr.up gh318 is_167 fh326 rfl
              have Wrd_h326 : Wrd h326 := Wrd_ag (my_ag.up fh326 is_167 rfl) Wrd_h318
              have Wd9_h326 : Wd9 h326 := Wd9_ag (my_ag.up fh326 is_167 rfl) Wd9_h318
              have Ff_h326 : Ff h h326 := Ff_ag (my_ag.up fh326 is_167 rfl) Ff_h318
              have Kf_h326 : Kf h h326 := Kf_ag (my_ag.up fh326 is_167 rfl) Kf_h318
              have kJ_h326 : mkQ h326 := mkT (my_ag.up fh326 is_167 rfl) kJ_h318
              have Tok_h326 : Tok h326 := Tok_ag (my_ag.up fh326 is_167 rfl) Tok_h318
              have Ko_h326 : Ko h h326 := Ko_7 (a := 167) hwv (by decide) (by omega) fh326 Ko_h318
              have PmJ_h326 : PmJ h h326 := PmJ_ag (my_ag.up fh326 is_167 rfl) PmJ_h318
              have Mq_h326t327 : Mq h326 wv := Mq_add mr0 (by omega) pk pk3 ag0 e27 fh326 (by omega) (by omega)
              have k6 := my_up_self fh326
              refine w_aload_n gz_185_269 rfl ?_
              refine w_bipush gz_185_270 (by decide) ?_
              have ce328 : h326 151 7 = (h281 151 7) := ((my_up_role fh326 is_151 is_167 rfl).trans ((my_fr.at frh318 is_151 rfl).trans (rfl : h281 151 7 = h281 151 7)))
              refine w_inv (k := 0) (as := [(0, 59)]) (r := []) (x := 151) (ls0 := [(2, 151), (0, 59)]) gz_185_272 gm_183 rfl is_151 rd_10 rfl rfl rfl rfl rfl (c_Model_takeSign9_f0 (d := (d + 2))  (((my_up_role fh326 is_151 is_167 rfl).trans ((my_fr.at frh318 is_151 rfl).trans ev312.symm)).trans (by omega)) Tok_h326 (fun h329 frh329 w330 w331 xp332 xp333 xp334 Tok_h329t335 => ?_) (fun h336 frh336 w337 w338 w339 xp340 xp341 xp342 Tok_h336t343 => ?_))
              ·
                have gh329 : my_fr [(10, 7), (10, 8), (10, 27), (66, -1), (67, -1), (68, -1), (69, -1), (70, -1), (71, -1), (72, -1), (73, -1), (74, -1), (75, -1), (77, -1), (78, -1), (79, -1)] h h329 := my_fr.tr gh326 (frh329.mo rfl)
                have Wrd_h329 : Wrd h329 := Wrd_ag (my_ag.fr frh329 rfl) Wrd_h326
                have Wd9_h329 : Wd9 h329 := Wd9_ag (my_ag.fr frh329 rfl) Wd9_h326
                have Ff_h329 : Ff h h329 := Ff_ag (my_ag.fr frh329 rfl) Ff_h326
                have Kf_h329 : Kf h h329 := Kf_ag (my_ag.fr frh329 rfl) Kf_h326
                have kJ_h329 : mkQ h329 := mkT (my_ag.fr frh329 rfl) kJ_h326
                have Ko_h329 : Ko h h329 := Ko_ag (my_ag.fr frh329 rfl) Ko_h326
                have PmJ_h329 : PmJ h h329 := PmJ_ag (my_ag.fr frh329 rfl) PmJ_h326
                have Mq_h329 : Mq h329 wv := Mq_ag (my_ag.fr frh329 rfl) Mq_h326t327
                show wp l rho (d + 4) 185 275 [(2, 151), (0, p88_0), (0, p88_1), (0, p88_2), (0, p88_3), (0, (36 + v10)), (9, 0), (9, 0)] [] h329 Q
                have ps344 : h326 151 7 = h281 151 7 := ((my_up_role fh326 is_151 is_167 rfl).trans ((my_fr.at frh318 is_151 rfl).trans (rfl : h281 151 7 = h281 151 7)))
                rw [ps344] at xp332
                have tE345 : sm h326 = sm h := sm_eq (fun j => my_fr.at gh326 is_153 rfl) (fun j => my_fr.at gh326 is_154 rfl) (fun j => my_fr.at gh326 is_155 rfl)
                rw [tE345] at xp333
                rw [ps344] at xp333
                rw [tE345] at xp334
                rw [ps344] at xp334
                have psR : h329 151 7 = h329 151 7 := (rfl : h329 151 7 = h329 151 7)
                have npsR : sm h329 = sm h := sm_eq (fun j => my_fr.at gh329 is_153 rfl) (fun j => my_fr.at gh329 is_154 rfl) (fun j => my_fr.at gh329 is_155 rfl)
                have ce346 : h329 151 8 = (h329 151 8) := (rfl : h329 151 8 = h329 151 8)
                have ce347 : h329 151 27 = h318 151 27 := ((my_fr.at frh329 is_151 rfl).trans ((my_up_role fh326 is_151 is_167 rfl).trans (rfl : h318 151 27 = h318 151 27)))
                have r167 : ∀ j : Int, h329 167 j = h326 167 j := fun j => ((my_fr.at frh329 is_167 rfl).trans (rfl : h326 167 j = h326 167 j))
                have r6 := r167 6
                have cw9 : h329 151 27 = h318 151 27 := by omega
                have r173 : ∀ j : Int, h329 173 j = h88_0 173 j := fun j => ((my_fr.at frh329 is_173 rfl).trans ((my_up_role fh326 is_173 is_167 rfl).trans ((my_fr.at frh318 is_173 rfl).trans ((my_fr.at frh281 is_173 rfl).trans ((my_up_role fh6 is_173 is_151 rfl).trans (rfl : h88_0 173 j = h88_0 173 j))))))
                have s171 : ∀ j : Int, h329 171 j = h281 171 j := fun j => ((my_fr.at frh329 is_171 rfl).trans ((my_up_role fh326 is_171 is_167 rfl).trans ((my_fr.at frh318 is_171 rfl).trans (rfl : h281 171 j = h281 171 j))))
                have zR9 : ∃ y c s : Int, paneR (sm h) (h 157) (h 157 (h 151 33)) (h 151 7) (h 151 27) (h 167 6) (h329 151 8) y c s := ⟨0, 0, _, Or.inr (Or.inr (Or.inr (Or.inr (Or.inl ⟨by omega, by omega, joinM_R zJ (by first | exact Or.inl ⟨by omega, by omega⟩ | exact Or.inr ⟨by omega, Or.inl ⟨by omega, by omega⟩⟩ | exact Or.inr ⟨by omega, Or.inr ⟨by omega, by omega, by omega⟩⟩), fun q => absurd q (by omega), rfl⟩))))⟩
                have c348 := (rfl : h329 151 8 = h329 151 8)
                exact w_vret gz_185_275 gm_185 (k0 h329 (gh329) (by omega) (by omega) (by first | exact Kf_h329 | exact Ko_h329 | exact zR9 | exact zQ9 | omega) (by first | exact Kf_h329 | exact Ko_h329 | exact zR9 | exact zQ9 | omega) (by first | exact Kf_h329 | exact Ko_h329 | exact zR9 | exact zQ9 | omega) (by first | exact Kf_h329 | exact Ko_h329 | exact zR9 | exact zQ9 | omega) Tok_h329t335 Mq_h329 Wrd_h329 Wd9_h329)
              ·
                have gh336 : my_fr [(10, 7), (10, 8), (10, 27), (66, -1), (67, -1), (68, -1), (69, -1), (70, -1), (71, -1), (72, -1), (73, -1), (74, -1), (75, -1), (77, -1), (78, -1), (79, -1)] h h336 := my_fr.tr gh326 (frh336.mo rfl)
                have Wrd_h336 : Wrd h336 := Wrd_ag (my_ag.fr frh336 rfl) Wrd_h326
                have Wd9_h336 : Wd9 h336 := Wd9_ag (my_ag.fr frh336 rfl) Wd9_h326
                have Ff_h336 : Ff h h336 := Ff_ag (my_ag.fr frh336 rfl) Ff_h326
                have Kf_h336 : Kf h h336 := Kf_ag (my_ag.fr frh336 rfl) Kf_h326
                have kJ_h336 : mkQ h336 := mkT (my_ag.fr frh336 rfl) kJ_h326
                have Ko_h336 : Ko h h336 := Ko_ag (my_ag.fr frh336 rfl) Ko_h326
                have PmJ_h336 : PmJ h h336 := PmJ_ag (my_ag.fr frh336 rfl) PmJ_h326
                have Mq_h336 : Mq h336 wv := Mq_ag (my_ag.fr frh336 rfl) Mq_h326t327
                show wp l rho (d + 4) 185 275 [(2, 151), (0, p88_0), (0, p88_1), (0, p88_2), (0, p88_3), (0, (36 + v10)), (9, 0), (9, 0)] [] h336 Q
                have ps349 : h326 151 7 = h281 151 7 := ((my_up_role fh326 is_151 is_167 rfl).trans ((my_fr.at frh318 is_151 rfl).trans (rfl : h281 151 7 = h281 151 7)))
                rw [ps349] at xp340
                have tE350 : sm h326 = sm h := sm_eq (fun j => my_fr.at gh326 is_153 rfl) (fun j => my_fr.at gh326 is_154 rfl) (fun j => my_fr.at gh326 is_155 rfl)
                rw [tE350] at xp341
                rw [ps349] at xp341
                rw [tE350] at xp342
                rw [ps349] at xp342
                have psR : h336 151 7 = (sN (sm h) ((h281 151 7))) := xp341
                have npsR : sm h336 = sm h := sm_eq (fun j => my_fr.at gh336 is_153 rfl) (fun j => my_fr.at gh336 is_154 rfl) (fun j => my_fr.at gh336 is_155 rfl)
                have ce351 : h336 151 7 = (h336 151 7) := (rfl : h336 151 7 = h336 151 7)
                have ce352 : h336 151 8 = 0 := w339
                have ce353 : h336 151 27 = h318 151 27 := ((my_fr.at frh336 is_151 rfl).trans ((my_up_role fh326 is_151 is_167 rfl).trans (rfl : h318 151 27 = h318 151 27)))
                have r167 : ∀ j : Int, h336 167 j = h326 167 j := fun j => ((my_fr.at frh336 is_167 rfl).trans (rfl : h326 167 j = h326 167 j))
                have r6 := r167 6
                have cw9 : h336 151 27 = h318 151 27 := by omega
                have r173 : ∀ j : Int, h336 173 j = h88_0 173 j := fun j => ((my_fr.at frh336 is_173 rfl).trans ((my_up_role fh326 is_173 is_167 rfl).trans ((my_fr.at frh318 is_173 rfl).trans ((my_fr.at frh281 is_173 rfl).trans ((my_up_role fh6 is_173 is_151 rfl).trans (rfl : h88_0 173 j = h88_0 173 j))))))
                have s171 : ∀ j : Int, h336 171 j = h281 171 j := fun j => ((my_fr.at frh336 is_171 rfl).trans ((my_up_role fh326 is_171 is_167 rfl).trans ((my_fr.at frh318 is_171 rfl).trans (rfl : h281 171 j = h281 171 j))))
                have zR9 : paneR (sm h) (h 157) (h 157 (h 151 33)) (h 151 7) (h 151 27) (h 167 6) (h336 151 8) (h336 151 7) (h336 151 27) (h336 167 6) := Or.inr (Or.inr (Or.inr (Or.inr (Or.inl ⟨by omega, by omega, joinM_R zJ (by first | exact Or.inl ⟨by omega, by omega⟩ | exact Or.inr ⟨by omega, Or.inl ⟨by omega, by omega⟩⟩ | exact Or.inr ⟨by omega, Or.inr ⟨by omega, by omega, by omega⟩⟩), fun _ => by omega, by omega⟩))))
                have zQ9 : PmQ h h336 := PmQ_p (by omega) PmJ_h336 (by omega) Ff_h336 (fun q => absurd q (by omega))
                have c354 := (rfl : h336 151 7 = h336 151 7)
                have c355 := w339
                exact w_vret gz_185_275 gm_185 (k1 h336 (gh336) (by omega) (by omega) (by omega) (by first | exact Kf_h336 | exact Ko_h336 | exact zR9 | exact zQ9 | omega) (by first | exact Kf_h336 | exact Ko_h336 | exact zR9 | exact zQ9 | omega) (by first | exact Kf_h336 | exact Ko_h336 | exact zR9 | exact zQ9 | omega) (by first | exact Kf_h336 | exact Ko_h336 | exact zR9 | exact zQ9 | omega) (by first | exact Kf_h336 | exact Ko_h336 | exact zR9 | exact zQ9 | omega) Tok_h336t343 Mq_h336 Wrd_h336 Wd9_h336)
        ·
          refine w_aload_n gz_185_135 rfl ?_
          refine w_iload gz_185_136 rfl ?_
          have ce356 : h6 151 7 = (v3 + 1) := (my_up_self fh6)
          have ce357 : h6 151 27 = k151_27 := ((my_up_fld fh6 (by decide)).trans c151_27_88_0)
          have am9 := AgM_h6
          have kW_h6t358 : mkQ h6 := mkO
          have hi359 : 36 ≤ (36 + v10) := by omega
          have hi360 : (36 + v10) ≤ 41 := by omega
          refine w_inv (k := 3) (as := [(0, (36 + v10))]) (r := []) (x := 151) (ls0 := [(2, 151), (0, (36 + v10)), (9, 0), (9, 0), (9, 0)]) gz_185_138 gm_188 rfl is_151 rd_10 rfl rfl rfl rfl rfl (c_Model_readFew7_f0 (d := (d + 1)) (x1 := (36 + v10)) (wv := wv) (by omega) (by omega) (((my_up_fld fh6 (by decide)).trans ev1.symm).trans (by omega)) (by first | assumption | omega) (by first | assumption | omega) Tok_h6t8 Mq_h6 Wd9_h6 (by first | assumption | exact no_such_saying | exact Fp_told (by omega) (by omega) | omega | (subst_vars; omega) | omega) (fun h361 frh361 xp362 xp363 xp364 xp365 xp366 xp367 xp368 Tok_h361t369 Mq_h361t370 Wd9_h361t371 => ?_))
          have gh361 : my_fr [(10, 7), (10, 8), (10, 27), (66, -1), (67, -1), (68, -1), (69, -1), (70, -1), (71, -1), (72, -1), (73, -1), (74, -1), (75, -1), (77, -1), (78, -1), (79, -1)] h h361 := my_fr.tr gh6 (frh361.mo rfl)
          have Wrd_h361 : Wrd h361 := Wrd_ag (my_ag.fr frh361 rfl) Wrd_h6
          have Wd9_h361 : Wd9 h361 := Wd9_ag (my_ag.fr frh361 rfl) Wd9_h6
          have Ff_h361 : Ff h h361 := Ff_ag (my_ag.fr frh361 rfl) Ff_h6
          have Kf_h361 : Kf h h361 := Kf_ag (my_ag.fr frh361 rfl) Kf_h6
          have kW_h361 : mkQ h361 := mkT (my_ag.fr frh361 rfl) kW_h6t358
          show wp l rho (d + 4) 185 141 [(2, 151), (0, p88_0), (0, p88_1), (0, p88_2), (0, p88_3), (0, (36 + v10)), (9, 0), (9, 0)] [] h361 Q
          have ps372 : h6 151 7 = (sN (sm h) (h 151 7)) := ps7
          rw [ps372] at xp364
          have tE373 : sm h6 = sm h := sm_eq (fun j => my_fr.at gh6 is_153 rfl) (fun j => my_fr.at gh6 is_154 rfl) (fun j => my_fr.at gh6 is_155 rfl)
          rw [tE373] at xp365
          rw [ps372] at xp365
          rw [tE373] at xp368
          rw [ps372] at xp368
          have q27 : h6 151 27 = h 151 27 := by omega
          have q57 : h6 157 = h 157 := funext (fun j => my_fr.at gh6 is_157 rfl)
          have zW := xp365
          simp only [q27, q57] at zW
          have pk := xp362
          have pk3 := xp363
          have kd := xp366
          have Ko_h361t374 : Ko h h361 := Ko_tr Ko_h6 xp367
          have fw9 := xp368
          refine w_goto (t := 228) gz_185_141 rfl ?_
          refine w_aload_n gz_185_228 rfl ?_
          refine v_getI (j := 8) gz_185_229 rfl is_151 rd_10 rfl (fun v375 ev375 pv375 qv375 => ?_)
          refine w_ifne (t := 269) gz_185_232 rfl (fun u376 => ?_) (fun u376 => ?_)
          ·
            refine w_aload_n gz_185_269 rfl ?_
            refine w_bipush gz_185_270 (by decide) ?_
            refine w_inv (k := 0) (as := [(0, 59)]) (r := []) (x := 151) (ls0 := [(2, 151), (0, 59)]) gz_185_272 gm_183 rfl is_151 rd_10 rfl rfl rfl rfl rfl (c_Model_takeSign9_f1 (d := (d + 2))  (v375) (ev375.symm) (by omega) (by omega) Tok_h361t369 (fun w377 w378 xp379 xp380 Tok_h361t381 => ?_))
            show wp l rho (d + 4) 185 275 [(2, 151), (0, p88_0), (0, p88_1), (0, p88_2), (0, p88_3), (0, (36 + v10)), (9, 0), (9, 0)] [] h361 Q
            have psR : h361 151 7 = h361 151 7 := (rfl : h361 151 7 = h361 151 7)
            have npsR : sm h361 = sm h := sm_eq (fun j => my_fr.at gh361 is_153 rfl) (fun j => my_fr.at gh361 is_154 rfl) (fun j => my_fr.at gh361 is_155 rfl)
            have ce382 : h361 151 8 = v375 := ev375.symm
            have ce383 : h361 151 27 = k151_27 := ((my_fr.at frh361 is_151 rfl).trans ((my_up_fld fh6 (by decide)).trans c151_27_88_0))
            have r167 : ∀ j : Int, h361 167 j = h88_0 167 j := fun j => ((my_fr.at frh361 is_167 rfl).trans ((my_up_role fh6 is_167 is_151 rfl).trans (rfl : h88_0 167 j = h88_0 167 j)))
            have r6 := r167 6
            have r173 : ∀ j : Int, h361 173 j = h88_0 173 j := fun j => ((my_fr.at frh361 is_173 rfl).trans ((my_up_role fh6 is_173 is_151 rfl).trans (rfl : h88_0 173 j = h88_0 173 j)))
            have s171 : ∀ j : Int, h361 171 j = h361 171 j := fun _ => rfl
            have zR9 : ∃ y c s : Int, paneR (sm h) (h 157) (h 157 (h 151 33)) (h 151 7) (h 151 27) (h 167 6) (h361 151 8) y c s := ⟨0, _, _, Or.inr (Or.inr (Or.inr (Or.inl ⟨by omega, by omega, fmE_R zW (by first | exact Or.inl ⟨by omega, by omega⟩ | exact Or.inr ⟨by omega, Or.inl ⟨by omega, by omega⟩⟩ | exact Or.inr ⟨by omega, Or.inr ⟨by omega, by omega, by omega⟩⟩), rfl⟩)))⟩
            have c384 := ev375.symm
            exact w_vret gz_185_275 gm_185 (k0 h361 (gh361) (by omega) (by omega) (by first | exact Kf_h361 | exact Ko_h361t374 | exact zR9 | exact zQ9 | omega) (by first | exact Kf_h361 | exact Ko_h361t374 | exact zR9 | exact zQ9 | omega) (by first | exact Kf_h361 | exact Ko_h361t374 | exact zR9 | exact zQ9 | omega) (by first | exact Kf_h361 | exact Ko_h361t374 | exact zR9 | exact zQ9 | omega) Tok_h361t381 Mq_h361t370 Wrd_h361 Wd9_h361t371)
          ·
            refine w_iload_n gz_185_235 rfl ?_
            refine w_ifne (t := 252) gz_185_236 rfl (fun u385 => by exfalso; omega) (fun u385 => ?_)
            refine w_iload_n gz_185_239 rfl ?_
            refine w_ifne (t := 252) gz_185_240 rfl (fun u386 => ?_) (fun u386 => by exfalso; omega)
            refine w_aload_n gz_185_252 rfl ?_
            refine w_iload gz_185_253 rfl ?_
            have d167 : ∀ j : Int, h361 167 j = h88_0 167 j := fun j => ((my_fr.at frh361 is_167 rfl).trans ((my_up_role fh6 is_167 is_151 rfl).trans (rfl : h88_0 167 j = h88_0 167 j)))
            have d6 := d167 6
            have mr0 := Mq_h361t370
            have ce387 : h361 151 27 = k151_27 := ((my_fr.at frh361 is_151 rfl).trans ((my_up_fld fh6 (by decide)).trans c151_27_88_0))
            have PmJ_h361t388 : PmJ h h361 := PmJ_f (by omega) (by omega) am9 (fw9 (by omega))
            refine w_inv (k := 1) (as := [(0, (36 + v10))]) (r := []) (x := 151) (ls0 := [(2, 151), (0, (36 + v10)), (9, 0)]) gz_185_255 gm_182 rfl is_151 rd_10 rfl rfl rfl rfl rfl (c_Model_pane2_f0 (d := (d + 3)) (x1 := (36 + v10)) (by omega) (by omega) (ev375.symm.trans (by omega)) (pk.1) (fun h389 frh389 w390 xp391 xp392 => ?_))
            have gh389 : my_fr [(10, 7), (10, 8), (10, 27), (66, -1), (67, -1), (68, -1), (69, -1), (70, -1), (71, -1), (72, -1), (73, -1), (74, -1), (75, -1), (77, -1), (78, -1), (79, -1)] h h389 := my_fr.tr gh361 (frh389.mo rfl)
            have Wrd_h389 : Wrd h389 := Wrd_ag (my_ag.fr frh389 rfl) Wrd_h361
            have Wd9_h389 : Wd9 h389 := Wd9_ag (my_ag.fr frh389 rfl) Wd9_h361t371
            have Ff_h389 : Ff h h389 := Ff_ag (my_ag.fr frh389 rfl) Ff_h361
            have Kf_h389 : Kf h h389 := Kf_ag (my_ag.fr frh389 rfl) Kf_h361
            have kW_h389 : mkQ h389 := mkT (my_ag.fr frh389 rfl) kW_h361
            have Tok_h389 : Tok h389 := Tok_ag (my_ag.fr frh389 rfl) Tok_h361t369
            have Ko_h389 : Ko h h389 := Ko_ag (my_ag.fr frh389 rfl) Ko_h361t374
            have PmJ_h389 : PmJ h h389 := PmJ_ag (my_ag.fr frh389 rfl) PmJ_h361t388
            show wp l rho (d + 4) 185 258 [(2, 151), (0, p88_0), (0, p88_1), (0, p88_2), (0, p88_3), (0, (36 + v10)), (9, 0), (9, 0)] [] h389 Q
            have ag0 : my_ag M3F h361 h389 := my_ag.fr frh389 rfl
            have e27 := xp391
            have e67 : h389 167 6 = h361 167 6 := ag0.at mis_167 rfl
            have mc := ms_c e27
            try (have m3 := mc.2.2.1 kd; rw [← m3] at zW)
            try (have q58 : h361 157 = h 157 := funext (fun j => my_fr.at gh361 is_157 rfl); have j4 := mc.2.1 kd.1; rw [kd.2, q58] at j4)
            refine w_aload_n gz_185_258 rfl ?_
            refine w_getX (v := 167) gz_185_259 is_151 rd_10 rfl (by decide) rfl ?_
            refine w_bipush gz_185_262 (by decide) ?_
            refine w_dup2 gz_185_264 rfl rfl ?_
            refine w_iald gz_185_265 is_167 rd_66 (by omega) (by omega) (fun v394 ev394 pv394 qv394 => ?_)
            have zv394 := ev394.trans ((my_fr.at frh389 is_167 rfl).trans ((my_fr.at frh361 is_167 rfl).trans ev10.symm))
            refine w_iconst gz_185_266 (by decide) ?_
            refine w_iadd gz_185_267 ⟨by omega, by omega⟩ ?_
            have hi395 : 0 ≤ (v394 + 1) := by omega
            have hi396 : (v394 + 1) ≤ 6 := by omega
            refine w_iast gz_185_268 is_167 rd_66 (by omega) (by omega) (by omega) (by omega) (fun h397 fh397 => ?_)
            have gh397 : my_fr [(10, 7), (10, 8), (10, 27), (66, -1), (67, -1), (68, -1), (69, -1), (70, -1), (71, -1), (72, -1), (73, -1), (74, -1), (75, -1), (77, -1), (78, -1), (79, -1)] h h397 := my_fr.up gh389 is_167 fh397 rfl
            have Wrd_h397 : Wrd h397 := Wrd_ag (my_ag.up fh397 is_167 rfl) Wrd_h389
            have Wd9_h397 : Wd9 h397 := Wd9_ag (my_ag.up fh397 is_167 rfl) Wd9_h389
            have Ff_h397 : Ff h h397 := Ff_ag (my_ag.up fh397 is_167 rfl) Ff_h389
            have Kf_h397 : Kf h h397 := Kf_ag (my_ag.up fh397 is_167 rfl) Kf_h389
            have kW_h397 : mkQ h397 := mkT (my_ag.up fh397 is_167 rfl) kW_h389
            have Tok_h397 : Tok h397 := Tok_ag (my_ag.up fh397 is_167 rfl) Tok_h389
            have Ko_h397 : Ko h h397 := Ko_7 (a := 167) hwv (by decide) (by omega) fh397 Ko_h389
            have PmJ_h397 : PmJ h h397 := PmJ_ag (my_ag.up fh397 is_167 rfl) PmJ_h389
            have Mq_h397t398 : Mq h397 wv := Mq_add mr0 (by omega) pk pk3 ag0 e27 fh397 (by omega) (by omega)
            have k6 := my_up_self fh397
            refine w_aload_n gz_185_269 rfl ?_
            refine w_bipush gz_185_270 (by decide) ?_
            have ce399 : h397 151 7 = h361 151 7 := ((my_up_role fh397 is_151 is_167 rfl).trans ((my_fr.at frh389 is_151 rfl).trans (rfl : h361 151 7 = h361 151 7)))
            refine w_inv (k := 0) (as := [(0, 59)]) (r := []) (x := 151) (ls0 := [(2, 151), (0, 59)]) gz_185_272 gm_183 rfl is_151 rd_10 rfl rfl rfl rfl rfl (c_Model_takeSign9_f0 (d := (d + 2))  (((my_up_role fh397 is_151 is_167 rfl).trans ((my_fr.at frh389 is_151 rfl).trans ev375.symm)).trans (by omega)) Tok_h397 (fun h400 frh400 w401 w402 xp403 xp404 xp405 Tok_h400t406 => ?_) (fun h407 frh407 w408 w409 w410 xp411 xp412 xp413 Tok_h407t414 => ?_))
            ·
              have gh400 : my_fr [(10, 7), (10, 8), (10, 27), (66, -1), (67, -1), (68, -1), (69, -1), (70, -1), (71, -1), (72, -1), (73, -1), (74, -1), (75, -1), (77, -1), (78, -1), (79, -1)] h h400 := my_fr.tr gh397 (frh400.mo rfl)
              have Wrd_h400 : Wrd h400 := Wrd_ag (my_ag.fr frh400 rfl) Wrd_h397
              have Wd9_h400 : Wd9 h400 := Wd9_ag (my_ag.fr frh400 rfl) Wd9_h397
              have Ff_h400 : Ff h h400 := Ff_ag (my_ag.fr frh400 rfl) Ff_h397
              have Kf_h400 : Kf h h400 := Kf_ag (my_ag.fr frh400 rfl) Kf_h397
              have kW_h400 : mkQ h400 := mkT (my_ag.fr frh400 rfl) kW_h397
              have Ko_h400 : Ko h h400 := Ko_ag (my_ag.fr frh400 rfl) Ko_h397
              have PmJ_h400 : PmJ h h400 := PmJ_ag (my_ag.fr frh400 rfl) PmJ_h397
              have Mq_h400 : Mq h400 wv := Mq_ag (my_ag.fr frh400 rfl) Mq_h397t398
              show wp l rho (d + 4) 185 275 [(2, 151), (0, p88_0), (0, p88_1), (0, p88_2), (0, p88_3), (0, (36 + v10)), (9, 0), (9, 0)] [] h400 Q
              have ps415 : h397 151 7 = h361 151 7 := ((my_up_role fh397 is_151 is_167 rfl).trans ((my_fr.at frh389 is_151 rfl).trans (rfl : h361 151 7 = h361 151 7)))
              rw [ps415] at xp403
              have tE416 : sm h397 = sm h := sm_eq (fun j => my_fr.at gh397 is_153 rfl) (fun j => my_fr.at gh397 is_154 rfl) (fun j => my_fr.at gh397 is_155 rfl)
              rw [tE416] at xp404
              rw [ps415] at xp404
              rw [tE416] at xp405
              rw [ps415] at xp405
              have psR : h400 151 7 = h400 151 7 := (rfl : h400 151 7 = h400 151 7)
              have npsR : sm h400 = sm h := sm_eq (fun j => my_fr.at gh400 is_153 rfl) (fun j => my_fr.at gh400 is_154 rfl) (fun j => my_fr.at gh400 is_155 rfl)
              have ce417 : h400 151 8 = (h400 151 8) := (rfl : h400 151 8 = h400 151 8)
              have ce418 : h400 151 27 = h389 151 27 := ((my_fr.at frh400 is_151 rfl).trans ((my_up_role fh397 is_151 is_167 rfl).trans (rfl : h389 151 27 = h389 151 27)))
              have r167 : ∀ j : Int, h400 167 j = h397 167 j := fun j => ((my_fr.at frh400 is_167 rfl).trans (rfl : h397 167 j = h397 167 j))
              have r6 := r167 6
              have cw9 : h400 151 27 = h389 151 27 := by omega
              have r173 : ∀ j : Int, h400 173 j = h88_0 173 j := fun j => ((my_fr.at frh400 is_173 rfl).trans ((my_up_role fh397 is_173 is_167 rfl).trans ((my_fr.at frh389 is_173 rfl).trans ((my_fr.at frh361 is_173 rfl).trans ((my_up_role fh6 is_173 is_151 rfl).trans (rfl : h88_0 173 j = h88_0 173 j))))))
              have s171 : ∀ j : Int, h400 171 j = h361 171 j := fun j => ((my_fr.at frh400 is_171 rfl).trans ((my_up_role fh397 is_171 is_167 rfl).trans ((my_fr.at frh389 is_171 rfl).trans (rfl : h361 171 j = h361 171 j))))
              have zR9 : ∃ y c s : Int, paneR (sm h) (h 157) (h 157 (h 151 33)) (h 151 7) (h 151 27) (h 167 6) (h400 151 8) y c s := ⟨0, _, _, Or.inr (Or.inr (Or.inr (Or.inl ⟨by omega, by omega, fmE_R zW (by first | exact Or.inl ⟨by omega, by omega⟩ | exact Or.inr ⟨by omega, Or.inl ⟨by omega, by omega⟩⟩ | exact Or.inr ⟨by omega, Or.inr ⟨by omega, by omega, by omega⟩⟩), rfl⟩)))⟩
              have c419 := (rfl : h400 151 8 = h400 151 8)
              exact w_vret gz_185_275 gm_185 (k0 h400 (gh400) (by omega) (by omega) (by first | exact Kf_h400 | exact Ko_h400 | exact zR9 | exact zQ9 | omega) (by first | exact Kf_h400 | exact Ko_h400 | exact zR9 | exact zQ9 | omega) (by first | exact Kf_h400 | exact Ko_h400 | exact zR9 | exact zQ9 | omega) (by first | exact Kf_h400 | exact Ko_h400 | exact zR9 | exact zQ9 | omega) Tok_h400t406 Mq_h400 Wrd_h400 Wd9_h400)
            ·
              have gh407 : my_fr [(10, 7), (10, 8), (10, 27), (66, -1), (67, -1), (68, -1), (69, -1), (70, -1), (71, -1), (72, -1), (73, -1), (74, -1), (75, -1), (77, -1), (78, -1), (79, -1)] h h407 := my_fr.tr gh397 (frh407.mo rfl)
              have Wrd_h407 : Wrd h407 := Wrd_ag (my_ag.fr frh407 rfl) Wrd_h397
              have Wd9_h407 : Wd9 h407 := Wd9_ag (my_ag.fr frh407 rfl) Wd9_h397
              have Ff_h407 : Ff h h407 := Ff_ag (my_ag.fr frh407 rfl) Ff_h397
              have Kf_h407 : Kf h h407 := Kf_ag (my_ag.fr frh407 rfl) Kf_h397
              have kW_h407 : mkQ h407 := mkT (my_ag.fr frh407 rfl) kW_h397
              have Ko_h407 : Ko h h407 := Ko_ag (my_ag.fr frh407 rfl) Ko_h397
              have PmJ_h407 : PmJ h h407 := PmJ_ag (my_ag.fr frh407 rfl) PmJ_h397
              have Mq_h407 : Mq h407 wv := Mq_ag (my_ag.fr frh407 rfl) Mq_h397t398
              show wp l rho (d + 4) 185 275 [(2, 151), (0, p88_0), (0, p88_1), (0, p88_2), (0, p88_3), (0, (36 + v10)), (9, 0), (9, 0)] [] h407 Q
              have ps420 : h397 151 7 = h361 151 7 := ((my_up_role fh397 is_151 is_167 rfl).trans ((my_fr.at frh389 is_151 rfl).trans (rfl : h361 151 7 = h361 151 7)))
              rw [ps420] at xp411
              have tE421 : sm h397 = sm h := sm_eq (fun j => my_fr.at gh397 is_153 rfl) (fun j => my_fr.at gh397 is_154 rfl) (fun j => my_fr.at gh397 is_155 rfl)
              rw [tE421] at xp412
              rw [ps420] at xp412
              rw [tE421] at xp413
              rw [ps420] at xp413
              have psR : h407 151 7 = (sN (sm h) ((h361 151 7))) := xp412
              have npsR : sm h407 = sm h := sm_eq (fun j => my_fr.at gh407 is_153 rfl) (fun j => my_fr.at gh407 is_154 rfl) (fun j => my_fr.at gh407 is_155 rfl)
              have ce422 : h407 151 7 = (h407 151 7) := (rfl : h407 151 7 = h407 151 7)
              have ce423 : h407 151 8 = 0 := w410
              have ce424 : h407 151 27 = h389 151 27 := ((my_fr.at frh407 is_151 rfl).trans ((my_up_role fh397 is_151 is_167 rfl).trans (rfl : h389 151 27 = h389 151 27)))
              have r167 : ∀ j : Int, h407 167 j = h397 167 j := fun j => ((my_fr.at frh407 is_167 rfl).trans (rfl : h397 167 j = h397 167 j))
              have r6 := r167 6
              have cw9 : h407 151 27 = h389 151 27 := by omega
              have r173 : ∀ j : Int, h407 173 j = h88_0 173 j := fun j => ((my_fr.at frh407 is_173 rfl).trans ((my_up_role fh397 is_173 is_167 rfl).trans ((my_fr.at frh389 is_173 rfl).trans ((my_fr.at frh361 is_173 rfl).trans ((my_up_role fh6 is_173 is_151 rfl).trans (rfl : h88_0 173 j = h88_0 173 j))))))
              have s171 : ∀ j : Int, h407 171 j = h361 171 j := fun j => ((my_fr.at frh407 is_171 rfl).trans ((my_up_role fh397 is_171 is_167 rfl).trans ((my_fr.at frh389 is_171 rfl).trans (rfl : h361 171 j = h361 171 j))))
              have zR9 : paneR (sm h) (h 157) (h 157 (h 151 33)) (h 151 7) (h 151 27) (h 167 6) (h407 151 8) (h407 151 7) (h407 151 27) (h407 167 6) := Or.inr (Or.inr (Or.inr (Or.inl ⟨by omega, by omega, by first | (rw [cw9]; exact fmE_R zW (by first | exact Or.inl ⟨by omega, by omega⟩ | exact Or.inr ⟨by omega, Or.inl ⟨by omega, by omega⟩⟩ | exact Or.inr ⟨by omega, Or.inr ⟨by omega, by omega, by omega⟩⟩)) | exact fmE_R zW (by first | exact Or.inl ⟨by omega, by omega⟩ | exact Or.inr ⟨by omega, Or.inl ⟨by omega, by omega⟩⟩ | exact Or.inr ⟨by omega, Or.inr ⟨by omega, by omega, by omega⟩⟩), by omega⟩)))
              have zQ9 : PmQ h h407 := PmQ_p (by omega) PmJ_h407 (by omega) Ff_h407 (fun _ => (s171 _).trans ((congrArg (h361 171) (by omega)).trans (m3.symm.trans cw9.symm)))
              have c425 := (rfl : h407 151 7 = h407 151 7)
              have c426 := w410
              exact w_vret gz_185_275 gm_185 (k1 h407 (gh407) (by omega) (by omega) (by omega) (by first | exact Kf_h407 | exact Ko_h407 | exact zR9 | exact zQ9 | omega) (by first | exact Kf_h407 | exact Ko_h407 | exact zR9 | exact zQ9 | omega) (by first | exact Kf_h407 | exact Ko_h407 | exact zR9 | exact zQ9 | omega) (by first | exact Kf_h407 | exact Ko_h407 | exact zR9 | exact zQ9 | omega) (by first | exact Kf_h407 | exact Ko_h407 | exact zR9 | exact zQ9 | omega) Tok_h407t414 Mq_h407 Wrd_h407 Wd9_h407)
      ·
        refine w_aload_n gz_185_122 rfl ?_
        refine w_iload gz_185_123 rfl ?_
        have ce427 : h6 151 7 = (v3 + 1) := (my_up_self fh6)
        have ce428 : h6 151 27 = k151_27 := ((my_up_fld fh6 (by decide)).trans c151_27_88_0)
        have am9 := AgM_h6
        have kC_h6t429 : mkQ h6 := mkO
        have hi430 : 36 ≤ (36 + v10) := by omega
        have hi431 : (36 + v10) ≤ 41 := by omega
        refine w_inv (k := 2) (as := [(0, (36 + v10))]) (r := []) (x := 151) (ls0 := [(2, 151), (0, (36 + v10)), (9, 0), (9, 0)]) gz_185_125 gm_186 rfl is_151 rd_10 rfl rfl rfl rfl rfl (c_Model_readCut7_f0 (d := (d + 1)) (x1 := (36 + v10)) (wv := wv) (by omega) (by omega) (((my_up_fld fh6 (by decide)).trans ev1.symm).trans (by omega)) (by first | assumption | omega) (by first | assumption | omega) Tok_h6t8 Mq_h6 Wd9_h6 (by first | assumption | exact no_such_saying | exact Fp_told (by omega) (by omega) | omega | (subst_vars; omega) | omega) (fun h432 frh432 w433 w434 xp435 xp436 xp437 Tok_h432t438 Mq_h432t439 Wd9_h432t440 => ?_) (fun h441 frh441 w442 w443 w444 xp445 xp446 xp447 xp448 xp449 xp450 xp451 Tok_h441t452 Mq_h441t453 Wd9_h441t454 => ?_))
        ·
          have gh432 : my_fr [(10, 7), (10, 8), (10, 27), (66, -1), (67, -1), (68, -1), (69, -1), (70, -1), (71, -1), (72, -1), (73, -1), (74, -1), (75, -1), (77, -1), (78, -1), (79, -1)] h h432 := my_fr.tr gh6 (frh432.mo rfl)
          have Wrd_h432 : Wrd h432 := Wrd_ag (my_ag.fr frh432 rfl) Wrd_h6
          have Wd9_h432 : Wd9 h432 := Wd9_ag (my_ag.fr frh432 rfl) Wd9_h6
          have Ff_h432 : Ff h h432 := Ff_ag (my_ag.fr frh432 rfl) Ff_h6
          have Kf_h432 : Kf h h432 := Kf_ag (my_ag.fr frh432 rfl) Kf_h6
          have kC_h432 : mkQ h432 := mkT (my_ag.fr frh432 rfl) kC_h6t429
          show wp l rho (d + 4) 185 128 [(2, 151), (0, p88_0), (0, p88_1), (0, p88_2), (0, p88_3), (0, (36 + v10)), (9, 0), (9, 0)] [] h432 Q
          have ps455 : h6 151 7 = (sN (sm h) (h 151 7)) := ps7
          rw [ps455] at xp435
          have tE456 : sm h6 = sm h := sm_eq (fun j => my_fr.at gh6 is_153 rfl) (fun j => my_fr.at gh6 is_154 rfl) (fun j => my_fr.at gh6 is_155 rfl)
          rw [tE456] at xp436
          rw [ps455] at xp436
          have q27 : h6 151 27 = h 151 27 := by omega
          have q57 : h6 157 = h 157 := funext (fun j => my_fr.at gh6 is_157 rfl)
          have zC := xp436
          simp only [q27, q57] at zC
          have Ko_h432t457 : Ko h h432 := Ko_tr Ko_h6 xp437
          refine w_goto (t := 228) gz_185_128 rfl ?_
          refine w_aload_n gz_185_228 rfl ?_
          refine v_getI (j := 8) gz_185_229 rfl is_151 rd_10 rfl (fun v458 ev458 pv458 qv458 => ?_)
          have zv458 := ev458.trans (rfl : h432 151 8 = h432 151 8)
          refine w_ifne (t := 269) gz_185_232 rfl (fun u459 => ?_) (fun u459 => by exfalso; omega)
          refine w_aload_n gz_185_269 rfl ?_
          refine w_bipush gz_185_270 (by decide) ?_
          refine w_inv (k := 0) (as := [(0, 59)]) (r := []) (x := 151) (ls0 := [(2, 151), (0, 59)]) gz_185_272 gm_183 rfl is_151 rd_10 rfl rfl rfl rfl rfl (c_Model_takeSign9_f1 (d := (d + 2))  (v458) (ev458.symm) (by omega) (by omega) Tok_h432t438 (fun w460 w461 xp462 xp463 Tok_h432t464 => ?_))
          show wp l rho (d + 4) 185 275 [(2, 151), (0, p88_0), (0, p88_1), (0, p88_2), (0, p88_3), (0, (36 + v10)), (9, 0), (9, 0)] [] h432 Q
          have psR : h432 151 7 = h432 151 7 := (rfl : h432 151 7 = h432 151 7)
          have npsR : sm h432 = sm h := sm_eq (fun j => my_fr.at gh432 is_153 rfl) (fun j => my_fr.at gh432 is_154 rfl) (fun j => my_fr.at gh432 is_155 rfl)
          have ce465 : h432 151 8 = v458 := ev458.symm
          have ce466 : h432 151 27 = k151_27 := ((my_fr.at frh432 is_151 rfl).trans ((my_up_fld fh6 (by decide)).trans c151_27_88_0))
          have r167 : ∀ j : Int, h432 167 j = h88_0 167 j := fun j => ((my_fr.at frh432 is_167 rfl).trans ((my_up_role fh6 is_167 is_151 rfl).trans (rfl : h88_0 167 j = h88_0 167 j)))
          have r6 := r167 6
          have r173 : ∀ j : Int, h432 173 j = h88_0 173 j := fun j => ((my_fr.at frh432 is_173 rfl).trans ((my_up_role fh6 is_173 is_151 rfl).trans (rfl : h88_0 173 j = h88_0 173 j)))
          have s171 : ∀ j : Int, h432 171 j = h432 171 j := fun _ => rfl
          have zR9 : ∃ y c s : Int, paneR (sm h) (h 157) (h 157 (h 151 33)) (h 151 7) (h 151 27) (h 167 6) (h432 151 8) y c s := ⟨0, _, _, Or.inr (Or.inr (Or.inl ⟨by omega, by omega, cutM_R zC (by first | exact Or.inl ⟨by omega, by omega⟩ | exact Or.inr ⟨by omega, Or.inl ⟨by omega, by omega⟩⟩ | exact Or.inr ⟨by omega, Or.inr ⟨by omega, by omega, by omega⟩⟩), rfl, rfl⟩))⟩
          have c467 := ev458.symm
          exact w_vret gz_185_275 gm_185 (k0 h432 (gh432) (by omega) (by omega) (by first | exact Kf_h432 | exact Ko_h432t457 | exact zR9 | exact zQ9 | omega) (by first | exact Kf_h432 | exact Ko_h432t457 | exact zR9 | exact zQ9 | omega) (by first | exact Kf_h432 | exact Ko_h432t457 | exact zR9 | exact zQ9 | omega) (by first | exact Kf_h432 | exact Ko_h432t457 | exact zR9 | exact zQ9 | omega) Tok_h432t464 Mq_h432t439 Wrd_h432 Wd9_h432t440)
        ·
          have gh441 : my_fr [(10, 7), (10, 8), (10, 27), (66, -1), (67, -1), (68, -1), (69, -1), (70, -1), (71, -1), (72, -1), (73, -1), (74, -1), (75, -1), (77, -1), (78, -1), (79, -1)] h h441 := my_fr.tr gh6 (frh441.mo rfl)
          have Wrd_h441 : Wrd h441 := Wrd_ag (my_ag.fr frh441 rfl) Wrd_h6
          have Wd9_h441 : Wd9 h441 := Wd9_ag (my_ag.fr frh441 rfl) Wd9_h6
          have Ff_h441 : Ff h h441 := Ff_ag (my_ag.fr frh441 rfl) Ff_h6
          have Kf_h441 : Kf h h441 := Kf_ag (my_ag.fr frh441 rfl) Kf_h6
          have kC_h441 : mkQ h441 := mkT (my_ag.fr frh441 rfl) kC_h6t429
          show wp l rho (d + 4) 185 128 [(2, 151), (0, p88_0), (0, p88_1), (0, p88_2), (0, p88_3), (0, (36 + v10)), (9, 0), (9, 0)] [] h441 Q
          have ps468 : h6 151 7 = (sN (sm h) (h 151 7)) := ps7
          rw [ps468] at xp447
          have tE469 : sm h6 = sm h := sm_eq (fun j => my_fr.at gh6 is_153 rfl) (fun j => my_fr.at gh6 is_154 rfl) (fun j => my_fr.at gh6 is_155 rfl)
          rw [tE469] at xp448
          rw [ps468] at xp448
          rw [tE469] at xp451
          rw [ps468] at xp451
          have q27 : h6 151 27 = h 151 27 := by omega
          have q57 : h6 157 = h 157 := funext (fun j => my_fr.at gh6 is_157 rfl)
          have zC := xp448
          simp only [q27, q57] at zC
          have pk := xp445
          have pk3 := xp446
          have kd := xp449
          have Ko_h441t470 : Ko h h441 := Ko_tr Ko_h6 xp450
          have PmJ_h441t471 : PmJ h h441 := PmJ_c (by omega) (by omega) am9 xp451
          refine w_goto (t := 228) gz_185_128 rfl ?_
          refine w_aload_n gz_185_228 rfl ?_
          refine v_getI (j := 8) gz_185_229 rfl is_151 rd_10 rfl (fun v472 ev472 pv472 qv472 => ?_)
          have zv472 := ev472.trans w444
          refine w_ifne (t := 269) gz_185_232 rfl (fun u473 => by exfalso; omega) (fun u473 => ?_)
          refine w_iload_n gz_185_235 rfl ?_
          refine w_ifne (t := 252) gz_185_236 rfl (fun u474 => ?_) (fun u474 => by exfalso; omega)
          refine w_aload_n gz_185_252 rfl ?_
          refine w_iload gz_185_253 rfl ?_
          have d167 : ∀ j : Int, h441 167 j = h88_0 167 j := fun j => ((my_fr.at frh441 is_167 rfl).trans ((my_up_role fh6 is_167 is_151 rfl).trans (rfl : h88_0 167 j = h88_0 167 j)))
          have d6 := d167 6
          have mr0 := Mq_h441t453
          have ce475 : h441 151 27 = k151_27 := ((my_fr.at frh441 is_151 rfl).trans ((my_up_fld fh6 (by decide)).trans c151_27_88_0))
          refine w_inv (k := 1) (as := [(0, (36 + v10))]) (r := []) (x := 151) (ls0 := [(2, 151), (0, (36 + v10)), (9, 0)]) gz_185_255 gm_182 rfl is_151 rd_10 rfl rfl rfl rfl rfl (c_Model_pane2_f0 (d := (d + 3)) (x1 := (36 + v10)) (by omega) (by omega) (ev472.symm.trans (by omega)) (pk.1) (fun h476 frh476 w477 xp478 xp479 => ?_))
          have gh476 : my_fr [(10, 7), (10, 8), (10, 27), (66, -1), (67, -1), (68, -1), (69, -1), (70, -1), (71, -1), (72, -1), (73, -1), (74, -1), (75, -1), (77, -1), (78, -1), (79, -1)] h h476 := my_fr.tr gh441 (frh476.mo rfl)
          have Wrd_h476 : Wrd h476 := Wrd_ag (my_ag.fr frh476 rfl) Wrd_h441
          have Wd9_h476 : Wd9 h476 := Wd9_ag (my_ag.fr frh476 rfl) Wd9_h441t454
          have Ff_h476 : Ff h h476 := Ff_ag (my_ag.fr frh476 rfl) Ff_h441
          have Kf_h476 : Kf h h476 := Kf_ag (my_ag.fr frh476 rfl) Kf_h441
          have kC_h476 : mkQ h476 := mkT (my_ag.fr frh476 rfl) kC_h441
          have Tok_h476 : Tok h476 := Tok_ag (my_ag.fr frh476 rfl) Tok_h441t452
          have Ko_h476 : Ko h h476 := Ko_ag (my_ag.fr frh476 rfl) Ko_h441t470
          have PmJ_h476 : PmJ h h476 := PmJ_ag (my_ag.fr frh476 rfl) PmJ_h441t471
          show wp l rho (d + 4) 185 258 [(2, 151), (0, p88_0), (0, p88_1), (0, p88_2), (0, p88_3), (0, (36 + v10)), (9, 0), (9, 0)] [] h476 Q
          have ag0 : my_ag M3F h441 h476 := my_ag.fr frh476 rfl
          have e27 := xp478
          have e67 : h476 167 6 = h441 167 6 := ag0.at mis_167 rfl
          have mc := ms_c e27
          try (have m3 := mc.2.2.1 kd; rw [← m3] at zW)
          try (have q58 : h441 157 = h 157 := funext (fun j => my_fr.at gh441 is_157 rfl); have j4 := mc.2.1 kd.1; rw [kd.2, q58] at j4)
          refine w_aload_n gz_185_258 rfl ?_
          refine w_getX (v := 167) gz_185_259 is_151 rd_10 rfl (by decide) rfl ?_
          refine w_bipush gz_185_262 (by decide) ?_
          refine w_dup2 gz_185_264 rfl rfl ?_
          refine w_iald gz_185_265 is_167 rd_66 (by omega) (by omega) (fun v481 ev481 pv481 qv481 => ?_)
          have zv481 := ev481.trans ((my_fr.at frh476 is_167 rfl).trans ((my_fr.at frh441 is_167 rfl).trans ev10.symm))
          refine w_iconst gz_185_266 (by decide) ?_
          refine w_iadd gz_185_267 ⟨by omega, by omega⟩ ?_
          have hi482 : 0 ≤ (v481 + 1) := by omega
          have hi483 : (v481 + 1) ≤ 6 := by omega
          refine w_iast gz_185_268 is_167 rd_66 (by omega) (by omega) (by omega) (by omega) (fun h484 fh484 => ?_)
          have gh484 : my_fr [(10, 7), (10, 8), (10, 27), (66, -1), (67, -1), (68, -1), (69, -1), (70, -1), (71, -1), (72, -1), (73, -1), (74, -1), (75, -1), (77, -1), (78, -1), (79, -1)] h h484 := my_fr.up gh476 is_167 fh484 rfl
          have Wrd_h484 : Wrd h484 := Wrd_ag (my_ag.up fh484 is_167 rfl) Wrd_h476
          have Wd9_h484 : Wd9 h484 := Wd9_ag (my_ag.up fh484 is_167 rfl) Wd9_h476
          have Ff_h484 : Ff h h484 := Ff_ag (my_ag.up fh484 is_167 rfl) Ff_h476
          have Kf_h484 : Kf h h484 := Kf_ag (my_ag.up fh484 is_167 rfl) Kf_h476
          have kC_h484 : mkQ h484 := mkT (my_ag.up fh484 is_167 rfl) kC_h476
          have Tok_h484 : Tok h484 := Tok_ag (my_ag.up fh484 is_167 rfl) Tok_h476
          have Ko_h484 : Ko h h484 := Ko_7 (a := 167) hwv (by decide) (by omega) fh484 Ko_h476
          have PmJ_h484 : PmJ h h484 := PmJ_ag (my_ag.up fh484 is_167 rfl) PmJ_h476
          have Mq_h484t485 : Mq h484 wv := Mq_add mr0 (by omega) pk pk3 ag0 e27 fh484 (by omega) (by omega)
          have k6 := my_up_self fh484
          refine w_aload_n gz_185_269 rfl ?_
          refine w_bipush gz_185_270 (by decide) ?_
          have ce486 : h484 151 7 = (h441 151 7) := ((my_up_role fh484 is_151 is_167 rfl).trans ((my_fr.at frh476 is_151 rfl).trans (rfl : h441 151 7 = h441 151 7)))
          refine w_inv (k := 0) (as := [(0, 59)]) (r := []) (x := 151) (ls0 := [(2, 151), (0, 59)]) gz_185_272 gm_183 rfl is_151 rd_10 rfl rfl rfl rfl rfl (c_Model_takeSign9_f0 (d := (d + 2))  (((my_up_role fh484 is_151 is_167 rfl).trans ((my_fr.at frh476 is_151 rfl).trans ev472.symm)).trans (by omega)) Tok_h484 (fun h487 frh487 w488 w489 xp490 xp491 xp492 Tok_h487t493 => ?_) (fun h494 frh494 w495 w496 w497 xp498 xp499 xp500 Tok_h494t501 => ?_))
          ·
            have gh487 : my_fr [(10, 7), (10, 8), (10, 27), (66, -1), (67, -1), (68, -1), (69, -1), (70, -1), (71, -1), (72, -1), (73, -1), (74, -1), (75, -1), (77, -1), (78, -1), (79, -1)] h h487 := my_fr.tr gh484 (frh487.mo rfl)
            have Wrd_h487 : Wrd h487 := Wrd_ag (my_ag.fr frh487 rfl) Wrd_h484
            have Wd9_h487 : Wd9 h487 := Wd9_ag (my_ag.fr frh487 rfl) Wd9_h484
            have Ff_h487 : Ff h h487 := Ff_ag (my_ag.fr frh487 rfl) Ff_h484
            have Kf_h487 : Kf h h487 := Kf_ag (my_ag.fr frh487 rfl) Kf_h484
            have kC_h487 : mkQ h487 := mkT (my_ag.fr frh487 rfl) kC_h484
            have Ko_h487 : Ko h h487 := Ko_ag (my_ag.fr frh487 rfl) Ko_h484
            have PmJ_h487 : PmJ h h487 := PmJ_ag (my_ag.fr frh487 rfl) PmJ_h484
            have Mq_h487 : Mq h487 wv := Mq_ag (my_ag.fr frh487 rfl) Mq_h484t485
            show wp l rho (d + 4) 185 275 [(2, 151), (0, p88_0), (0, p88_1), (0, p88_2), (0, p88_3), (0, (36 + v10)), (9, 0), (9, 0)] [] h487 Q
            have ps502 : h484 151 7 = h441 151 7 := ((my_up_role fh484 is_151 is_167 rfl).trans ((my_fr.at frh476 is_151 rfl).trans (rfl : h441 151 7 = h441 151 7)))
            rw [ps502] at xp490
            have tE503 : sm h484 = sm h := sm_eq (fun j => my_fr.at gh484 is_153 rfl) (fun j => my_fr.at gh484 is_154 rfl) (fun j => my_fr.at gh484 is_155 rfl)
            rw [tE503] at xp491
            rw [ps502] at xp491
            rw [tE503] at xp492
            rw [ps502] at xp492
            have psR : h487 151 7 = h487 151 7 := (rfl : h487 151 7 = h487 151 7)
            have npsR : sm h487 = sm h := sm_eq (fun j => my_fr.at gh487 is_153 rfl) (fun j => my_fr.at gh487 is_154 rfl) (fun j => my_fr.at gh487 is_155 rfl)
            have ce504 : h487 151 8 = (h487 151 8) := (rfl : h487 151 8 = h487 151 8)
            have ce505 : h487 151 27 = h476 151 27 := ((my_fr.at frh487 is_151 rfl).trans ((my_up_role fh484 is_151 is_167 rfl).trans (rfl : h476 151 27 = h476 151 27)))
            have r167 : ∀ j : Int, h487 167 j = h484 167 j := fun j => ((my_fr.at frh487 is_167 rfl).trans (rfl : h484 167 j = h484 167 j))
            have r6 := r167 6
            have cw9 : h487 151 27 = h476 151 27 := by omega
            have r173 : ∀ j : Int, h487 173 j = h88_0 173 j := fun j => ((my_fr.at frh487 is_173 rfl).trans ((my_up_role fh484 is_173 is_167 rfl).trans ((my_fr.at frh476 is_173 rfl).trans ((my_fr.at frh441 is_173 rfl).trans ((my_up_role fh6 is_173 is_151 rfl).trans (rfl : h88_0 173 j = h88_0 173 j))))))
            have s171 : ∀ j : Int, h487 171 j = h441 171 j := fun j => ((my_fr.at frh487 is_171 rfl).trans ((my_up_role fh484 is_171 is_167 rfl).trans ((my_fr.at frh476 is_171 rfl).trans (rfl : h441 171 j = h441 171 j))))
            have zR9 : ∃ y c s : Int, paneR (sm h) (h 157) (h 157 (h 151 33)) (h 151 7) (h 151 27) (h 167 6) (h487 151 8) y c s := ⟨0, _, _, Or.inr (Or.inr (Or.inl ⟨by omega, by omega, cutM_R zC (by first | exact Or.inl ⟨by omega, by omega⟩ | exact Or.inr ⟨by omega, Or.inl ⟨by omega, by omega⟩⟩ | exact Or.inr ⟨by omega, Or.inr ⟨by omega, by omega, by omega⟩⟩), rfl, rfl⟩))⟩
            have c506 := (rfl : h487 151 8 = h487 151 8)
            exact w_vret gz_185_275 gm_185 (k0 h487 (gh487) (by omega) (by omega) (by first | exact Kf_h487 | exact Ko_h487 | exact zR9 | exact zQ9 | omega) (by first | exact Kf_h487 | exact Ko_h487 | exact zR9 | exact zQ9 | omega) (by first | exact Kf_h487 | exact Ko_h487 | exact zR9 | exact zQ9 | omega) (by first | exact Kf_h487 | exact Ko_h487 | exact zR9 | exact zQ9 | omega) Tok_h487t493 Mq_h487 Wrd_h487 Wd9_h487)
          ·
            have gh494 : my_fr [(10, 7), (10, 8), (10, 27), (66, -1), (67, -1), (68, -1), (69, -1), (70, -1), (71, -1), (72, -1), (73, -1), (74, -1), (75, -1), (77, -1), (78, -1), (79, -1)] h h494 := my_fr.tr gh484 (frh494.mo rfl)
            have Wrd_h494 : Wrd h494 := Wrd_ag (my_ag.fr frh494 rfl) Wrd_h484
            have Wd9_h494 : Wd9 h494 := Wd9_ag (my_ag.fr frh494 rfl) Wd9_h484
            have Ff_h494 : Ff h h494 := Ff_ag (my_ag.fr frh494 rfl) Ff_h484
            have Kf_h494 : Kf h h494 := Kf_ag (my_ag.fr frh494 rfl) Kf_h484
            have kC_h494 : mkQ h494 := mkT (my_ag.fr frh494 rfl) kC_h484
            have Ko_h494 : Ko h h494 := Ko_ag (my_ag.fr frh494 rfl) Ko_h484
            have PmJ_h494 : PmJ h h494 := PmJ_ag (my_ag.fr frh494 rfl) PmJ_h484
            have Mq_h494 : Mq h494 wv := Mq_ag (my_ag.fr frh494 rfl) Mq_h484t485
            show wp l rho (d + 4) 185 275 [(2, 151), (0, p88_0), (0, p88_1), (0, p88_2), (0, p88_3), (0, (36 + v10)), (9, 0), (9, 0)] [] h494 Q
            have ps507 : h484 151 7 = h441 151 7 := ((my_up_role fh484 is_151 is_167 rfl).trans ((my_fr.at frh476 is_151 rfl).trans (rfl : h441 151 7 = h441 151 7)))
            rw [ps507] at xp498
            have tE508 : sm h484 = sm h := sm_eq (fun j => my_fr.at gh484 is_153 rfl) (fun j => my_fr.at gh484 is_154 rfl) (fun j => my_fr.at gh484 is_155 rfl)
            rw [tE508] at xp499
            rw [ps507] at xp499
            rw [tE508] at xp500
            rw [ps507] at xp500
            have psR : h494 151 7 = (sN (sm h) ((h441 151 7))) := xp499
            have npsR : sm h494 = sm h := sm_eq (fun j => my_fr.at gh494 is_153 rfl) (fun j => my_fr.at gh494 is_154 rfl) (fun j => my_fr.at gh494 is_155 rfl)
            have ce509 : h494 151 7 = (h494 151 7) := (rfl : h494 151 7 = h494 151 7)
            have ce510 : h494 151 8 = 0 := w497
            have ce511 : h494 151 27 = h476 151 27 := ((my_fr.at frh494 is_151 rfl).trans ((my_up_role fh484 is_151 is_167 rfl).trans (rfl : h476 151 27 = h476 151 27)))
            have r167 : ∀ j : Int, h494 167 j = h484 167 j := fun j => ((my_fr.at frh494 is_167 rfl).trans (rfl : h484 167 j = h484 167 j))
            have r6 := r167 6
            have cw9 : h494 151 27 = h476 151 27 := by omega
            have r173 : ∀ j : Int, h494 173 j = h88_0 173 j := fun j => ((my_fr.at frh494 is_173 rfl).trans ((my_up_role fh484 is_173 is_167 rfl).trans ((my_fr.at frh476 is_173 rfl).trans ((my_fr.at frh441 is_173 rfl).trans ((my_up_role fh6 is_173 is_151 rfl).trans (rfl : h88_0 173 j = h88_0 173 j))))))
            have s171 : ∀ j : Int, h494 171 j = h441 171 j := fun j => ((my_fr.at frh494 is_171 rfl).trans ((my_up_role fh484 is_171 is_167 rfl).trans ((my_fr.at frh476 is_171 rfl).trans (rfl : h441 171 j = h441 171 j))))
            have zR9 : paneR (sm h) (h 157) (h 157 (h 151 33)) (h 151 7) (h 151 27) (h 167 6) (h494 151 8) (h494 151 7) (h494 151 27) (h494 167 6) := Or.inr (Or.inr (Or.inl ⟨by omega, by omega, cutM_R zC (by first | exact Or.inl ⟨by omega, by omega⟩ | exact Or.inr ⟨by omega, Or.inl ⟨by omega, by omega⟩⟩ | exact Or.inr ⟨by omega, Or.inr ⟨by omega, by omega, by omega⟩⟩), by first | omega | exact cw9, by omega⟩))
            have zQ9 : PmQ h h494 := PmQ_p (by omega) PmJ_h494 (by omega) Ff_h494 (fun q => absurd q (by omega))
            have c512 := (rfl : h494 151 7 = h494 151 7)
            have c513 := w497
            exact w_vret gz_185_275 gm_185 (k1 h494 (gh494) (by omega) (by omega) (by omega) (by first | exact Kf_h494 | exact Ko_h494 | exact zR9 | exact zQ9 | omega) (by first | exact Kf_h494 | exact Ko_h494 | exact zR9 | exact zQ9 | omega) (by first | exact Kf_h494 | exact Ko_h494 | exact zR9 | exact zQ9 | omega) (by first | exact Kf_h494 | exact Ko_h494 | exact zR9 | exact zQ9 | omega) (by first | exact Kf_h494 | exact Ko_h494 | exact zR9 | exact zQ9 | omega) Tok_h494t501 Mq_h494 Wrd_h494 Wd9_h494)
    ·
      have psR : h88_0 151 7 = h 151 7 := am_88_0
      have npsR : sm h88_0 = sm h := sm_eq (fun j => my_fr.at gh_88_0 is_153 rfl) (fun j => my_fr.at gh_88_0 is_154 rfl) (fun j => my_fr.at gh_88_0 is_155 rfl)
      have ce514 : h88_0 151 7 = k151_7 := c151_7_88_0
      have ce515 : h88_0 151 8 = v1 := ev1.symm
      have ce516 : h88_0 151 27 = k151_27 := c151_27_88_0
      have r167 : ∀ j : Int, h88_0 167 j = h88_0 167 j := fun _ => rfl
      have r6 := r167 6
      have r173 : ∀ j : Int, h88_0 173 j = h88_0 173 j := fun _ => rfl
      have zR9 : ∃ y c s : Int, paneR (sm h) (h 157) (h 157 (h 151 33)) (h 151 7) (h 151 27) (h 167 6) (h88_0 151 8) y c s := ⟨0, 0, 0, (wf_88_0 (by omega)).elim (fun w => Or.inr (Or.inr (Or.inr (Or.inr (Or.inr (Or.inr (w))))))) (fun w => Or.inr (Or.inl w))⟩
      have c517 := ev1.symm
      exact w_vret gz_185_95 gm_185 (k0 h88_0 (gh_88_0) (by omega) (by omega) (by first | exact n_Kf_88_0 | exact n_Ko_88_0 | exact zR9 | exact zQ9 | omega) (by first | exact n_Kf_88_0 | exact n_Ko_88_0 | exact zR9 | exact zQ9 | omega) (by first | exact n_Kf_88_0 | exact n_Ko_88_0 | exact zR9 | exact zQ9 | omega) (by first | exact n_Kf_88_0 | exact n_Ko_88_0 | exact zR9 | exact zQ9 | omega) n_Tok_88_0 n_Mq_88_0 n_Wrd_88_0 n_Wd9_88_0)
  refine w_aload_n gz_185_0 rfl ?_
  refine w_iconst gz_185_1 (by decide) ?_
  refine w_inv (k := 0) (as := [(0, 3)]) (r := []) (x := 151) (ls0 := [(2, 151), (0, 3)]) gz_185_2 gm_177 rfl is_151 rd_10 rfl rfl rfl rfl rfl (c_Model_isWord9_f0 (d := (d + 3)) (x1 := 3) (by omega) (by omega) (cf.trans (by omega)) n_Wd9 (fun w518 xp519 => ?_) (fun w520 xp521 xp522 xp523 xp524 => ?_))
  ·
    show wp l rho (d + 4) 185 5 [(2, 151), (9, 0), (9, 0), (9, 0), (9, 0), (9, 0), (9, 0), (9, 0)] [(0, 0)] h Q
    rw [show wm 3 = 4904 from by decide] at xp519
    refine w_istore_n (ls' := [(2, 151), (0, 0), (9, 0), (9, 0), (9, 0), (9, 0), (9, 0), (9, 0)]) gz_185_5 gm_185 rfl rfl rfl ?_
    refine w_aload_n gz_185_6 rfl ?_
    refine w_bipush gz_185_7 (by decide) ?_
    refine w_inv (k := 0) (as := [(0, 7)]) (r := []) (x := 151) (ls0 := [(2, 151), (0, 7)]) gz_185_9 gm_177 rfl is_151 rd_10 rfl rfl rfl rfl rfl (c_Model_isWord9_f0 (d := (d + 3)) (x1 := 7) (by omega) (by omega) (cf.trans (by omega)) n_Wd9 (fun w525 xp526 => ?_) (fun w527 xp528 xp529 xp530 xp531 => ?_))
    ·
      show wp l rho (d + 4) 185 12 [(2, 151), (0, 0), (9, 0), (9, 0), (9, 0), (9, 0), (9, 0), (9, 0)] [(0, 0)] h Q
      rw [show wm 7 = 8422 from by decide] at xp526
      refine w_istore_n (ls' := [(2, 151), (0, 0), (0, 0), (9, 0), (9, 0), (9, 0), (9, 0), (9, 0)]) gz_185_12 gm_185 rfl rfl rfl ?_
      refine w_aload_n gz_185_13 rfl ?_
      refine w_bipush gz_185_14 (by decide) ?_
      refine w_inv (k := 0) (as := [(0, 8)]) (r := []) (x := 151) (ls0 := [(2, 151), (0, 8)]) gz_185_16 gm_177 rfl is_151 rd_10 rfl rfl rfl rfl rfl (c_Model_isWord9_f0 (d := (d + 3)) (x1 := 8) (by omega) (by omega) (cf.trans (by omega)) n_Wd9 (fun w532 xp533 => ?_) (fun w534 xp535 xp536 xp537 xp538 => ?_))
      ·
        show wp l rho (d + 4) 185 19 [(2, 151), (0, 0), (0, 0), (9, 0), (9, 0), (9, 0), (9, 0), (9, 0)] [(0, 0)] h Q
        rw [show wm 8 = 527412 from by decide] at xp533
        refine w_istore_n (ls' := [(2, 151), (0, 0), (0, 0), (0, 0), (9, 0), (9, 0), (9, 0), (9, 0)]) gz_185_19 gm_185 rfl rfl rfl ?_
        refine w_aload_n gz_185_20 rfl ?_
        refine w_bipush gz_185_21 (by decide) ?_
        refine w_inv (k := 0) (as := [(0, 11)]) (r := []) (x := 151) (ls0 := [(2, 151), (0, 11)]) gz_185_23 gm_177 rfl is_151 rd_10 rfl rfl rfl rfl rfl (c_Model_isWord9_f0 (d := (d + 3)) (x1 := 11) (by omega) (by omega) (cf.trans (by omega)) n_Wd9 (fun w539 xp540 => ?_) (fun w541 xp542 xp543 xp544 xp545 => ?_))
        ·
          show wp l rho (d + 4) 185 26 [(2, 151), (0, 0), (0, 0), (0, 0), (9, 0), (9, 0), (9, 0), (9, 0)] [(0, 0)] h Q
          rw [show wm 11 = 26801 from by decide] at xp540
          refine w_istore (ls' := [(2, 151), (0, 0), (0, 0), (0, 0), (0, 0), (9, 0), (9, 0), (9, 0)]) gz_185_26 gm_185 rfl rfl rfl ?_
          refine w_iload_n gz_185_28 rfl ?_
          refine w_ifne (t := 62) gz_185_29 rfl (fun u546 => by exfalso; omega) (fun u546 => ?_)
          refine w_iload_n gz_185_32 rfl ?_
          refine w_ifne (t := 62) gz_185_33 rfl (fun u547 => by exfalso; omega) (fun u547 => ?_)
          refine w_iload_n gz_185_36 rfl ?_
          refine w_ifne (t := 62) gz_185_37 rfl (fun u548 => by exfalso; omega) (fun u548 => ?_)
          refine w_iload gz_185_40 rfl ?_
          refine w_ifne (t := 62) gz_185_42 rfl (fun u549 => by exfalso; omega) (fun u549 => ?_)
          refine w_aload_n gz_185_45 rfl ?_
          refine w_bipush gz_185_46 (by decide) ?_
          refine w_inv (k := 0) (as := [(0, 10)]) (r := []) (x := 151) (ls0 := [(2, 151), (0, 10)]) gz_185_48 gm_177 rfl is_151 rd_10 rfl rfl rfl rfl rfl (c_Model_isWord9_f0 (d := (d + 3)) (x1 := 10) (by omega) (by omega) (cf.trans (by omega)) n_Wd9 (fun w550 xp551 => ?_) (fun w552 xp553 xp554 xp555 xp556 => ?_))
          ·
            show wp l rho (d + 4) 185 51 [(2, 151), (0, 0), (0, 0), (0, 0), (0, 0), (9, 0), (9, 0), (9, 0)] [(0, 0)] h Q
            rw [show wm 10 = 316695 from by decide] at xp551
            refine w_ifne (t := 62) gz_185_51 rfl (fun u557 => by exfalso; omega) (fun u557 => ?_)
            refine w_aload_n gz_185_54 rfl ?_
            refine w_iconst gz_185_55 (by decide) ?_
            refine w_inv (k := 0) (as := [(0, 1)]) (r := []) (x := 151) (ls0 := [(2, 151), (0, 1)]) gz_185_56 gm_178 rfl is_151 rd_10 rfl rfl rfl rfl rfl ?_
            refine w_aload_n gz_178_0 rfl ?_
            refine v_getI (j := 8) gz_178_1 rfl is_151 rd_10 rfl (fun v558 ev558 pv558 qv558 => ?_)
            have zv558 := ev558.trans cf
            refine w_ifne (t := 25) gz_178_4 rfl (fun u559 => by exfalso; omega) (fun u559 => ?_)
            refine w_aload_n gz_178_7 rfl ?_
            refine w_iload_n gz_178_8 rfl ?_
            refine w_bipush gz_178_9 (by decide) ?_
            refine w_aload_n gz_178_11 rfl ?_
            refine w_getX (v := 154) gz_178_12 is_151 rd_10 rfl (by decide) rfl ?_
            refine w_aload_n gz_178_15 rfl ?_
            refine v_getI (j := 7) gz_178_16 rfl is_151 rd_10 rfl (fun v561 ev561 pv561 qv561 => ?_)
            have zv561 := ev561.trans ek151_7.symm
            refine w_iald gz_178_19 is_154 rd_53 (by omega) (by omega) (fun v562 ev562 pv562 qv562 => ?_)
            have nz563 : v562 = sP (sm h) (h 151 7) := by
              have q := ev562
              rw [show (v561 : Int) = h 151 7 from by omega] at q
              exact q
            refine w_imul gz_178_20 ⟨by omega, by omega⟩ ?_
            refine w_iadd gz_178_21 ⟨by omega, by omega⟩ ?_
            refine v_putI (j := 8) gz_178_22 rfl is_151 rd_10 rfl (by omega) (by omega) rfl (fun h564 fh564 => ?_)
            have gh564 : my_fr [(10, 7), (10, 8), (10, 27), (66, -1), (67, -1), (68, -1), (69, -1), (70, -1), (71, -1), (72, -1), (73, -1), (74, -1), (75, -1), (77, -1), (78, -1), (79, -1)] h h564 := my_fr.up my_fr.rf is_151 fh564 rfl
            have Tok_h564 : Tok h564 := Tok_ag (my_ag.up fh564 is_151 rfl) n_Tok
            have Mq_h564 : Mq h564 wv := Mq_ag (my_ag.up fh564 is_151 rfl) n_Mq
            have Wrd_h564 : Wrd h564 := Wrd_ag (my_ag.up fh564 is_151 rfl) n_Wrd
            have Wd9_h564 : Wd9 h564 := Wd9_ag (my_ag.up fh564 is_151 rfl) n_Wd9
            have Ko_h564 : Ko h h564 := Ko_ag (my_ag.up fh564 is_151 rfl) (Ko_rf)
            have AgM_h564 : my_ag MzF h h564 := AgM_ag (my_ag.up fh564 is_151 rfl) (my_ag.rf : my_ag MzF h h)
            have Ff_h564 : Ff h h564 := Ff_ag (my_ag.up fh564 is_151 rfl) (Ff_rf)
            have Kf_h564 : Kf h h564 := Kf_ag (my_ag.up fh564 is_151 rfl) (Kf_rf)
            refine w_vret gz_178_25 gm_178 ?_
            show wp l rho (d + 4) 185 59 [(2, 151), (0, 0), (0, 0), (0, 0), (0, 0), (9, 0), (9, 0), (9, 0)] [] h564 Q
            refine w_goto (t := 88) gz_185_59 rfl ?_
            have psJ : h564 151 7 = h 151 7 := ((my_up_fld fh564 (by decide)).trans (rfl : h 151 7 = h 151 7))
            have npsJ : sm h564 = sm h := sm_eq (fun j => my_fr.at gh564 is_153 rfl) (fun j => my_fr.at gh564 is_154 rfl) (fun j => my_fr.at gh564 is_155 rfl)
            have ce565 : h564 151 7 = v561 := ((my_up_fld fh564 (by decide)).trans ev561.symm)
            have ce566 : h564 151 8 = (1 + (16 * v562)) := (my_up_self fh564)
            have ce567 : h564 151 27 = k151_27 := ((my_up_fld fh564 (by decide)).trans ek151_27.symm)
            have j167 : ∀ j : Int, h564 167 j = h 167 j := fun j => ((my_up_role fh564 is_167 is_151 rfl).trans (rfl : h 167 j = h 167 j))
            have j6 := j167 6
            exact J88_0 (0) (0) (0) (0) ((1 + (16 * v562))) h564 (gh564) (by omega) (by omega) (by omega) (by omega) (by omega) (by omega) (by omega) (by omega) (by omega) (by omega) (((my_up_fld fh564 (by decide)).trans ek151_27.symm).trans (by omega)) (((my_up_fld fh564 (by decide)).trans ek151_33.symm).trans (by omega)) (((my_up_fld fh564 (by decide)).trans ev561.symm).trans (by omega)) ((my_up_self fh564).trans (by omega)) Tok_h564 Mq_h564 Wrd_h564 Wd9_h564 Ko_h564 AgM_h564 Ff_h564 Kf_h564 (by first | (intro q; exfalso; omega) | (intro _; assumption) | omega) (by first | (intro q; exfalso; omega) | (intro _ q; omega) | (intro _ q; exfalso; have w := Wrd_h564; unfold Wrd at w; omega) | omega) (by omega) (by omega) (by omega) (by first | (intro q; exfalso; omega) | (intro q; omega) | omega) (by first | (intro q; exfalso; omega) | (intro q; omega) | omega)
          ·
            show wp l rho (d + 4) 185 51 [(2, 151), (0, 0), (0, 0), (0, 0), (0, 0), (9, 0), (9, 0), (9, 0)] [(0, 1)] h Q
            rw [show wm 10 = 316695 from by decide] at xp556
            refine w_ifne (t := 62) gz_185_51 rfl (fun u568 => ?_) (fun u568 => by exfalso; omega)
            refine w_aload_n gz_185_62 rfl ?_
            refine w_bipush gz_185_63 (by decide) ?_
            refine w_inv (k := 0) (as := [(0, 10)]) (r := []) (x := 151) (ls0 := [(2, 151), (0, 10)]) gz_185_65 gm_177 rfl is_151 rd_10 rfl rfl rfl rfl rfl (c_Model_isWord9_f0 (d := (d + 3)) (x1 := 10) (by omega) (by omega) (cf.trans (by omega)) n_Wd9 (fun w569 xp570 => ?_) (fun w571 xp572 xp573 xp574 xp575 => ?_))
            ·
              show wp l rho (d + 4) 185 68 [(2, 151), (0, 0), (0, 0), (0, 0), (0, 0), (9, 0), (9, 0), (9, 0)] [(0, 0)] h Q
              rw [show wm 10 = 316695 from by decide] at xp570
              refine w_ifne (t := 88) gz_185_68 rfl (fun u576 => by exfalso; omega) (fun u576 => ?_)
              refine w_aload_n gz_185_71 rfl ?_
              refine w_getX (v := 167) gz_185_72 is_151 rd_10 rfl (by decide) rfl ?_
              refine w_bipush gz_185_75 (by decide) ?_
              refine w_iald gz_185_77 is_167 rd_66 (by omega) (by omega) (fun v578 ev578 pv578 qv578 => ?_)
              refine w_bipush gz_185_78 (by decide) ?_
              refine w_icne (t := 88) gz_185_80 rfl (fun u579 => ?_) (fun u579 => ?_)
              ·
                have psJ : h 151 7 = h 151 7 := (rfl : h 151 7 = h 151 7)
                have npsJ : sm h = sm h := rfl
                have ce580 : h 151 7 = k151_7 := ek151_7.symm
                have ce581 : h 151 8 = 0 := cf
                have ce582 : h 151 27 = k151_27 := ek151_27.symm
                have j167 : ∀ j : Int, h 167 j = h 167 j := fun _ => rfl
                have j6 := j167 6
                exact J88_0 (0) (0) (0) (0) (0) h (my_fr.rf) (by omega) (by omega) (by omega) (by omega) (by omega) (by omega) (by omega) (by omega) (by omega) (by omega) (ek151_27.symm.trans (by omega)) (ek151_33.symm.trans (by omega)) (ek151_7.symm.trans (by omega)) (cf.trans (by omega)) n_Tok n_Mq n_Wrd n_Wd9 (Ko_rf) (my_ag.rf : my_ag MzF h h) (Ff_rf) (Kf_rf) (by first | (intro q; exfalso; omega) | (intro _; assumption) | omega) (by first | (intro q; exfalso; omega) | (intro _ q; omega) | (intro _ q; exfalso; have w := n_Wrd; unfold Wrd at w; omega) | omega) (by omega) (by omega) (by omega) (by first | (intro q; exfalso; omega) | (intro q; omega) | omega) (by first | (intro q; exfalso; omega) | (intro q; omega) | omega)
              ·
                refine w_aload_n gz_185_83 rfl ?_
                refine w_iconst gz_185_84 (by decide) ?_
                refine w_inv (k := 0) (as := [(0, 5)]) (r := []) (x := 151) (ls0 := [(2, 151), (0, 5)]) gz_185_85 gm_178 rfl is_151 rd_10 rfl rfl rfl rfl rfl ?_
                refine w_aload_n gz_178_0 rfl ?_
                refine v_getI (j := 8) gz_178_1 rfl is_151 rd_10 rfl (fun v583 ev583 pv583 qv583 => ?_)
                have zv583 := ev583.trans cf
                refine w_ifne (t := 25) gz_178_4 rfl (fun u584 => by exfalso; omega) (fun u584 => ?_)
                refine w_aload_n gz_178_7 rfl ?_
                refine w_iload_n gz_178_8 rfl ?_
                refine w_bipush gz_178_9 (by decide) ?_
                refine w_aload_n gz_178_11 rfl ?_
                refine w_getX (v := 154) gz_178_12 is_151 rd_10 rfl (by decide) rfl ?_
                refine w_aload_n gz_178_15 rfl ?_
                refine v_getI (j := 7) gz_178_16 rfl is_151 rd_10 rfl (fun v586 ev586 pv586 qv586 => ?_)
                have zv586 := ev586.trans ek151_7.symm
                refine w_iald gz_178_19 is_154 rd_53 (by omega) (by omega) (fun v587 ev587 pv587 qv587 => ?_)
                have nz588 : v587 = sP (sm h) (h 151 7) := by
                  have q := ev587
                  rw [show (v586 : Int) = h 151 7 from by omega] at q
                  exact q
                refine w_imul gz_178_20 ⟨by omega, by omega⟩ ?_
                refine w_iadd gz_178_21 ⟨by omega, by omega⟩ ?_
                refine v_putI (j := 8) gz_178_22 rfl is_151 rd_10 rfl (by omega) (by omega) rfl (fun h589 fh589 => ?_)
                have gh589 : my_fr [(10, 7), (10, 8), (10, 27), (66, -1), (67, -1), (68, -1), (69, -1), (70, -1), (71, -1), (72, -1), (73, -1), (74, -1), (75, -1), (77, -1), (78, -1), (79, -1)] h h589 := my_fr.up my_fr.rf is_151 fh589 rfl
                have Tok_h589 : Tok h589 := Tok_ag (my_ag.up fh589 is_151 rfl) n_Tok
                have Mq_h589 : Mq h589 wv := Mq_ag (my_ag.up fh589 is_151 rfl) n_Mq
                have Wrd_h589 : Wrd h589 := Wrd_ag (my_ag.up fh589 is_151 rfl) n_Wrd
                have Wd9_h589 : Wd9 h589 := Wd9_ag (my_ag.up fh589 is_151 rfl) n_Wd9
                have Ko_h589 : Ko h h589 := Ko_ag (my_ag.up fh589 is_151 rfl) (Ko_rf)
                have AgM_h589 : my_ag MzF h h589 := AgM_ag (my_ag.up fh589 is_151 rfl) (my_ag.rf : my_ag MzF h h)
                have Ff_h589 : Ff h h589 := Ff_ag (my_ag.up fh589 is_151 rfl) (Ff_rf)
                have Kf_h589 : Kf h h589 := Kf_ag (my_ag.up fh589 is_151 rfl) (Kf_rf)
                refine w_vret gz_178_25 gm_178 ?_
                show wp l rho (d + 4) 185 88 [(2, 151), (0, 0), (0, 0), (0, 0), (0, 0), (9, 0), (9, 0), (9, 0)] [] h589 Q
                have psJ : h589 151 7 = h 151 7 := ((my_up_fld fh589 (by decide)).trans (rfl : h 151 7 = h 151 7))
                have npsJ : sm h589 = sm h := sm_eq (fun j => my_fr.at gh589 is_153 rfl) (fun j => my_fr.at gh589 is_154 rfl) (fun j => my_fr.at gh589 is_155 rfl)
                have ce590 : h589 151 7 = v586 := ((my_up_fld fh589 (by decide)).trans ev586.symm)
                have ce591 : h589 151 8 = (5 + (16 * v587)) := (my_up_self fh589)
                have ce592 : h589 151 27 = k151_27 := ((my_up_fld fh589 (by decide)).trans ek151_27.symm)
                have j167 : ∀ j : Int, h589 167 j = h 167 j := fun j => ((my_up_role fh589 is_167 is_151 rfl).trans (rfl : h 167 j = h 167 j))
                have j6 := j167 6
                exact J88_0 (0) (0) (0) (0) ((5 + (16 * v587))) h589 (gh589) (by omega) (by omega) (by omega) (by omega) (by omega) (by omega) (by omega) (by omega) (by omega) (by omega) (((my_up_fld fh589 (by decide)).trans ek151_27.symm).trans (by omega)) (((my_up_fld fh589 (by decide)).trans ek151_33.symm).trans (by omega)) (((my_up_fld fh589 (by decide)).trans ev586.symm).trans (by omega)) ((my_up_self fh589).trans (by omega)) Tok_h589 Mq_h589 Wrd_h589 Wd9_h589 Ko_h589 AgM_h589 Ff_h589 Kf_h589 (by first | (intro q; exfalso; omega) | (intro _; assumption) | omega) (by first | (intro q; exfalso; omega) | (intro _ q; omega) | (intro _ q; exfalso; have w := Wrd_h589; unfold Wrd at w; omega) | omega) (by omega) (by omega) (by omega) (by first | (intro q; exfalso; omega) | (intro q; omega) | omega) (by first | (intro q; exfalso; omega) | (intro q; omega) | omega)
            ·
              show wp l rho (d + 4) 185 68 [(2, 151), (0, 0), (0, 0), (0, 0), (0, 0), (9, 0), (9, 0), (9, 0)] [(0, 1)] h Q
              rw [show wm 10 = 316695 from by decide] at xp575
              refine w_ifne (t := 88) gz_185_68 rfl (fun u593 => ?_) (fun u593 => by exfalso; omega)
              have psJ : h 151 7 = h 151 7 := (rfl : h 151 7 = h 151 7)
              have npsJ : sm h = sm h := rfl
              have ce594 : h 151 7 = k151_7 := ek151_7.symm
              have ce595 : h 151 8 = 0 := cf
              have ce596 : h 151 27 = k151_27 := ek151_27.symm
              have j167 : ∀ j : Int, h 167 j = h 167 j := fun _ => rfl
              have j6 := j167 6
              exact J88_0 (0) (0) (0) (0) (0) h (my_fr.rf) (by omega) (by omega) (by omega) (by omega) (by omega) (by omega) (by omega) (by omega) (by omega) (by omega) (ek151_27.symm.trans (by omega)) (ek151_33.symm.trans (by omega)) (ek151_7.symm.trans (by omega)) (cf.trans (by omega)) n_Tok n_Mq n_Wrd n_Wd9 (Ko_rf) (my_ag.rf : my_ag MzF h h) (Ff_rf) (Kf_rf) (by first | (intro q; exfalso; omega) | (intro _; assumption) | omega) (by first | (intro q; exfalso; omega) | (intro _ q; omega) | (intro _ q; exfalso; have w := n_Wrd; unfold Wrd at w; omega) | omega) (by omega) (by omega) (by omega) (by first | (intro q; exfalso; omega) | (intro q; omega) | omega) (by first | (intro q; exfalso; omega) | (intro q; omega) | omega)
        ·
          show wp l rho (d + 4) 185 26 [(2, 151), (0, 0), (0, 0), (0, 0), (9, 0), (9, 0), (9, 0), (9, 0)] [(0, 1)] h Q
          rw [show wm 11 = 26801 from by decide] at xp545
          refine w_istore (ls' := [(2, 151), (0, 0), (0, 0), (0, 0), (0, 1), (9, 0), (9, 0), (9, 0)]) gz_185_26 gm_185 rfl rfl rfl ?_
          refine w_iload_n gz_185_28 rfl ?_
          refine w_ifne (t := 62) gz_185_29 rfl (fun u597 => by exfalso; omega) (fun u597 => ?_)
          refine w_iload_n gz_185_32 rfl ?_
          refine w_ifne (t := 62) gz_185_33 rfl (fun u598 => by exfalso; omega) (fun u598 => ?_)
          refine w_iload_n gz_185_36 rfl ?_
          refine w_ifne (t := 62) gz_185_37 rfl (fun u599 => by exfalso; omega) (fun u599 => ?_)
          refine w_iload gz_185_40 rfl ?_
          refine w_ifne (t := 62) gz_185_42 rfl (fun u600 => ?_) (fun u600 => by exfalso; omega)
          refine w_aload_n gz_185_62 rfl ?_
          refine w_bipush gz_185_63 (by decide) ?_
          refine w_inv (k := 0) (as := [(0, 10)]) (r := []) (x := 151) (ls0 := [(2, 151), (0, 10)]) gz_185_65 gm_177 rfl is_151 rd_10 rfl rfl rfl rfl rfl (c_Model_isWord9_f0 (d := (d + 3)) (x1 := 10) (by omega) (by omega) (cf.trans (by omega)) n_Wd9 (fun w601 xp602 => ?_) (fun w603 xp604 xp605 xp606 xp607 => ?_))
          ·
            show wp l rho (d + 4) 185 68 [(2, 151), (0, 0), (0, 0), (0, 0), (0, 1), (9, 0), (9, 0), (9, 0)] [(0, 0)] h Q
            rw [show wm 10 = 316695 from by decide] at xp602
            refine w_ifne (t := 88) gz_185_68 rfl (fun u608 => by exfalso; omega) (fun u608 => ?_)
            refine w_aload_n gz_185_71 rfl ?_
            refine w_getX (v := 167) gz_185_72 is_151 rd_10 rfl (by decide) rfl ?_
            refine w_bipush gz_185_75 (by decide) ?_
            refine w_iald gz_185_77 is_167 rd_66 (by omega) (by omega) (fun v610 ev610 pv610 qv610 => ?_)
            refine w_bipush gz_185_78 (by decide) ?_
            refine w_icne (t := 88) gz_185_80 rfl (fun u611 => ?_) (fun u611 => ?_)
            ·
              have psJ : h 151 7 = h 151 7 := (rfl : h 151 7 = h 151 7)
              have npsJ : sm h = sm h := rfl
              have ce612 : h 151 7 = k151_7 := ek151_7.symm
              have ce613 : h 151 8 = 0 := cf
              have ce614 : h 151 27 = k151_27 := ek151_27.symm
              have j167 : ∀ j : Int, h 167 j = h 167 j := fun _ => rfl
              have j6 := j167 6
              exact J88_0 (0) (0) (0) (1) (0) h (my_fr.rf) (by omega) (by omega) (by omega) (by omega) (by omega) (by omega) (by omega) (by omega) (by omega) (by omega) (ek151_27.symm.trans (by omega)) (ek151_33.symm.trans (by omega)) (ek151_7.symm.trans (by omega)) (cf.trans (by omega)) n_Tok n_Mq n_Wrd n_Wd9 (Ko_rf) (my_ag.rf : my_ag MzF h h) (Ff_rf) (Kf_rf) (by first | (intro q; exfalso; omega) | (intro _; assumption) | omega) (by first | (intro q; exfalso; omega) | (intro _ q; omega) | (intro _ q; exfalso; have w := n_Wrd; unfold Wrd at w; omega) | omega) (by omega) (by omega) (by omega) (by first | (intro q; exfalso; omega) | (intro q; omega) | omega) (by first | (intro q; exfalso; omega) | (intro q; omega) | omega)
            ·
              refine w_aload_n gz_185_83 rfl ?_
              refine w_iconst gz_185_84 (by decide) ?_
              refine w_inv (k := 0) (as := [(0, 5)]) (r := []) (x := 151) (ls0 := [(2, 151), (0, 5)]) gz_185_85 gm_178 rfl is_151 rd_10 rfl rfl rfl rfl rfl ?_
              refine w_aload_n gz_178_0 rfl ?_
              refine v_getI (j := 8) gz_178_1 rfl is_151 rd_10 rfl (fun v615 ev615 pv615 qv615 => ?_)
              have zv615 := ev615.trans cf
              refine w_ifne (t := 25) gz_178_4 rfl (fun u616 => by exfalso; omega) (fun u616 => ?_)
              refine w_aload_n gz_178_7 rfl ?_
              refine w_iload_n gz_178_8 rfl ?_
              refine w_bipush gz_178_9 (by decide) ?_
              refine w_aload_n gz_178_11 rfl ?_
              refine w_getX (v := 154) gz_178_12 is_151 rd_10 rfl (by decide) rfl ?_
              refine w_aload_n gz_178_15 rfl ?_
              refine v_getI (j := 7) gz_178_16 rfl is_151 rd_10 rfl (fun v618 ev618 pv618 qv618 => ?_)
              have zv618 := ev618.trans ek151_7.symm
              refine w_iald gz_178_19 is_154 rd_53 (by omega) (by omega) (fun v619 ev619 pv619 qv619 => ?_)
              have nz620 : v619 = sP (sm h) (h 151 7) := by
                have q := ev619
                rw [show (v618 : Int) = h 151 7 from by omega] at q
                exact q
              refine w_imul gz_178_20 ⟨by omega, by omega⟩ ?_
              refine w_iadd gz_178_21 ⟨by omega, by omega⟩ ?_
              refine v_putI (j := 8) gz_178_22 rfl is_151 rd_10 rfl (by omega) (by omega) rfl (fun h621 fh621 => ?_)
              have gh621 : my_fr [(10, 7), (10, 8), (10, 27), (66, -1), (67, -1), (68, -1), (69, -1), (70, -1), (71, -1), (72, -1), (73, -1), (74, -1), (75, -1), (77, -1), (78, -1), (79, -1)] h h621 := my_fr.up my_fr.rf is_151 fh621 rfl
              have Tok_h621 : Tok h621 := Tok_ag (my_ag.up fh621 is_151 rfl) n_Tok
              have Mq_h621 : Mq h621 wv := Mq_ag (my_ag.up fh621 is_151 rfl) n_Mq
              have Wrd_h621 : Wrd h621 := Wrd_ag (my_ag.up fh621 is_151 rfl) n_Wrd
              have Wd9_h621 : Wd9 h621 := Wd9_ag (my_ag.up fh621 is_151 rfl) n_Wd9
              have Ko_h621 : Ko h h621 := Ko_ag (my_ag.up fh621 is_151 rfl) (Ko_rf)
              have AgM_h621 : my_ag MzF h h621 := AgM_ag (my_ag.up fh621 is_151 rfl) (my_ag.rf : my_ag MzF h h)
              have Ff_h621 : Ff h h621 := Ff_ag (my_ag.up fh621 is_151 rfl) (Ff_rf)
              have Kf_h621 : Kf h h621 := Kf_ag (my_ag.up fh621 is_151 rfl) (Kf_rf)
              refine w_vret gz_178_25 gm_178 ?_
              show wp l rho (d + 4) 185 88 [(2, 151), (0, 0), (0, 0), (0, 0), (0, 1), (9, 0), (9, 0), (9, 0)] [] h621 Q
              have psJ : h621 151 7 = h 151 7 := ((my_up_fld fh621 (by decide)).trans (rfl : h 151 7 = h 151 7))
              have npsJ : sm h621 = sm h := sm_eq (fun j => my_fr.at gh621 is_153 rfl) (fun j => my_fr.at gh621 is_154 rfl) (fun j => my_fr.at gh621 is_155 rfl)
              have ce622 : h621 151 7 = v618 := ((my_up_fld fh621 (by decide)).trans ev618.symm)
              have ce623 : h621 151 8 = (5 + (16 * v619)) := (my_up_self fh621)
              have ce624 : h621 151 27 = k151_27 := ((my_up_fld fh621 (by decide)).trans ek151_27.symm)
              have j167 : ∀ j : Int, h621 167 j = h 167 j := fun j => ((my_up_role fh621 is_167 is_151 rfl).trans (rfl : h 167 j = h 167 j))
              have j6 := j167 6
              exact J88_0 (0) (0) (0) (1) ((5 + (16 * v619))) h621 (gh621) (by omega) (by omega) (by omega) (by omega) (by omega) (by omega) (by omega) (by omega) (by omega) (by omega) (((my_up_fld fh621 (by decide)).trans ek151_27.symm).trans (by omega)) (((my_up_fld fh621 (by decide)).trans ek151_33.symm).trans (by omega)) (((my_up_fld fh621 (by decide)).trans ev618.symm).trans (by omega)) ((my_up_self fh621).trans (by omega)) Tok_h621 Mq_h621 Wrd_h621 Wd9_h621 Ko_h621 AgM_h621 Ff_h621 Kf_h621 (by first | (intro q; exfalso; omega) | (intro _; assumption) | omega) (by first | (intro q; exfalso; omega) | (intro _ q; omega) | (intro _ q; exfalso; have w := Wrd_h621; unfold Wrd at w; omega) | omega) (by omega) (by omega) (by omega) (by first | (intro q; exfalso; omega) | (intro q; omega) | omega) (by first | (intro q; exfalso; omega) | (intro q; omega) | omega)
          ·
            show wp l rho (d + 4) 185 68 [(2, 151), (0, 0), (0, 0), (0, 0), (0, 1), (9, 0), (9, 0), (9, 0)] [(0, 1)] h Q
            rw [show wm 10 = 316695 from by decide] at xp607
            exfalso; omega
      ·
        show wp l rho (d + 4) 185 19 [(2, 151), (0, 0), (0, 0), (9, 0), (9, 0), (9, 0), (9, 0), (9, 0)] [(0, 1)] h Q
        rw [show wm 8 = 527412 from by decide] at xp538
        refine w_istore_n (ls' := [(2, 151), (0, 0), (0, 0), (0, 1), (9, 0), (9, 0), (9, 0), (9, 0)]) gz_185_19 gm_185 rfl rfl rfl ?_
        refine w_aload_n gz_185_20 rfl ?_
        refine w_bipush gz_185_21 (by decide) ?_
        refine w_inv (k := 0) (as := [(0, 11)]) (r := []) (x := 151) (ls0 := [(2, 151), (0, 11)]) gz_185_23 gm_177 rfl is_151 rd_10 rfl rfl rfl rfl rfl (c_Model_isWord9_f0 (d := (d + 3)) (x1 := 11) (by omega) (by omega) (cf.trans (by omega)) n_Wd9 (fun w625 xp626 => ?_) (fun w627 xp628 xp629 xp630 xp631 => ?_))
        ·
          show wp l rho (d + 4) 185 26 [(2, 151), (0, 0), (0, 0), (0, 1), (9, 0), (9, 0), (9, 0), (9, 0)] [(0, 0)] h Q
          rw [show wm 11 = 26801 from by decide] at xp626
          refine w_istore (ls' := [(2, 151), (0, 0), (0, 0), (0, 1), (0, 0), (9, 0), (9, 0), (9, 0)]) gz_185_26 gm_185 rfl rfl rfl ?_
          refine w_iload_n gz_185_28 rfl ?_
          refine w_ifne (t := 62) gz_185_29 rfl (fun u632 => by exfalso; omega) (fun u632 => ?_)
          refine w_iload_n gz_185_32 rfl ?_
          refine w_ifne (t := 62) gz_185_33 rfl (fun u633 => by exfalso; omega) (fun u633 => ?_)
          refine w_iload_n gz_185_36 rfl ?_
          refine w_ifne (t := 62) gz_185_37 rfl (fun u634 => ?_) (fun u634 => by exfalso; omega)
          refine w_aload_n gz_185_62 rfl ?_
          refine w_bipush gz_185_63 (by decide) ?_
          refine w_inv (k := 0) (as := [(0, 10)]) (r := []) (x := 151) (ls0 := [(2, 151), (0, 10)]) gz_185_65 gm_177 rfl is_151 rd_10 rfl rfl rfl rfl rfl (c_Model_isWord9_f0 (d := (d + 3)) (x1 := 10) (by omega) (by omega) (cf.trans (by omega)) n_Wd9 (fun w635 xp636 => ?_) (fun w637 xp638 xp639 xp640 xp641 => ?_))
          ·
            show wp l rho (d + 4) 185 68 [(2, 151), (0, 0), (0, 0), (0, 1), (0, 0), (9, 0), (9, 0), (9, 0)] [(0, 0)] h Q
            rw [show wm 10 = 316695 from by decide] at xp636
            refine w_ifne (t := 88) gz_185_68 rfl (fun u642 => by exfalso; omega) (fun u642 => ?_)
            refine w_aload_n gz_185_71 rfl ?_
            refine w_getX (v := 167) gz_185_72 is_151 rd_10 rfl (by decide) rfl ?_
            refine w_bipush gz_185_75 (by decide) ?_
            refine w_iald gz_185_77 is_167 rd_66 (by omega) (by omega) (fun v644 ev644 pv644 qv644 => ?_)
            refine w_bipush gz_185_78 (by decide) ?_
            refine w_icne (t := 88) gz_185_80 rfl (fun u645 => ?_) (fun u645 => ?_)
            ·
              have psJ : h 151 7 = h 151 7 := (rfl : h 151 7 = h 151 7)
              have npsJ : sm h = sm h := rfl
              have ce646 : h 151 7 = k151_7 := ek151_7.symm
              have ce647 : h 151 8 = 0 := cf
              have ce648 : h 151 27 = k151_27 := ek151_27.symm
              have j167 : ∀ j : Int, h 167 j = h 167 j := fun _ => rfl
              have j6 := j167 6
              exact J88_0 (0) (0) (1) (0) (0) h (my_fr.rf) (by omega) (by omega) (by omega) (by omega) (by omega) (by omega) (by omega) (by omega) (by omega) (by omega) (ek151_27.symm.trans (by omega)) (ek151_33.symm.trans (by omega)) (ek151_7.symm.trans (by omega)) (cf.trans (by omega)) n_Tok n_Mq n_Wrd n_Wd9 (Ko_rf) (my_ag.rf : my_ag MzF h h) (Ff_rf) (Kf_rf) (by first | (intro q; exfalso; omega) | (intro _; assumption) | omega) (by first | (intro q; exfalso; omega) | (intro _ q; omega) | (intro _ q; exfalso; have w := n_Wrd; unfold Wrd at w; omega) | omega) (by omega) (by omega) (by omega) (by first | (intro q; exfalso; omega) | (intro q; omega) | omega) (by first | (intro q; exfalso; omega) | (intro q; omega) | omega)
            ·
              refine w_aload_n gz_185_83 rfl ?_
              refine w_iconst gz_185_84 (by decide) ?_
              refine w_inv (k := 0) (as := [(0, 5)]) (r := []) (x := 151) (ls0 := [(2, 151), (0, 5)]) gz_185_85 gm_178 rfl is_151 rd_10 rfl rfl rfl rfl rfl ?_
              refine w_aload_n gz_178_0 rfl ?_
              refine v_getI (j := 8) gz_178_1 rfl is_151 rd_10 rfl (fun v649 ev649 pv649 qv649 => ?_)
              have zv649 := ev649.trans cf
              refine w_ifne (t := 25) gz_178_4 rfl (fun u650 => by exfalso; omega) (fun u650 => ?_)
              refine w_aload_n gz_178_7 rfl ?_
              refine w_iload_n gz_178_8 rfl ?_
              refine w_bipush gz_178_9 (by decide) ?_
              refine w_aload_n gz_178_11 rfl ?_
              refine w_getX (v := 154) gz_178_12 is_151 rd_10 rfl (by decide) rfl ?_
              refine w_aload_n gz_178_15 rfl ?_
              refine v_getI (j := 7) gz_178_16 rfl is_151 rd_10 rfl (fun v652 ev652 pv652 qv652 => ?_)
              have zv652 := ev652.trans ek151_7.symm
              refine w_iald gz_178_19 is_154 rd_53 (by omega) (by omega) (fun v653 ev653 pv653 qv653 => ?_)
              have nz654 : v653 = sP (sm h) (h 151 7) := by
                have q := ev653
                rw [show (v652 : Int) = h 151 7 from by omega] at q
                exact q
              refine w_imul gz_178_20 ⟨by omega, by omega⟩ ?_
              refine w_iadd gz_178_21 ⟨by omega, by omega⟩ ?_
              refine v_putI (j := 8) gz_178_22 rfl is_151 rd_10 rfl (by omega) (by omega) rfl (fun h655 fh655 => ?_)
              have gh655 : my_fr [(10, 7), (10, 8), (10, 27), (66, -1), (67, -1), (68, -1), (69, -1), (70, -1), (71, -1), (72, -1), (73, -1), (74, -1), (75, -1), (77, -1), (78, -1), (79, -1)] h h655 := my_fr.up my_fr.rf is_151 fh655 rfl
              have Tok_h655 : Tok h655 := Tok_ag (my_ag.up fh655 is_151 rfl) n_Tok
              have Mq_h655 : Mq h655 wv := Mq_ag (my_ag.up fh655 is_151 rfl) n_Mq
              have Wrd_h655 : Wrd h655 := Wrd_ag (my_ag.up fh655 is_151 rfl) n_Wrd
              have Wd9_h655 : Wd9 h655 := Wd9_ag (my_ag.up fh655 is_151 rfl) n_Wd9
              have Ko_h655 : Ko h h655 := Ko_ag (my_ag.up fh655 is_151 rfl) (Ko_rf)
              have AgM_h655 : my_ag MzF h h655 := AgM_ag (my_ag.up fh655 is_151 rfl) (my_ag.rf : my_ag MzF h h)
              have Ff_h655 : Ff h h655 := Ff_ag (my_ag.up fh655 is_151 rfl) (Ff_rf)
              have Kf_h655 : Kf h h655 := Kf_ag (my_ag.up fh655 is_151 rfl) (Kf_rf)
              refine w_vret gz_178_25 gm_178 ?_
              show wp l rho (d + 4) 185 88 [(2, 151), (0, 0), (0, 0), (0, 1), (0, 0), (9, 0), (9, 0), (9, 0)] [] h655 Q
              have psJ : h655 151 7 = h 151 7 := ((my_up_fld fh655 (by decide)).trans (rfl : h 151 7 = h 151 7))
              have npsJ : sm h655 = sm h := sm_eq (fun j => my_fr.at gh655 is_153 rfl) (fun j => my_fr.at gh655 is_154 rfl) (fun j => my_fr.at gh655 is_155 rfl)
              have ce656 : h655 151 7 = v652 := ((my_up_fld fh655 (by decide)).trans ev652.symm)
              have ce657 : h655 151 8 = (5 + (16 * v653)) := (my_up_self fh655)
              have ce658 : h655 151 27 = k151_27 := ((my_up_fld fh655 (by decide)).trans ek151_27.symm)
              have j167 : ∀ j : Int, h655 167 j = h 167 j := fun j => ((my_up_role fh655 is_167 is_151 rfl).trans (rfl : h 167 j = h 167 j))
              have j6 := j167 6
              exact J88_0 (0) (0) (1) (0) ((5 + (16 * v653))) h655 (gh655) (by omega) (by omega) (by omega) (by omega) (by omega) (by omega) (by omega) (by omega) (by omega) (by omega) (((my_up_fld fh655 (by decide)).trans ek151_27.symm).trans (by omega)) (((my_up_fld fh655 (by decide)).trans ek151_33.symm).trans (by omega)) (((my_up_fld fh655 (by decide)).trans ev652.symm).trans (by omega)) ((my_up_self fh655).trans (by omega)) Tok_h655 Mq_h655 Wrd_h655 Wd9_h655 Ko_h655 AgM_h655 Ff_h655 Kf_h655 (by first | (intro q; exfalso; omega) | (intro _; assumption) | omega) (by first | (intro q; exfalso; omega) | (intro _ q; omega) | (intro _ q; exfalso; have w := Wrd_h655; unfold Wrd at w; omega) | omega) (by omega) (by omega) (by omega) (by first | (intro q; exfalso; omega) | (intro q; omega) | omega) (by first | (intro q; exfalso; omega) | (intro q; omega) | omega)
          ·
            show wp l rho (d + 4) 185 68 [(2, 151), (0, 0), (0, 0), (0, 1), (0, 0), (9, 0), (9, 0), (9, 0)] [(0, 1)] h Q
            rw [show wm 10 = 316695 from by decide] at xp641
            exfalso; omega
        ·
          show wp l rho (d + 4) 185 26 [(2, 151), (0, 0), (0, 0), (0, 1), (9, 0), (9, 0), (9, 0), (9, 0)] [(0, 1)] h Q
          rw [show wm 11 = 26801 from by decide] at xp631
          exfalso; omega
    ·
      show wp l rho (d + 4) 185 12 [(2, 151), (0, 0), (9, 0), (9, 0), (9, 0), (9, 0), (9, 0), (9, 0)] [(0, 1)] h Q
      rw [show wm 7 = 8422 from by decide] at xp531
      refine w_istore_n (ls' := [(2, 151), (0, 0), (0, 1), (9, 0), (9, 0), (9, 0), (9, 0), (9, 0)]) gz_185_12 gm_185 rfl rfl rfl ?_
      refine w_aload_n gz_185_13 rfl ?_
      refine w_bipush gz_185_14 (by decide) ?_
      refine w_inv (k := 0) (as := [(0, 8)]) (r := []) (x := 151) (ls0 := [(2, 151), (0, 8)]) gz_185_16 gm_177 rfl is_151 rd_10 rfl rfl rfl rfl rfl (c_Model_isWord9_f0 (d := (d + 3)) (x1 := 8) (by omega) (by omega) (cf.trans (by omega)) n_Wd9 (fun w659 xp660 => ?_) (fun w661 xp662 xp663 xp664 xp665 => ?_))
      ·
        show wp l rho (d + 4) 185 19 [(2, 151), (0, 0), (0, 1), (9, 0), (9, 0), (9, 0), (9, 0), (9, 0)] [(0, 0)] h Q
        rw [show wm 8 = 527412 from by decide] at xp660
        refine w_istore_n (ls' := [(2, 151), (0, 0), (0, 1), (0, 0), (9, 0), (9, 0), (9, 0), (9, 0)]) gz_185_19 gm_185 rfl rfl rfl ?_
        refine w_aload_n gz_185_20 rfl ?_
        refine w_bipush gz_185_21 (by decide) ?_
        refine w_inv (k := 0) (as := [(0, 11)]) (r := []) (x := 151) (ls0 := [(2, 151), (0, 11)]) gz_185_23 gm_177 rfl is_151 rd_10 rfl rfl rfl rfl rfl (c_Model_isWord9_f0 (d := (d + 3)) (x1 := 11) (by omega) (by omega) (cf.trans (by omega)) n_Wd9 (fun w666 xp667 => ?_) (fun w668 xp669 xp670 xp671 xp672 => ?_))
        ·
          show wp l rho (d + 4) 185 26 [(2, 151), (0, 0), (0, 1), (0, 0), (9, 0), (9, 0), (9, 0), (9, 0)] [(0, 0)] h Q
          rw [show wm 11 = 26801 from by decide] at xp667
          refine w_istore (ls' := [(2, 151), (0, 0), (0, 1), (0, 0), (0, 0), (9, 0), (9, 0), (9, 0)]) gz_185_26 gm_185 rfl rfl rfl ?_
          refine w_iload_n gz_185_28 rfl ?_
          refine w_ifne (t := 62) gz_185_29 rfl (fun u673 => by exfalso; omega) (fun u673 => ?_)
          refine w_iload_n gz_185_32 rfl ?_
          refine w_ifne (t := 62) gz_185_33 rfl (fun u674 => ?_) (fun u674 => by exfalso; omega)
          refine w_aload_n gz_185_62 rfl ?_
          refine w_bipush gz_185_63 (by decide) ?_
          refine w_inv (k := 0) (as := [(0, 10)]) (r := []) (x := 151) (ls0 := [(2, 151), (0, 10)]) gz_185_65 gm_177 rfl is_151 rd_10 rfl rfl rfl rfl rfl (c_Model_isWord9_f0 (d := (d + 3)) (x1 := 10) (by omega) (by omega) (cf.trans (by omega)) n_Wd9 (fun w675 xp676 => ?_) (fun w677 xp678 xp679 xp680 xp681 => ?_))
          ·
            show wp l rho (d + 4) 185 68 [(2, 151), (0, 0), (0, 1), (0, 0), (0, 0), (9, 0), (9, 0), (9, 0)] [(0, 0)] h Q
            rw [show wm 10 = 316695 from by decide] at xp676
            refine w_ifne (t := 88) gz_185_68 rfl (fun u682 => by exfalso; omega) (fun u682 => ?_)
            refine w_aload_n gz_185_71 rfl ?_
            refine w_getX (v := 167) gz_185_72 is_151 rd_10 rfl (by decide) rfl ?_
            refine w_bipush gz_185_75 (by decide) ?_
            refine w_iald gz_185_77 is_167 rd_66 (by omega) (by omega) (fun v684 ev684 pv684 qv684 => ?_)
            refine w_bipush gz_185_78 (by decide) ?_
            refine w_icne (t := 88) gz_185_80 rfl (fun u685 => ?_) (fun u685 => ?_)
            ·
              have psJ : h 151 7 = h 151 7 := (rfl : h 151 7 = h 151 7)
              have npsJ : sm h = sm h := rfl
              have ce686 : h 151 7 = k151_7 := ek151_7.symm
              have ce687 : h 151 8 = 0 := cf
              have ce688 : h 151 27 = k151_27 := ek151_27.symm
              have j167 : ∀ j : Int, h 167 j = h 167 j := fun _ => rfl
              have j6 := j167 6
              exact J88_0 (0) (1) (0) (0) (0) h (my_fr.rf) (by omega) (by omega) (by omega) (by omega) (by omega) (by omega) (by omega) (by omega) (by omega) (by omega) (ek151_27.symm.trans (by omega)) (ek151_33.symm.trans (by omega)) (ek151_7.symm.trans (by omega)) (cf.trans (by omega)) n_Tok n_Mq n_Wrd n_Wd9 (Ko_rf) (my_ag.rf : my_ag MzF h h) (Ff_rf) (Kf_rf) (by first | (intro q; exfalso; omega) | (intro _; assumption) | omega) (by first | (intro q; exfalso; omega) | (intro _ q; omega) | (intro _ q; exfalso; have w := n_Wrd; unfold Wrd at w; omega) | omega) (by omega) (by omega) (by omega) (by first | (intro q; exfalso; omega) | (intro q; omega) | omega) (by first | (intro q; exfalso; omega) | (intro q; omega) | omega)
            ·
              refine w_aload_n gz_185_83 rfl ?_
              refine w_iconst gz_185_84 (by decide) ?_
              refine w_inv (k := 0) (as := [(0, 5)]) (r := []) (x := 151) (ls0 := [(2, 151), (0, 5)]) gz_185_85 gm_178 rfl is_151 rd_10 rfl rfl rfl rfl rfl ?_
              refine w_aload_n gz_178_0 rfl ?_
              refine v_getI (j := 8) gz_178_1 rfl is_151 rd_10 rfl (fun v689 ev689 pv689 qv689 => ?_)
              have zv689 := ev689.trans cf
              refine w_ifne (t := 25) gz_178_4 rfl (fun u690 => by exfalso; omega) (fun u690 => ?_)
              refine w_aload_n gz_178_7 rfl ?_
              refine w_iload_n gz_178_8 rfl ?_
              refine w_bipush gz_178_9 (by decide) ?_
              refine w_aload_n gz_178_11 rfl ?_
              refine w_getX (v := 154) gz_178_12 is_151 rd_10 rfl (by decide) rfl ?_
              refine w_aload_n gz_178_15 rfl ?_
              refine v_getI (j := 7) gz_178_16 rfl is_151 rd_10 rfl (fun v692 ev692 pv692 qv692 => ?_)
              have zv692 := ev692.trans ek151_7.symm
              refine w_iald gz_178_19 is_154 rd_53 (by omega) (by omega) (fun v693 ev693 pv693 qv693 => ?_)
              have nz694 : v693 = sP (sm h) (h 151 7) := by
                have q := ev693
                rw [show (v692 : Int) = h 151 7 from by omega] at q
                exact q
              refine w_imul gz_178_20 ⟨by omega, by omega⟩ ?_
              refine w_iadd gz_178_21 ⟨by omega, by omega⟩ ?_
              refine v_putI (j := 8) gz_178_22 rfl is_151 rd_10 rfl (by omega) (by omega) rfl (fun h695 fh695 => ?_)
              have gh695 : my_fr [(10, 7), (10, 8), (10, 27), (66, -1), (67, -1), (68, -1), (69, -1), (70, -1), (71, -1), (72, -1), (73, -1), (74, -1), (75, -1), (77, -1), (78, -1), (79, -1)] h h695 := my_fr.up my_fr.rf is_151 fh695 rfl
              have Tok_h695 : Tok h695 := Tok_ag (my_ag.up fh695 is_151 rfl) n_Tok
              have Mq_h695 : Mq h695 wv := Mq_ag (my_ag.up fh695 is_151 rfl) n_Mq
              have Wrd_h695 : Wrd h695 := Wrd_ag (my_ag.up fh695 is_151 rfl) n_Wrd
              have Wd9_h695 : Wd9 h695 := Wd9_ag (my_ag.up fh695 is_151 rfl) n_Wd9
              have Ko_h695 : Ko h h695 := Ko_ag (my_ag.up fh695 is_151 rfl) (Ko_rf)
              have AgM_h695 : my_ag MzF h h695 := AgM_ag (my_ag.up fh695 is_151 rfl) (my_ag.rf : my_ag MzF h h)
              have Ff_h695 : Ff h h695 := Ff_ag (my_ag.up fh695 is_151 rfl) (Ff_rf)
              have Kf_h695 : Kf h h695 := Kf_ag (my_ag.up fh695 is_151 rfl) (Kf_rf)
              refine w_vret gz_178_25 gm_178 ?_
              show wp l rho (d + 4) 185 88 [(2, 151), (0, 0), (0, 1), (0, 0), (0, 0), (9, 0), (9, 0), (9, 0)] [] h695 Q
              have psJ : h695 151 7 = h 151 7 := ((my_up_fld fh695 (by decide)).trans (rfl : h 151 7 = h 151 7))
              have npsJ : sm h695 = sm h := sm_eq (fun j => my_fr.at gh695 is_153 rfl) (fun j => my_fr.at gh695 is_154 rfl) (fun j => my_fr.at gh695 is_155 rfl)
              have ce696 : h695 151 7 = v692 := ((my_up_fld fh695 (by decide)).trans ev692.symm)
              have ce697 : h695 151 8 = (5 + (16 * v693)) := (my_up_self fh695)
              have ce698 : h695 151 27 = k151_27 := ((my_up_fld fh695 (by decide)).trans ek151_27.symm)
              have j167 : ∀ j : Int, h695 167 j = h 167 j := fun j => ((my_up_role fh695 is_167 is_151 rfl).trans (rfl : h 167 j = h 167 j))
              have j6 := j167 6
              exact J88_0 (0) (1) (0) (0) ((5 + (16 * v693))) h695 (gh695) (by omega) (by omega) (by omega) (by omega) (by omega) (by omega) (by omega) (by omega) (by omega) (by omega) (((my_up_fld fh695 (by decide)).trans ek151_27.symm).trans (by omega)) (((my_up_fld fh695 (by decide)).trans ek151_33.symm).trans (by omega)) (((my_up_fld fh695 (by decide)).trans ev692.symm).trans (by omega)) ((my_up_self fh695).trans (by omega)) Tok_h695 Mq_h695 Wrd_h695 Wd9_h695 Ko_h695 AgM_h695 Ff_h695 Kf_h695 (by first | (intro q; exfalso; omega) | (intro _; assumption) | omega) (by first | (intro q; exfalso; omega) | (intro _ q; omega) | (intro _ q; exfalso; have w := Wrd_h695; unfold Wrd at w; omega) | omega) (by omega) (by omega) (by omega) (by first | (intro q; exfalso; omega) | (intro q; omega) | omega) (by first | (intro q; exfalso; omega) | (intro q; omega) | omega)
          ·
            show wp l rho (d + 4) 185 68 [(2, 151), (0, 0), (0, 1), (0, 0), (0, 0), (9, 0), (9, 0), (9, 0)] [(0, 1)] h Q
            rw [show wm 10 = 316695 from by decide] at xp681
            exfalso; omega
        ·
          show wp l rho (d + 4) 185 26 [(2, 151), (0, 0), (0, 1), (0, 0), (9, 0), (9, 0), (9, 0), (9, 0)] [(0, 1)] h Q
          rw [show wm 11 = 26801 from by decide] at xp672
          exfalso; omega
      ·
        show wp l rho (d + 4) 185 19 [(2, 151), (0, 0), (0, 1), (9, 0), (9, 0), (9, 0), (9, 0), (9, 0)] [(0, 1)] h Q
        rw [show wm 8 = 527412 from by decide] at xp665
        exfalso; omega
  ·
    show wp l rho (d + 4) 185 5 [(2, 151), (9, 0), (9, 0), (9, 0), (9, 0), (9, 0), (9, 0), (9, 0)] [(0, 1)] h Q
    rw [show wm 3 = 4904 from by decide] at xp524
    refine w_istore_n (ls' := [(2, 151), (0, 1), (9, 0), (9, 0), (9, 0), (9, 0), (9, 0), (9, 0)]) gz_185_5 gm_185 rfl rfl rfl ?_
    refine w_aload_n gz_185_6 rfl ?_
    refine w_bipush gz_185_7 (by decide) ?_
    refine w_inv (k := 0) (as := [(0, 7)]) (r := []) (x := 151) (ls0 := [(2, 151), (0, 7)]) gz_185_9 gm_177 rfl is_151 rd_10 rfl rfl rfl rfl rfl (c_Model_isWord9_f0 (d := (d + 3)) (x1 := 7) (by omega) (by omega) (cf.trans (by omega)) n_Wd9 (fun w699 xp700 => ?_) (fun w701 xp702 xp703 xp704 xp705 => ?_))
    ·
      show wp l rho (d + 4) 185 12 [(2, 151), (0, 1), (9, 0), (9, 0), (9, 0), (9, 0), (9, 0), (9, 0)] [(0, 0)] h Q
      rw [show wm 7 = 8422 from by decide] at xp700
      refine w_istore_n (ls' := [(2, 151), (0, 1), (0, 0), (9, 0), (9, 0), (9, 0), (9, 0), (9, 0)]) gz_185_12 gm_185 rfl rfl rfl ?_
      refine w_aload_n gz_185_13 rfl ?_
      refine w_bipush gz_185_14 (by decide) ?_
      refine w_inv (k := 0) (as := [(0, 8)]) (r := []) (x := 151) (ls0 := [(2, 151), (0, 8)]) gz_185_16 gm_177 rfl is_151 rd_10 rfl rfl rfl rfl rfl (c_Model_isWord9_f0 (d := (d + 3)) (x1 := 8) (by omega) (by omega) (cf.trans (by omega)) n_Wd9 (fun w706 xp707 => ?_) (fun w708 xp709 xp710 xp711 xp712 => ?_))
      ·
        show wp l rho (d + 4) 185 19 [(2, 151), (0, 1), (0, 0), (9, 0), (9, 0), (9, 0), (9, 0), (9, 0)] [(0, 0)] h Q
        rw [show wm 8 = 527412 from by decide] at xp707
        refine w_istore_n (ls' := [(2, 151), (0, 1), (0, 0), (0, 0), (9, 0), (9, 0), (9, 0), (9, 0)]) gz_185_19 gm_185 rfl rfl rfl ?_
        refine w_aload_n gz_185_20 rfl ?_
        refine w_bipush gz_185_21 (by decide) ?_
        refine w_inv (k := 0) (as := [(0, 11)]) (r := []) (x := 151) (ls0 := [(2, 151), (0, 11)]) gz_185_23 gm_177 rfl is_151 rd_10 rfl rfl rfl rfl rfl (c_Model_isWord9_f0 (d := (d + 3)) (x1 := 11) (by omega) (by omega) (cf.trans (by omega)) n_Wd9 (fun w713 xp714 => ?_) (fun w715 xp716 xp717 xp718 xp719 => ?_))
        ·
          show wp l rho (d + 4) 185 26 [(2, 151), (0, 1), (0, 0), (0, 0), (9, 0), (9, 0), (9, 0), (9, 0)] [(0, 0)] h Q
          rw [show wm 11 = 26801 from by decide] at xp714
          refine w_istore (ls' := [(2, 151), (0, 1), (0, 0), (0, 0), (0, 0), (9, 0), (9, 0), (9, 0)]) gz_185_26 gm_185 rfl rfl rfl ?_
          refine w_iload_n gz_185_28 rfl ?_
          refine w_ifne (t := 62) gz_185_29 rfl (fun u720 => ?_) (fun u720 => by exfalso; omega)
          refine w_aload_n gz_185_62 rfl ?_
          refine w_bipush gz_185_63 (by decide) ?_
          refine w_inv (k := 0) (as := [(0, 10)]) (r := []) (x := 151) (ls0 := [(2, 151), (0, 10)]) gz_185_65 gm_177 rfl is_151 rd_10 rfl rfl rfl rfl rfl (c_Model_isWord9_f0 (d := (d + 3)) (x1 := 10) (by omega) (by omega) (cf.trans (by omega)) n_Wd9 (fun w721 xp722 => ?_) (fun w723 xp724 xp725 xp726 xp727 => ?_))
          ·
            show wp l rho (d + 4) 185 68 [(2, 151), (0, 1), (0, 0), (0, 0), (0, 0), (9, 0), (9, 0), (9, 0)] [(0, 0)] h Q
            rw [show wm 10 = 316695 from by decide] at xp722
            refine w_ifne (t := 88) gz_185_68 rfl (fun u728 => by exfalso; omega) (fun u728 => ?_)
            refine w_aload_n gz_185_71 rfl ?_
            refine w_getX (v := 167) gz_185_72 is_151 rd_10 rfl (by decide) rfl ?_
            refine w_bipush gz_185_75 (by decide) ?_
            refine w_iald gz_185_77 is_167 rd_66 (by omega) (by omega) (fun v730 ev730 pv730 qv730 => ?_)
            refine w_bipush gz_185_78 (by decide) ?_
            refine w_icne (t := 88) gz_185_80 rfl (fun u731 => ?_) (fun u731 => ?_)
            ·
              have psJ : h 151 7 = h 151 7 := (rfl : h 151 7 = h 151 7)
              have npsJ : sm h = sm h := rfl
              have ce732 : h 151 7 = k151_7 := ek151_7.symm
              have ce733 : h 151 8 = 0 := cf
              have ce734 : h 151 27 = k151_27 := ek151_27.symm
              have j167 : ∀ j : Int, h 167 j = h 167 j := fun _ => rfl
              have j6 := j167 6
              exact J88_0 (1) (0) (0) (0) (0) h (my_fr.rf) (by omega) (by omega) (by omega) (by omega) (by omega) (by omega) (by omega) (by omega) (by omega) (by omega) (ek151_27.symm.trans (by omega)) (ek151_33.symm.trans (by omega)) (ek151_7.symm.trans (by omega)) (cf.trans (by omega)) n_Tok n_Mq n_Wrd n_Wd9 (Ko_rf) (my_ag.rf : my_ag MzF h h) (Ff_rf) (Kf_rf) (by first | (intro q; exfalso; omega) | (intro _; assumption) | omega) (by first | (intro q; exfalso; omega) | (intro _ q; omega) | (intro _ q; exfalso; have w := n_Wrd; unfold Wrd at w; omega) | omega) (by omega) (by omega) (by omega) (by first | (intro q; exfalso; omega) | (intro q; omega) | omega) (by first | (intro q; exfalso; omega) | (intro q; omega) | omega)
            ·
              refine w_aload_n gz_185_83 rfl ?_
              refine w_iconst gz_185_84 (by decide) ?_
              refine w_inv (k := 0) (as := [(0, 5)]) (r := []) (x := 151) (ls0 := [(2, 151), (0, 5)]) gz_185_85 gm_178 rfl is_151 rd_10 rfl rfl rfl rfl rfl ?_
              refine w_aload_n gz_178_0 rfl ?_
              refine v_getI (j := 8) gz_178_1 rfl is_151 rd_10 rfl (fun v735 ev735 pv735 qv735 => ?_)
              have zv735 := ev735.trans cf
              refine w_ifne (t := 25) gz_178_4 rfl (fun u736 => by exfalso; omega) (fun u736 => ?_)
              refine w_aload_n gz_178_7 rfl ?_
              refine w_iload_n gz_178_8 rfl ?_
              refine w_bipush gz_178_9 (by decide) ?_
              refine w_aload_n gz_178_11 rfl ?_
              refine w_getX (v := 154) gz_178_12 is_151 rd_10 rfl (by decide) rfl ?_
              refine w_aload_n gz_178_15 rfl ?_
              refine v_getI (j := 7) gz_178_16 rfl is_151 rd_10 rfl (fun v738 ev738 pv738 qv738 => ?_)
              have zv738 := ev738.trans ek151_7.symm
              refine w_iald gz_178_19 is_154 rd_53 (by omega) (by omega) (fun v739 ev739 pv739 qv739 => ?_)
              have nz740 : v739 = sP (sm h) (h 151 7) := by
                have q := ev739
                rw [show (v738 : Int) = h 151 7 from by omega] at q
                exact q
              refine w_imul gz_178_20 ⟨by omega, by omega⟩ ?_
              refine w_iadd gz_178_21 ⟨by omega, by omega⟩ ?_
              refine v_putI (j := 8) gz_178_22 rfl is_151 rd_10 rfl (by omega) (by omega) rfl (fun h741 fh741 => ?_)
              have gh741 : my_fr [(10, 7), (10, 8), (10, 27), (66, -1), (67, -1), (68, -1), (69, -1), (70, -1), (71, -1), (72, -1), (73, -1), (74, -1), (75, -1), (77, -1), (78, -1), (79, -1)] h h741 := my_fr.up my_fr.rf is_151 fh741 rfl
              have Tok_h741 : Tok h741 := Tok_ag (my_ag.up fh741 is_151 rfl) n_Tok
              have Mq_h741 : Mq h741 wv := Mq_ag (my_ag.up fh741 is_151 rfl) n_Mq
              have Wrd_h741 : Wrd h741 := Wrd_ag (my_ag.up fh741 is_151 rfl) n_Wrd
              have Wd9_h741 : Wd9 h741 := Wd9_ag (my_ag.up fh741 is_151 rfl) n_Wd9
              have Ko_h741 : Ko h h741 := Ko_ag (my_ag.up fh741 is_151 rfl) (Ko_rf)
              have AgM_h741 : my_ag MzF h h741 := AgM_ag (my_ag.up fh741 is_151 rfl) (my_ag.rf : my_ag MzF h h)
              have Ff_h741 : Ff h h741 := Ff_ag (my_ag.up fh741 is_151 rfl) (Ff_rf)
              have Kf_h741 : Kf h h741 := Kf_ag (my_ag.up fh741 is_151 rfl) (Kf_rf)
              refine w_vret gz_178_25 gm_178 ?_
              show wp l rho (d + 4) 185 88 [(2, 151), (0, 1), (0, 0), (0, 0), (0, 0), (9, 0), (9, 0), (9, 0)] [] h741 Q
              have psJ : h741 151 7 = h 151 7 := ((my_up_fld fh741 (by decide)).trans (rfl : h 151 7 = h 151 7))
              have npsJ : sm h741 = sm h := sm_eq (fun j => my_fr.at gh741 is_153 rfl) (fun j => my_fr.at gh741 is_154 rfl) (fun j => my_fr.at gh741 is_155 rfl)
              have ce742 : h741 151 7 = v738 := ((my_up_fld fh741 (by decide)).trans ev738.symm)
              have ce743 : h741 151 8 = (5 + (16 * v739)) := (my_up_self fh741)
              have ce744 : h741 151 27 = k151_27 := ((my_up_fld fh741 (by decide)).trans ek151_27.symm)
              have j167 : ∀ j : Int, h741 167 j = h 167 j := fun j => ((my_up_role fh741 is_167 is_151 rfl).trans (rfl : h 167 j = h 167 j))
              have j6 := j167 6
              exact J88_0 (1) (0) (0) (0) ((5 + (16 * v739))) h741 (gh741) (by omega) (by omega) (by omega) (by omega) (by omega) (by omega) (by omega) (by omega) (by omega) (by omega) (((my_up_fld fh741 (by decide)).trans ek151_27.symm).trans (by omega)) (((my_up_fld fh741 (by decide)).trans ek151_33.symm).trans (by omega)) (((my_up_fld fh741 (by decide)).trans ev738.symm).trans (by omega)) ((my_up_self fh741).trans (by omega)) Tok_h741 Mq_h741 Wrd_h741 Wd9_h741 Ko_h741 AgM_h741 Ff_h741 Kf_h741 (by first | (intro q; exfalso; omega) | (intro _; assumption) | omega) (by first | (intro q; exfalso; omega) | (intro _ q; omega) | (intro _ q; exfalso; have w := Wrd_h741; unfold Wrd at w; omega) | omega) (by omega) (by omega) (by omega) (by first | (intro q; exfalso; omega) | (intro q; omega) | omega) (by first | (intro q; exfalso; omega) | (intro q; omega) | omega)
          ·
            show wp l rho (d + 4) 185 68 [(2, 151), (0, 1), (0, 0), (0, 0), (0, 0), (9, 0), (9, 0), (9, 0)] [(0, 1)] h Q
            rw [show wm 10 = 316695 from by decide] at xp727
            exfalso; omega
        ·
          show wp l rho (d + 4) 185 26 [(2, 151), (0, 1), (0, 0), (0, 0), (9, 0), (9, 0), (9, 0), (9, 0)] [(0, 1)] h Q
          rw [show wm 11 = 26801 from by decide] at xp719
          exfalso; omega
      ·
        show wp l rho (d + 4) 185 19 [(2, 151), (0, 1), (0, 0), (9, 0), (9, 0), (9, 0), (9, 0), (9, 0)] [(0, 1)] h Q
        rw [show wm 8 = 527412 from by decide] at xp712
        exfalso; omega
    ·
      show wp l rho (d + 4) 185 12 [(2, 151), (0, 1), (9, 0), (9, 0), (9, 0), (9, 0), (9, 0), (9, 0)] [(0, 1)] h Q
      rw [show wm 7 = 8422 from by decide] at xp705
      exfalso; omega
end MYNModel_readPane7_f0
