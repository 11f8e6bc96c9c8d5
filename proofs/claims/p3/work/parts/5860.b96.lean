/-! contracts, printed by wip/gen/gy.py -/
section MYNModel_night4
theorem c_Model_night4 {l : Launch} {rho : Nat → Int32} {d : Nat} {h : my_H} {Q : my_H → my_V → Prop} {x1 : Int} (n_Mw : Mw h) (n_Mw3 : Mw3 h) (n_Rws : Rws h) (hlm : LmW h) (hwo : zqWo (zqMA h) (zqMS h 0)) (k0 : ∀ (h' : my_H), my_fr [(10, 0), (10, 27), (10, 32), (10, 33), (10, 37), (10, 46), (10, 48), (10, 62), (10, 63), (10, 64), (10, 65), (61, -1), (62, -1), (73, -1), (74, -1), (75, -1), (76, -1), (77, -1), (78, -1), (79, -1), (80, -1), (81, -1), (82, -1), (83, -1), (84, -1), (85, -1), (86, -1), (88, -1), (89, -1), (90, -1), (91, -1), (92, -1), (93, -1), (94, -1)] h h' → h' 151 0 = 0 → Ot9 h h' → Rws h' → Q h' (0, (-1))) (k1 : ∀ (h' : my_H), my_fr [(10, 0), (10, 27), (10, 32), (10, 33), (10, 37), (10, 46), (10, 48), (10, 62), (10, 63), (10, 64), (10, 65), (61, -1), (62, -1), (73, -1), (74, -1), (75, -1), (76, -1), (77, -1), (78, -1), (79, -1), (80, -1), (81, -1), (82, -1), (83, -1), (84, -1), (85, -1), (86, -1), (88, -1), (89, -1), (90, -1), (91, -1), (92, -1), (93, -1), (94, -1)] h h' → 0 ≤ x1 → x1 ≤ 3 → h' 151 0 = 0 → h' 151 62 = 0 → h' 151 63 = 0 → h' 151 64 = 0 → h' 151 65 = 0 → Ot9 h h' → Rws h' → Q h' (0, 0)) (k2 : ∀ (h' : my_H) (y : Int), my_fr [(10, 0), (10, 27), (10, 32), (10, 33), (10, 37), (10, 46), (10, 48), (10, 62), (10, 63), (10, 64), (10, 65), (61, -1), (62, -1), (73, -1), (74, -1), (75, -1), (76, -1), (77, -1), (78, -1), (79, -1), (80, -1), (81, -1), (82, -1), (83, -1), (84, -1), (85, -1), (86, -1), (88, -1), (89, -1), (90, -1), (91, -1), (92, -1), (93, -1), (94, -1)] h h' → 0 ≤ x1 → x1 ≤ 3 → h' 151 0 = 0 → 0 ≤ h' 151 64 → Ot9 h h' → Rws h' → Q h' (0, y)) : wp l rho (d + 9) 242 0 [(2, 151), (0, x1), (9, 0), (9, 0), (9, 0), (9, 0)] [] h Q := by
  refine v_knowA (x := 162) pis_162 rd_61 (fun kT0 => ?_)
  refine v_knowA (x := 163) pis_163 rd_62 (fun kV0 => ?_)
  refine v_knowA (x := 160) pis_160 rd_59 (fun kN0 => ?_)
  refine v_knowA (x := 157) pis_157 rd_56 (fun kC0 => ?_)
  have T0 : MTy h := ⟨kV0, kT0, kN0, kC0⟩
  have J38_0 : ∀ (n : Nat) (p38_0 p38_1 : Int) (h38_0 : my_H), my_fr [(10, 0), (10, 27), (10, 32), (10, 33), (10, 37), (10, 46), (10, 48), (10, 62), (10, 63), (10, 64), (10, 65), (61, -1), (62, -1), (73, -1), (74, -1), (75, -1), (76, -1), (77, -1), (78, -1), (79, -1), (80, -1), (81, -1), (82, -1), (83, -1), (84, -1), (85, -1), (86, -1), (88, -1), (89, -1), (90, -1), (91, -1), (92, -1), (93, -1), (94, -1)] h h38_0 → 0 ≤ x1 → x1 ≤ 3 → 0 ≤ p38_0 → p38_0 ≤ 3 → 0 ≤ p38_1 → h38_0 151 0 = 0 → h38_0 151 64 = p38_1 → Mw h38_0 → Mw3 h38_0 → Rws h38_0 → h38_0 151 63 ≤ 2 * p38_0 → Ot9 h h38_0 → 4 - p38_0 ≤ (n : Int) → wp l rho (d + 9) 242 38 [(2, 151), (0, x1), (0, p38_0), (9, 0), (9, 0), (9, 0)] [] h38_0 Q := by
    intro n
    induction n with
    | zero => intro p38_0 p38_1 h38_0 gh_38_0 q0_38_0 q1_38_0 q2_38_0 q3_38_0 q4_38_0 c151_0_38_0 c151_64_38_0 n_Mw_38_0 n_Mw3_38_0 n_Rws_38_0 ea_38_0 o9_38_0 hm_38_0; exfalso; omega
    | succ n ih_38_0 =>
      intro p38_0 p38_1 h38_0 gh_38_0 q0_38_0 q1_38_0 q2_38_0 q3_38_0 q4_38_0 c151_0_38_0 c151_64_38_0 n_Mw_38_0 n_Mw3_38_0 n_Rws_38_0 ea_38_0 o9_38_0 hm_38_0
      have J45_0 : ∀ (n : Nat) (p45_0 p45_1 : Int) (h45_0 : my_H), my_fr [(10, 0), (10, 27), (10, 32), (10, 33), (10, 37), (10, 46), (10, 48), (10, 62), (10, 63), (10, 64), (10, 65), (61, -1), (62, -1), (73, -1), (74, -1), (75, -1), (76, -1), (77, -1), (78, -1), (79, -1), (80, -1), (81, -1), (82, -1), (83, -1), (84, -1), (85, -1), (86, -1), (88, -1), (89, -1), (90, -1), (91, -1), (92, -1), (93, -1), (94, -1)] h h45_0 → p38_0 ≤ 2 → 0 ≤ p45_0 → p45_0 ≤ 3 → 0 ≤ p45_1 → h45_0 151 0 = 0 → h45_0 151 64 = p45_1 → Mw h45_0 → Mw3 h45_0 → Rws h45_0 → ((p45_0 ≤ p38_0 → h45_0 151 63 ≤ 2 * p38_0 + p45_0) ∧ (p38_0 < p45_0 → h45_0 151 63 ≤ 2 * p38_0 + p45_0 - 1)) → Ot9 h h45_0 → 4 - p45_0 ≤ (n : Int) → wp l rho (d + 9) 242 45 [(2, 151), (0, x1), (0, p38_0), (0, p45_0), (9, 0), (9, 0)] [] h45_0 Q := by
        intro n
        induction n with
        | zero => intro p45_0 p45_1 h45_0 gh_45_0 q0_45_0 q1_45_0 q2_45_0 q3_45_0 c151_0_45_0 c151_64_45_0 n_Mw_45_0 n_Mw3_45_0 n_Rws_45_0 eb_45_0 o9_45_0 hm_45_0; exfalso; omega
        | succ n ih_45_0 =>
          intro p45_0 p45_1 h45_0 gh_45_0 q0_45_0 q1_45_0 q2_45_0 q3_45_0 c151_0_45_0 c151_64_45_0 n_Mw_45_0 n_Mw3_45_0 n_Rws_45_0 eb_45_0 o9_45_0 hm_45_0
          refine w_iload_n gz_242_45 rfl ?_
          refine w_iconst gz_242_46 (by decide) ?_
          refine w_icge (t := 144) gz_242_47 rfl (fun u1 => ?_) (fun u1 => ?_)
          ·
            refine w_iinc (ls' := [(2, 151), (0, x1), (0, (p38_0 + 1)), (0, p45_0), (9, 0), (9, 0)]) gz_242_144 rfl gm_242 rfl rfl rfl ⟨by omega, by omega⟩ ?_
            refine w_goto (t := 38) gz_242_147 rfl ?_
            have j162 : ∀ j : Int, h45_0 162 j = h45_0 162 j := fun _ => rfl
            have j163 : ∀ j : Int, h45_0 163 j = h45_0 163 j := fun _ => rfl
            refine w_weak (ls' := [(2, 151), (0, x1), (0, (p38_0 + 1)), (9, 0), (9, 0), (9, 0)]) (wk_e (wk_e (wk_e (wk_9 (wk_9 (wk_9 wk_n)))))) ?_
            exact ih_38_0 ((p38_0 + 1)) (p45_1) h45_0 (gh_45_0) (by omega) (by omega) (by omega) (by omega) (by omega) (c151_0_45_0.trans (by omega)) (c151_64_45_0.trans (by omega)) n_Mw_45_0 n_Mw3_45_0 n_Rws_45_0 (by first | assumption | omega | (subst_vars; omega) | omega) (by first | exact o135 | exact o9_45_0 | exact o9_38_0 | exact Ot9_e j162 j163 | exact o9_45_0.tr (Ot9_e j162 j163) | exact o9_38_0.tr (Ot9_e j162 j163) | assumption | omega) (by omega)
          ·
            refine w_iconst gz_242_50 (by decide) ?_
            refine w_iload_n gz_242_51 rfl ?_
            refine w_isub gz_242_52 ⟨by omega, by omega⟩ ?_
            refine w_iload_n gz_242_53 rfl ?_
            refine w_isub gz_242_54 ⟨by omega, by omega⟩ ?_
            refine w_istore (ls' := [(2, 151), (0, x1), (0, p38_0), (0, p45_0), (0, ((3 - p38_0) - p45_0)), (9, 0)]) gz_242_55 gm_242 rfl rfl rfl ?_
            refine w_iload_n gz_242_57 rfl ?_
            refine w_iload_n gz_242_58 rfl ?_
            refine w_iceq (t := 85) gz_242_59 rfl (fun u2 => ?_) (fun u2 => ?_)
            ·
              refine w_iconst gz_242_85 (by decide) ?_
              refine w_istore (ls' := [(2, 151), (0, x1), (0, p38_0), (0, p45_0), (0, ((3 - p38_0) - p45_0)), (0, 0)]) gz_242_86 gm_242 rfl rfl rfl ?_
              refine w_iload gz_242_88 rfl ?_
              refine w_ifeq (t := 138) gz_242_90 rfl (fun u3 => ?_) (fun u3 => by exfalso; omega)
              refine w_iinc (ls' := [(2, 151), (0, x1), (0, p38_0), (0, (p45_0 + 1)), (0, ((3 - p38_0) - p45_0)), (0, 0)]) gz_242_138 rfl gm_242 rfl rfl rfl ⟨by omega, by omega⟩ ?_
              refine w_goto (t := 45) gz_242_141 rfl ?_
              have j162 : ∀ j : Int, h45_0 162 j = h45_0 162 j := fun _ => rfl
              have j163 : ∀ j : Int, h45_0 163 j = h45_0 163 j := fun _ => rfl
              refine w_weak (ls' := [(2, 151), (0, x1), (0, p38_0), (0, (p45_0 + 1)), (9, 0), (9, 0)]) (wk_e (wk_e (wk_e (wk_e (wk_9 (wk_9 wk_n)))))) ?_
              exact ih_45_0 ((p45_0 + 1)) (p45_1) h45_0 (gh_45_0) (by omega) (by omega) (by omega) (by omega) (c151_0_45_0.trans (by omega)) (c151_64_45_0.trans (by omega)) n_Mw_45_0 n_Mw3_45_0 n_Rws_45_0 (by first | assumption | omega | (subst_vars; omega) | omega) (by first | exact o135 | exact o9_45_0 | exact o9_38_0 | exact Ot9_e j162 j163 | exact o9_45_0.tr (Ot9_e j162 j163) | exact o9_38_0.tr (Ot9_e j162 j163) | assumption | omega) (by omega)
            ·
              refine w_aload_n gz_242_62 rfl ?_
              refine w_iload_n gz_242_63 rfl ?_
              refine w_iload_n gz_242_64 rfl ?_
              refine w_inv (k := 0) (as := [(0, p45_0), (0, p38_0)]) (r := []) (x := 151) (ls0 := [(2, 151), (0, p38_0), (0, p45_0)]) gz_242_65 gm_243 rfl is_151 rd_10 rfl rfl rfl rfl rfl ?_
              refine w_aload_n gz_243_0 rfl ?_
              refine w_iload_n gz_243_1 rfl ?_
              refine w_inv (k := 0) (as := [(0, p38_0)]) (r := []) (x := 151) (ls0 := [(2, 151), (0, p38_0)]) gz_243_2 gm_244 rfl is_151 rd_10 rfl rfl rfl rfl rfl ?_
              refine w_aload_n gz_244_0 rfl ?_
              refine w_getX (v := 199) gz_244_1 is_151 rd_10 rfl (by decide) rfl ?_
              refine w_iload_n gz_244_4 rfl ?_
              have hi5 : 0 ≤ p38_0 := by omega
              have hi6 : p38_0 ≤ 2 := by omega
              refine w_iald gz_244_5 is_199 rd_98 (by omega) (by omega) (fun v7 ev7 pv7 qv7 => ?_)
              refine w_iflt (t := 13) gz_244_6 rfl (fun u8 => ?_) (fun u8 => ?_)
              ·
                refine w_iconst gz_244_13 (by decide) ?_
                refine w_bret gz_244_14 gm_244 (by omega) (by omega) ?_
                show wp l rho (d + 8) 243 5 [(2, 151), (0, p38_0), (0, p45_0)] [(0, 0)] h45_0 _
                refine w_ifne (t := 21) gz_243_5 rfl (fun u9 => by exfalso; omega) (fun u9 => ?_)
                refine w_aload_n gz_243_8 rfl ?_
                refine w_iload_n gz_243_9 rfl ?_
                refine w_inv (k := 0) (as := [(0, p45_0)]) (r := []) (x := 151) (ls0 := [(2, 151), (0, p45_0)]) gz_243_10 gm_244 rfl is_151 rd_10 rfl rfl rfl rfl rfl ?_
                refine w_aload_n gz_244_0 rfl ?_
                refine w_getX (v := 199) gz_244_1 is_151 rd_10 rfl (by decide) rfl ?_
                refine w_iload_n gz_244_4 rfl ?_
                have hi11 : 0 ≤ p45_0 := by omega
                have hi12 : p45_0 ≤ 2 := by omega
                refine w_iald gz_244_5 is_199 rd_98 (by omega) (by omega) (fun v13 ev13 pv13 qv13 => ?_)
                refine w_iflt (t := 13) gz_244_6 rfl (fun u14 => ?_) (fun u14 => ?_)
                ·
                  refine w_iconst gz_244_13 (by decide) ?_
                  refine w_bret gz_244_14 gm_244 (by omega) (by omega) ?_
                  show wp l rho (d + 8) 243 13 [(2, 151), (0, p38_0), (0, p45_0)] [(0, 0)] h45_0 _
                  refine w_ifne (t := 25) gz_243_13 rfl (fun u15 => by exfalso; omega) (fun u15 => ?_)
                  refine w_iload_n gz_243_16 rfl ?_
                  refine w_iload_n gz_243_17 rfl ?_
                  refine w_icge (t := 25) gz_243_18 rfl (fun u16 => ?_) (fun u16 => ?_)
                  ·
                    refine w_iconst gz_243_25 (by decide) ?_
                    refine w_bret gz_243_26 gm_243 (by omega) (by omega) ?_
                    show wp l rho (d + 9) 242 68 [(2, 151), (0, x1), (0, p38_0), (0, p45_0), (0, ((3 - p38_0) - p45_0)), (9, 0)] [(0, 0)] h45_0 Q
                    refine w_ifeq (t := 85) gz_242_68 rfl (fun u17 => ?_) (fun u17 => by exfalso; omega)
                    refine w_iconst gz_242_85 (by decide) ?_
                    refine w_istore (ls' := [(2, 151), (0, x1), (0, p38_0), (0, p45_0), (0, ((3 - p38_0) - p45_0)), (0, 0)]) gz_242_86 gm_242 rfl rfl rfl ?_
                    refine w_iload gz_242_88 rfl ?_
                    refine w_ifeq (t := 138) gz_242_90 rfl (fun u18 => ?_) (fun u18 => by exfalso; omega)
                    refine w_iinc (ls' := [(2, 151), (0, x1), (0, p38_0), (0, (p45_0 + 1)), (0, ((3 - p38_0) - p45_0)), (0, 0)]) gz_242_138 rfl gm_242 rfl rfl rfl ⟨by omega, by omega⟩ ?_
                    refine w_goto (t := 45) gz_242_141 rfl ?_
                    have j162 : ∀ j : Int, h45_0 162 j = h45_0 162 j := fun _ => rfl
                    have j163 : ∀ j : Int, h45_0 163 j = h45_0 163 j := fun _ => rfl
                    refine w_weak (ls' := [(2, 151), (0, x1), (0, p38_0), (0, (p45_0 + 1)), (9, 0), (9, 0)]) (wk_e (wk_e (wk_e (wk_e (wk_9 (wk_9 wk_n)))))) ?_
                    exact ih_45_0 ((p45_0 + 1)) (p45_1) h45_0 (gh_45_0) (by omega) (by omega) (by omega) (by omega) (c151_0_45_0.trans (by omega)) (c151_64_45_0.trans (by omega)) n_Mw_45_0 n_Mw3_45_0 n_Rws_45_0 (by first | assumption | omega | (subst_vars; omega) | omega) (by first | exact o135 | exact o9_45_0 | exact o9_38_0 | exact Ot9_e j162 j163 | exact o9_45_0.tr (Ot9_e j162 j163) | exact o9_38_0.tr (Ot9_e j162 j163) | assumption | omega) (by omega)
                  ·
                    refine w_iconst gz_243_21 (by decide) ?_
                    refine w_goto (t := 26) gz_243_22 rfl ?_
                    refine w_bret gz_243_26 gm_243 (by omega) (by omega) ?_
                    show wp l rho (d + 9) 242 68 [(2, 151), (0, x1), (0, p38_0), (0, p45_0), (0, ((3 - p38_0) - p45_0)), (9, 0)] [(0, 1)] h45_0 Q
                    refine w_ifeq (t := 85) gz_242_68 rfl (fun u19 => by exfalso; omega) (fun u19 => ?_)
                    refine w_aload_n gz_242_71 rfl ?_
                    refine w_iload_n gz_242_72 rfl ?_
                    refine w_iload gz_242_73 rfl ?_
                    refine w_inv (k := 0) (as := [(0, ((3 - p38_0) - p45_0)), (0, p45_0)]) (r := []) (x := 151) (ls0 := [(2, 151), (0, p45_0), (0, ((3 - p38_0) - p45_0))]) gz_242_75 gm_243 rfl is_151 rd_10 rfl rfl rfl rfl rfl ?_
                    refine w_aload_n gz_243_0 rfl ?_
                    refine w_iload_n gz_243_1 rfl ?_
                    refine w_inv (k := 0) (as := [(0, p45_0)]) (r := []) (x := 151) (ls0 := [(2, 151), (0, p45_0)]) gz_243_2 gm_244 rfl is_151 rd_10 rfl rfl rfl rfl rfl ?_
                    refine w_aload_n gz_244_0 rfl ?_
                    refine w_getX (v := 199) gz_244_1 is_151 rd_10 rfl (by decide) rfl ?_
                    refine w_iload_n gz_244_4 rfl ?_
                    have hi21 : 0 ≤ p45_0 := by omega
                    have hi22 : p45_0 ≤ 2 := by omega
                    refine w_iald gz_244_5 is_199 rd_98 (by omega) (by omega) (fun v23 ev23 pv23 qv23 => ?_)
                    have zv23 := ev23.trans ev13.symm
                    refine w_iflt (t := 13) gz_244_6 rfl (fun u24 => ?_) (fun u24 => by exfalso; omega)
                    refine w_iconst gz_244_13 (by decide) ?_
                    refine w_bret gz_244_14 gm_244 (by omega) (by omega) ?_
                    show wp l rho (d + 8) 243 5 [(2, 151), (0, p45_0), (0, ((3 - p38_0) - p45_0))] [(0, 0)] h45_0 _
                    refine w_ifne (t := 21) gz_243_5 rfl (fun u25 => by exfalso; omega) (fun u25 => ?_)
                    refine w_aload_n gz_243_8 rfl ?_
                    refine w_iload_n gz_243_9 rfl ?_
                    refine w_inv (k := 0) (as := [(0, ((3 - p38_0) - p45_0))]) (r := []) (x := 151) (ls0 := [(2, 151), (0, ((3 - p38_0) - p45_0))]) gz_243_10 gm_244 rfl is_151 rd_10 rfl rfl rfl rfl rfl ?_
                    refine w_aload_n gz_244_0 rfl ?_
                    refine w_getX (v := 199) gz_244_1 is_151 rd_10 rfl (by decide) rfl ?_
                    refine w_iload_n gz_244_4 rfl ?_
                    have hi27 : 0 ≤ ((3 - p38_0) - p45_0) := by omega
                    have hi28 : ((3 - p38_0) - p45_0) ≤ 2 := by omega
                    refine w_iald gz_244_5 is_199 rd_98 (by omega) (by omega) (fun v29 ev29 pv29 qv29 => ?_)
                    refine w_iflt (t := 13) gz_244_6 rfl (fun u30 => ?_) (fun u30 => ?_)
                    ·
                      refine w_iconst gz_244_13 (by decide) ?_
                      refine w_bret gz_244_14 gm_244 (by omega) (by omega) ?_
                      show wp l rho (d + 8) 243 13 [(2, 151), (0, p45_0), (0, ((3 - p38_0) - p45_0))] [(0, 0)] h45_0 _
                      refine w_ifne (t := 25) gz_243_13 rfl (fun u31 => by exfalso; omega) (fun u31 => ?_)
                      refine w_iload_n gz_243_16 rfl ?_
                      refine w_iload_n gz_243_17 rfl ?_
                      refine w_icge (t := 25) gz_243_18 rfl (fun u32 => ?_) (fun u32 => ?_)
                      ·
                        refine w_iconst gz_243_25 (by decide) ?_
                        refine w_bret gz_243_26 gm_243 (by omega) (by omega) ?_
                        show wp l rho (d + 9) 242 78 [(2, 151), (0, x1), (0, p38_0), (0, p45_0), (0, ((3 - p38_0) - p45_0)), (9, 0)] [(0, 0)] h45_0 Q
                        refine w_ifeq (t := 85) gz_242_78 rfl (fun u33 => ?_) (fun u33 => by exfalso; omega)
                        refine w_iconst gz_242_85 (by decide) ?_
                        refine w_istore (ls' := [(2, 151), (0, x1), (0, p38_0), (0, p45_0), (0, ((3 - p38_0) - p45_0)), (0, 0)]) gz_242_86 gm_242 rfl rfl rfl ?_
                        refine w_iload gz_242_88 rfl ?_
                        refine w_ifeq (t := 138) gz_242_90 rfl (fun u34 => ?_) (fun u34 => by exfalso; omega)
                        refine w_iinc (ls' := [(2, 151), (0, x1), (0, p38_0), (0, (p45_0 + 1)), (0, ((3 - p38_0) - p45_0)), (0, 0)]) gz_242_138 rfl gm_242 rfl rfl rfl ⟨by omega, by omega⟩ ?_
                        refine w_goto (t := 45) gz_242_141 rfl ?_
                        have j162 : ∀ j : Int, h45_0 162 j = h45_0 162 j := fun _ => rfl
                        have j163 : ∀ j : Int, h45_0 163 j = h45_0 163 j := fun _ => rfl
                        refine w_weak (ls' := [(2, 151), (0, x1), (0, p38_0), (0, (p45_0 + 1)), (9, 0), (9, 0)]) (wk_e (wk_e (wk_e (wk_e (wk_9 (wk_9 wk_n)))))) ?_
                        exact ih_45_0 ((p45_0 + 1)) (p45_1) h45_0 (gh_45_0) (by omega) (by omega) (by omega) (by omega) (c151_0_45_0.trans (by omega)) (c151_64_45_0.trans (by omega)) n_Mw_45_0 n_Mw3_45_0 n_Rws_45_0 (by first | assumption | omega | (subst_vars; omega) | omega) (by first | exact o135 | exact o9_45_0 | exact o9_38_0 | exact Ot9_e j162 j163 | exact o9_45_0.tr (Ot9_e j162 j163) | exact o9_38_0.tr (Ot9_e j162 j163) | assumption | omega) (by omega)
                      ·
                        refine w_iconst gz_243_21 (by decide) ?_
                        refine w_goto (t := 26) gz_243_22 rfl ?_
                        refine w_bret gz_243_26 gm_243 (by omega) (by omega) ?_
                        show wp l rho (d + 9) 242 78 [(2, 151), (0, x1), (0, p38_0), (0, p45_0), (0, ((3 - p38_0) - p45_0)), (9, 0)] [(0, 1)] h45_0 Q
                        refine w_ifeq (t := 85) gz_242_78 rfl (fun u35 => by exfalso; omega) (fun u35 => ?_)
                        refine w_iconst gz_242_81 (by decide) ?_
                        refine w_goto (t := 86) gz_242_82 rfl ?_
                        refine w_istore (ls' := [(2, 151), (0, x1), (0, p38_0), (0, p45_0), (0, ((3 - p38_0) - p45_0)), (0, 1)]) gz_242_86 gm_242 rfl rfl rfl ?_
                        refine w_iload gz_242_88 rfl ?_
                        refine w_ifeq (t := 138) gz_242_90 rfl (fun u36 => by exfalso; omega) (fun u36 => ?_)
                        refine w_aload_n gz_242_93 rfl ?_
                        refine w_aload_n gz_242_94 rfl ?_
                        refine w_iload_n gz_242_95 rfl ?_
                        refine w_inv (k := 0) (as := [(0, p38_0)]) (r := [(2, 151)]) (x := 151) (ls0 := [(2, 151), (0, p38_0)]) gz_242_96 gm_244 rfl is_151 rd_10 rfl rfl rfl rfl rfl ?_
                        refine w_aload_n gz_244_0 rfl ?_
                        refine w_getX (v := 199) gz_244_1 is_151 rd_10 rfl (by decide) rfl ?_
                        refine w_iload_n gz_244_4 rfl ?_
                        have hi38 : 0 ≤ p38_0 := by omega
                        have hi39 : p38_0 ≤ 2 := by omega
                        refine w_iald gz_244_5 is_199 rd_98 (by omega) (by omega) (fun v40 ev40 pv40 qv40 => ?_)
                        have zv40 := ev40.trans ev7.symm
                        refine w_iflt (t := 13) gz_244_6 rfl (fun u41 => ?_) (fun u41 => by exfalso; omega)
                        refine w_iconst gz_244_13 (by decide) ?_
                        refine w_bret gz_244_14 gm_244 (by omega) (by omega) ?_
                        show wp l rho (d + 9) 242 99 [(2, 151), (0, x1), (0, p38_0), (0, p45_0), (0, ((3 - p38_0) - p45_0)), (0, 1)] [(0, 0), (2, 151)] h45_0 Q
                        refine w_ifeq (t := 106) gz_242_99 rfl (fun u42 => ?_) (fun u42 => by exfalso; omega)
                        refine w_iconst gz_242_106 (by decide) ?_
                        refine w_aload_n gz_242_107 rfl ?_
                        refine w_iload_n gz_242_108 rfl ?_
                        refine w_inv (k := 0) (as := [(0, p45_0)]) (r := [(0, (-1)), (2, 151)]) (x := 151) (ls0 := [(2, 151), (0, p45_0)]) gz_242_109 gm_244 rfl is_151 rd_10 rfl rfl rfl rfl rfl ?_
                        refine w_aload_n gz_244_0 rfl ?_
                        refine w_getX (v := 199) gz_244_1 is_151 rd_10 rfl (by decide) rfl ?_
                        refine w_iload_n gz_244_4 rfl ?_
                        have hi44 : 0 ≤ p45_0 := by omega
                        have hi45 : p45_0 ≤ 2 := by omega
                        refine w_iald gz_244_5 is_199 rd_98 (by omega) (by omega) (fun v46 ev46 pv46 qv46 => ?_)
                        have zv46 := ev46.trans ev23.symm
                        refine w_iflt (t := 13) gz_244_6 rfl (fun u47 => ?_) (fun u47 => by exfalso; omega)
                        refine w_iconst gz_244_13 (by decide) ?_
                        refine w_bret gz_244_14 gm_244 (by omega) (by omega) ?_
                        show wp l rho (d + 9) 242 112 [(2, 151), (0, x1), (0, p38_0), (0, p45_0), (0, ((3 - p38_0) - p45_0)), (0, 1)] [(0, 0), (0, (-1)), (2, 151)] h45_0 Q
                        refine w_ifeq (t := 119) gz_242_112 rfl (fun u48 => ?_) (fun u48 => by exfalso; omega)
                        refine w_iconst gz_242_119 (by decide) ?_
                        refine w_aload_n gz_242_120 rfl ?_
                        refine w_iload gz_242_121 rfl ?_
                        refine w_inv (k := 0) (as := [(0, ((3 - p38_0) - p45_0))]) (r := [(0, (-1)), (0, (-1)), (2, 151)]) (x := 151) (ls0 := [(2, 151), (0, ((3 - p38_0) - p45_0))]) gz_242_123 gm_244 rfl is_151 rd_10 rfl rfl rfl rfl rfl ?_
                        refine w_aload_n gz_244_0 rfl ?_
                        refine w_getX (v := 199) gz_244_1 is_151 rd_10 rfl (by decide) rfl ?_
                        refine w_iload_n gz_244_4 rfl ?_
                        have hi50 : 0 ≤ ((3 - p38_0) - p45_0) := by omega
                        have hi51 : ((3 - p38_0) - p45_0) ≤ 2 := by omega
                        refine w_iald gz_244_5 is_199 rd_98 (by omega) (by omega) (fun v52 ev52 pv52 qv52 => ?_)
                        have zv52 := ev52.trans ev29.symm
                        refine w_iflt (t := 13) gz_244_6 rfl (fun u53 => ?_) (fun u53 => by exfalso; omega)
                        refine w_iconst gz_244_13 (by decide) ?_
                        refine w_bret gz_244_14 gm_244 (by omega) (by omega) ?_
                        show wp l rho (d + 9) 242 126 [(2, 151), (0, x1), (0, p38_0), (0, p45_0), (0, ((3 - p38_0) - p45_0)), (0, 1)] [(0, 0), (0, (-1)), (0, (-1)), (2, 151)] h45_0 Q
                        refine w_ifeq (t := 134) gz_242_126 rfl (fun u54 => ?_) (fun u54 => by exfalso; omega)
                        refine w_iconst gz_242_134 (by decide) ?_
                        have ma135 : zqMA h45_0 = zqMA h := zqMA_e (fun j => my_fr.at gh_45_0 pis_157 rfl) (fun j => my_fr.at gh_45_0 pis_158 rfl) (fun j => my_fr.at gh_45_0 pis_159 rfl) (fun j => my_fr.at gh_45_0 pis_160 rfl) (fun j => my_fr.at gh_45_0 pis_161 rfl)
                        refine w_inv (k := 4) (as := [(0, (-1)), (0, (-1)), (0, (-1))]) (r := []) (x := 151) (ls0 := [(2, 151), (0, (-1)), (0, (-1)), (0, (-1)), (9, 0), (9, 0), (9, 0), (9, 0)]) gz_242_135 gm_245 rfl is_151 rd_10 rfl rfl rfl rfl rfl (c_Model_ordered4 (d := d) (x1 := (-1)) (x2 := (-1)) (x3 := (-1)) (by omega) (by omega) (by omega) (by omega) (by omega) (by omega) n_Mw_45_0 n_Mw3_45_0 n_Rws_45_0 (by first | assumption | exact no_such_saying | exact Fp_told (by omega) (by omega) | omega | (subst_vars; omega) | omega) (LmW_ag (my_ag.fr (F := LmF) gh_45_0 rfl) hlm) ((by rw [ma135]; exact zqWo_c (o9_45_0.ms (by omega) (by omega)) (fun u a b => (T0.2.2.2 u a (by omega)).2) (fun p a b => T0.2.2.1 p a (by omega)) hwo)) (fun h55 frh55 w56 xp57 xp58 Rws_h55t59 => ?_))
                        have gh55 : my_fr [(10, 0), (10, 27), (10, 32), (10, 33), (10, 37), (10, 46), (10, 48), (10, 62), (10, 63), (10, 64), (10, 65), (61, -1), (62, -1), (73, -1), (74, -1), (75, -1), (76, -1), (77, -1), (78, -1), (79, -1), (80, -1), (81, -1), (82, -1), (83, -1), (84, -1), (85, -1), (86, -1), (88, -1), (89, -1), (90, -1), (91, -1), (92, -1), (93, -1), (94, -1)] h h55 := my_fr.tr gh_45_0 (frh55.mo rfl)
                        have Mw_h55 : Mw h55 := Mw_ag (my_ag.fr frh55 rfl) n_Mw_45_0
                        have Mw3_h55 : Mw3 h55 := Mw3_ag (my_ag.fr frh55 rfl) n_Mw3_45_0
                        show wp l rho (d + 9) 242 138 [(2, 151), (0, x1), (0, p38_0), (0, p45_0), (0, ((3 - p38_0) - p45_0)), (0, 1)] [] h55 Q
                        have o135 : Ot9 h h55 := o9_45_0.tr xp58
                        refine w_iinc (ls' := [(2, 151), (0, x1), (0, p38_0), (0, (p45_0 + 1)), (0, ((3 - p38_0) - p45_0)), (0, 1)]) gz_242_138 rfl gm_242 rfl rfl rfl ⟨by omega, by omega⟩ ?_
                        refine w_goto (t := 45) gz_242_141 rfl ?_
                        have j162 : ∀ j : Int, h55 162 j = h55 162 j := fun j => rfl
                        have j163 : ∀ j : Int, h55 163 j = h55 163 j := fun j => rfl
                        refine w_weak (ls' := [(2, 151), (0, x1), (0, p38_0), (0, (p45_0 + 1)), (9, 0), (9, 0)]) (wk_e (wk_e (wk_e (wk_e (wk_9 (wk_9 wk_n)))))) ?_
                        exact ih_45_0 ((p45_0 + 1)) ((h55 151 64)) h55 (gh55) (by omega) (by omega) (by omega) (by omega) (((my_fr.at frh55 is_151 rfl).trans c151_0_45_0).trans (by omega)) ((rfl : h55 151 64 = h55 151 64).trans (by omega)) Mw_h55 Mw3_h55 Rws_h55t59 (by first | assumption | omega | (subst_vars; omega) | omega) (by first | exact o135 | exact o9_45_0 | exact o9_38_0 | exact Ot9_e j162 j163 | exact o9_45_0.tr (Ot9_e j162 j163) | exact o9_38_0.tr (Ot9_e j162 j163) | assumption | omega) (by omega)
                    ·
                      refine w_iconst gz_244_9 (by decide) ?_
                      refine w_goto (t := 14) gz_244_10 rfl ?_
                      refine w_bret gz_244_14 gm_244 (by omega) (by omega) ?_
                      show wp l rho (d + 8) 243 13 [(2, 151), (0, p45_0), (0, ((3 - p38_0) - p45_0))] [(0, 1)] h45_0 _
                      refine w_ifne (t := 25) gz_243_13 rfl (fun u60 => ?_) (fun u60 => by exfalso; omega)
                      refine w_iconst gz_243_25 (by decide) ?_
                      refine w_bret gz_243_26 gm_243 (by omega) (by omega) ?_
                      show wp l rho (d + 9) 242 78 [(2, 151), (0, x1), (0, p38_0), (0, p45_0), (0, ((3 - p38_0) - p45_0)), (9, 0)] [(0, 0)] h45_0 Q
                      refine w_ifeq (t := 85) gz_242_78 rfl (fun u61 => ?_) (fun u61 => by exfalso; omega)
                      refine w_iconst gz_242_85 (by decide) ?_
                      refine w_istore (ls' := [(2, 151), (0, x1), (0, p38_0), (0, p45_0), (0, ((3 - p38_0) - p45_0)), (0, 0)]) gz_242_86 gm_242 rfl rfl rfl ?_
                      refine w_iload gz_242_88 rfl ?_
                      refine w_ifeq (t := 138) gz_242_90 rfl (fun u62 => ?_) (fun u62 => by exfalso; omega)
                      refine w_iinc (ls' := [(2, 151), (0, x1), (0, p38_0), (0, (p45_0 + 1)), (0, ((3 - p38_0) - p45_0)), (0, 0)]) gz_242_138 rfl gm_242 rfl rfl rfl ⟨by omega, by omega⟩ ?_
                      refine w_goto (t := 45) gz_242_141 rfl ?_
                      have j162 : ∀ j : Int, h45_0 162 j = h45_0 162 j := fun _ => rfl
                      have j163 : ∀ j : Int, h45_0 163 j = h45_0 163 j := fun _ => rfl
                      refine w_weak (ls' := [(2, 151), (0, x1), (0, p38_0), (0, (p45_0 + 1)), (9, 0), (9, 0)]) (wk_e (wk_e (wk_e (wk_e (wk_9 (wk_9 wk_n)))))) ?_
                      exact ih_45_0 ((p45_0 + 1)) (p45_1) h45_0 (gh_45_0) (by omega) (by omega) (by omega) (by omega) (c151_0_45_0.trans (by omega)) (c151_64_45_0.trans (by omega)) n_Mw_45_0 n_Mw3_45_0 n_Rws_45_0 (by first | assumption | omega | (subst_vars; omega) | omega) (by first | exact o135 | exact o9_45_0 | exact o9_38_0 | exact Ot9_e j162 j163 | exact o9_45_0.tr (Ot9_e j162 j163) | exact o9_38_0.tr (Ot9_e j162 j163) | assumption | omega) (by omega)
                ·
                  refine w_iconst gz_244_9 (by decide) ?_
                  refine w_goto (t := 14) gz_244_10 rfl ?_
                  refine w_bret gz_244_14 gm_244 (by omega) (by omega) ?_
                  show wp l rho (d + 8) 243 13 [(2, 151), (0, p38_0), (0, p45_0)] [(0, 1)] h45_0 _
                  refine w_ifne (t := 25) gz_243_13 rfl (fun u63 => ?_) (fun u63 => by exfalso; omega)
                  refine w_iconst gz_243_25 (by decide) ?_
                  refine w_bret gz_243_26 gm_243 (by omega) (by omega) ?_
                  show wp l rho (d + 9) 242 68 [(2, 151), (0, x1), (0, p38_0), (0, p45_0), (0, ((3 - p38_0) - p45_0)), (9, 0)] [(0, 0)] h45_0 Q
                  refine w_ifeq (t := 85) gz_242_68 rfl (fun u64 => ?_) (fun u64 => by exfalso; omega)
                  refine w_iconst gz_242_85 (by decide) ?_
                  refine w_istore (ls' := [(2, 151), (0, x1), (0, p38_0), (0, p45_0), (0, ((3 - p38_0) - p45_0)), (0, 0)]) gz_242_86 gm_242 rfl rfl rfl ?_
                  refine w_iload gz_242_88 rfl ?_
                  refine w_ifeq (t := 138) gz_242_90 rfl (fun u65 => ?_) (fun u65 => by exfalso; omega)
                  refine w_iinc (ls' := [(2, 151), (0, x1), (0, p38_0), (0, (p45_0 + 1)), (0, ((3 - p38_0) - p45_0)), (0, 0)]) gz_242_138 rfl gm_242 rfl rfl rfl ⟨by omega, by omega⟩ ?_
                  refine w_goto (t := 45) gz_242_141 rfl ?_
                  have j162 : ∀ j : Int, h45_0 162 j = h45_0 162 j := fun _ => rfl
                  have j163 : ∀ j : Int, h45_0 163 j = h45_0 163 j := fun _ => rfl
                  refine w_weak (ls' := [(2, 151), (0, x1), (0, p38_0), (0, (p45_0 + 1)), (9, 0), (9, 0)]) (wk_e (wk_e (wk_e (wk_e (wk_9 (wk_9 wk_n)))))) ?_
                  exact ih_45_0 ((p45_0 + 1)) (p45_1) h45_0 (gh_45_0) (by omega) (by omega) (by omega) (by omega) (c151_0_45_0.trans (by omega)) (c151_64_45_0.trans (by omega)) n_Mw_45_0 n_Mw3_45_0 n_Rws_45_0 (by first | assumption | omega | (subst_vars; omega) | omega) (by first | exact o135 | exact o9_45_0 | exact o9_38_0 | exact Ot9_e j162 j163 | exact o9_45_0.tr (Ot9_e j162 j163) | exact o9_38_0.tr (Ot9_e j162 j163) | assumption | omega) (by omega)
              ·
                refine w_iconst gz_244_9 (by decide) ?_
                refine w_goto (t := 14) gz_244_10 rfl ?_
                refine w_bret gz_244_14 gm_244 (by omega) (by omega) ?_
                show wp l rho (d + 8) 243 5 [(2, 151), (0, p38_0), (0, p45_0)] [(0, 1)] h45_0 _
                refine w_ifne (t := 21) gz_243_5 rfl (fun u66 => ?_) (fun u66 => by exfalso; omega)
                refine w_iconst gz_243_21 (by decide) ?_
                refine w_goto (t := 26) gz_243_22 rfl ?_
                refine w_bret gz_243_26 gm_243 (by omega) (by omega) ?_
                show wp l rho (d + 9) 242 68 [(2, 151), (0, x1), (0, p38_0), (0, p45_0), (0, ((3 - p38_0) - p45_0)), (9, 0)] [(0, 1)] h45_0 Q
                refine w_ifeq (t := 85) gz_242_68 rfl (fun u67 => by exfalso; omega) (fun u67 => ?_)
                refine w_aload_n gz_242_71 rfl ?_
                refine w_iload_n gz_242_72 rfl ?_
                refine w_iload gz_242_73 rfl ?_
                refine w_inv (k := 0) (as := [(0, ((3 - p38_0) - p45_0)), (0, p45_0)]) (r := []) (x := 151) (ls0 := [(2, 151), (0, p45_0), (0, ((3 - p38_0) - p45_0))]) gz_242_75 gm_243 rfl is_151 rd_10 rfl rfl rfl rfl rfl ?_
                refine w_aload_n gz_243_0 rfl ?_
                refine w_iload_n gz_243_1 rfl ?_
                refine w_inv (k := 0) (as := [(0, p45_0)]) (r := []) (x := 151) (ls0 := [(2, 151), (0, p45_0)]) gz_243_2 gm_244 rfl is_151 rd_10 rfl rfl rfl rfl rfl ?_
                refine w_aload_n gz_244_0 rfl ?_
                refine w_getX (v := 199) gz_244_1 is_151 rd_10 rfl (by decide) rfl ?_
                refine w_iload_n gz_244_4 rfl ?_
                have hi69 : 0 ≤ p45_0 := by omega
                have hi70 : p45_0 ≤ 2 := by omega
                refine w_iald gz_244_5 is_199 rd_98 (by omega) (by omega) (fun v71 ev71 pv71 qv71 => ?_)
                refine w_iflt (t := 13) gz_244_6 rfl (fun u72 => ?_) (fun u72 => ?_)
                ·
                  refine w_iconst gz_244_13 (by decide) ?_
                  refine w_bret gz_244_14 gm_244 (by omega) (by omega) ?_
                  show wp l rho (d + 8) 243 5 [(2, 151), (0, p45_0), (0, ((3 - p38_0) - p45_0))] [(0, 0)] h45_0 _
                  refine w_ifne (t := 21) gz_243_5 rfl (fun u73 => by exfalso; omega) (fun u73 => ?_)
                  refine w_aload_n gz_243_8 rfl ?_
                  refine w_iload_n gz_243_9 rfl ?_
                  refine w_inv (k := 0) (as := [(0, ((3 - p38_0) - p45_0))]) (r := []) (x := 151) (ls0 := [(2, 151), (0, ((3 - p38_0) - p45_0))]) gz_243_10 gm_244 rfl is_151 rd_10 rfl rfl rfl rfl rfl ?_
                  refine w_aload_n gz_244_0 rfl ?_
                  refine w_getX (v := 199) gz_244_1 is_151 rd_10 rfl (by decide) rfl ?_
                  refine w_iload_n gz_244_4 rfl ?_
                  have hi75 : 0 ≤ ((3 - p38_0) - p45_0) := by omega
                  have hi76 : ((3 - p38_0) - p45_0) ≤ 2 := by omega
                  refine w_iald gz_244_5 is_199 rd_98 (by omega) (by omega) (fun v77 ev77 pv77 qv77 => ?_)
                  refine w_iflt (t := 13) gz_244_6 rfl (fun u78 => ?_) (fun u78 => ?_)
                  ·
                    refine w_iconst gz_244_13 (by decide) ?_
                    refine w_bret gz_244_14 gm_244 (by omega) (by omega) ?_
                    show wp l rho (d + 8) 243 13 [(2, 151), (0, p45_0), (0, ((3 - p38_0) - p45_0))] [(0, 0)] h45_0 _
                    refine w_ifne (t := 25) gz_243_13 rfl (fun u79 => by exfalso; omega) (fun u79 => ?_)
                    refine w_iload_n gz_243_16 rfl ?_
                    refine w_iload_n gz_243_17 rfl ?_
                    refine w_icge (t := 25) gz_243_18 rfl (fun u80 => ?_) (fun u80 => ?_)
                    ·
                      refine w_iconst gz_243_25 (by decide) ?_
                      refine w_bret gz_243_26 gm_243 (by omega) (by omega) ?_
                      show wp l rho (d + 9) 242 78 [(2, 151), (0, x1), (0, p38_0), (0, p45_0), (0, ((3 - p38_0) - p45_0)), (9, 0)] [(0, 0)] h45_0 Q
                      refine w_ifeq (t := 85) gz_242_78 rfl (fun u81 => ?_) (fun u81 => by exfalso; omega)
                      refine w_iconst gz_242_85 (by decide) ?_
                      refine w_istore (ls' := [(2, 151), (0, x1), (0, p38_0), (0, p45_0), (0, ((3 - p38_0) - p45_0)), (0, 0)]) gz_242_86 gm_242 rfl rfl rfl ?_
                      refine w_iload gz_242_88 rfl ?_
                      refine w_ifeq (t := 138) gz_242_90 rfl (fun u82 => ?_) (fun u82 => by exfalso; omega)
                      refine w_iinc (ls' := [(2, 151), (0, x1), (0, p38_0), (0, (p45_0 + 1)), (0, ((3 - p38_0) - p45_0)), (0, 0)]) gz_242_138 rfl gm_242 rfl rfl rfl ⟨by omega, by omega⟩ ?_
                      refine w_goto (t := 45) gz_242_141 rfl ?_
                      have j162 : ∀ j : Int, h45_0 162 j = h45_0 162 j := fun _ => rfl
                      have j163 : ∀ j : Int, h45_0 163 j = h45_0 163 j := fun _ => rfl
                      refine w_weak (ls' := [(2, 151), (0, x1), (0, p38_0), (0, (p45_0 + 1)), (9, 0), (9, 0)]) (wk_e (wk_e (wk_e (wk_e (wk_9 (wk_9 wk_n)))))) ?_
                      exact ih_45_0 ((p45_0 + 1)) (p45_1) h45_0 (gh_45_0) (by omega) (by omega) (by omega) (by omega) (c151_0_45_0.trans (by omega)) (c151_64_45_0.trans (by omega)) n_Mw_45_0 n_Mw3_45_0 n_Rws_45_0 (by first | assumption | omega | (subst_vars; omega) | omega) (by first | exact o135 | exact o9_45_0 | exact o9_38_0 | exact Ot9_e j162 j163 | exact o9_45_0.tr (Ot9_e j162 j163) | exact o9_38_0.tr (Ot9_e j162 j163) | assumption | omega) (by omega)
                    ·
                      refine w_iconst gz_243_21 (by decide) ?_
                      refine w_goto (t := 26) gz_243_22 rfl ?_
                      refine w_bret gz_243_26 gm_243 (by omega) (by omega) ?_
                      show wp l rho (d + 9) 242 78 [(2, 151), (0, x1), (0, p38_0), (0, p45_0), (0, ((3 - p38_0) - p45_0)), (9, 0)] [(0, 1)] h45_0 Q
                      refine w_ifeq (t := 85) gz_242_78 rfl (fun u83 => by exfalso; omega) (fun u83 => ?_)
                      refine w_iconst gz_242_81 (by decide) ?_
                      refine w_goto (t := 86) gz_242_82 rfl ?_
                      refine w_istore (ls' := [(2, 151), (0, x1), (0, p38_0), (0, p45_0), (0, ((3 - p38_0) - p45_0)), (0, 1)]) gz_242_86 gm_242 rfl rfl rfl ?_
                      refine w_iload gz_242_88 rfl ?_
                      refine w_ifeq (t := 138) gz_242_90 rfl (fun u84 => by exfalso; omega) (fun u84 => ?_)
                      refine w_aload_n gz_242_93 rfl ?_
                      refine w_aload_n gz_242_94 rfl ?_
                      refine w_iload_n gz_242_95 rfl ?_
                      refine w_inv (k := 0) (as := [(0, p38_0)]) (r := [(2, 151)]) (x := 151) (ls0 := [(2, 151), (0, p38_0)]) gz_242_96 gm_244 rfl is_151 rd_10 rfl rfl rfl rfl rfl ?_
                      refine w_aload_n gz_244_0 rfl ?_
                      refine w_getX (v := 199) gz_244_1 is_151 rd_10 rfl (by decide) rfl ?_
                      refine w_iload_n gz_244_4 rfl ?_
                      have hi86 : 0 ≤ p38_0 := by omega
                      have hi87 : p38_0 ≤ 2 := by omega
                      refine w_iald gz_244_5 is_199 rd_98 (by omega) (by omega) (fun v88 ev88 pv88 qv88 => ?_)
                      have zv88 := ev88.trans ev7.symm
                      refine w_iflt (t := 13) gz_244_6 rfl (fun u89 => by exfalso; omega) (fun u89 => ?_)
                      refine w_iconst gz_244_9 (by decide) ?_
                      refine w_goto (t := 14) gz_244_10 rfl ?_
                      refine w_bret gz_244_14 gm_244 (by omega) (by omega) ?_
                      show wp l rho (d + 9) 242 99 [(2, 151), (0, x1), (0, p38_0), (0, p45_0), (0, ((3 - p38_0) - p45_0)), (0, 1)] [(0, 1), (2, 151)] h45_0 Q
                      refine w_ifeq (t := 106) gz_242_99 rfl (fun u90 => by exfalso; omega) (fun u90 => ?_)
                      refine w_iload_n gz_242_102 rfl ?_
                      refine w_goto (t := 107) gz_242_103 rfl ?_
                      refine w_aload_n gz_242_107 rfl ?_
                      refine w_iload_n gz_242_108 rfl ?_
                      refine w_inv (k := 0) (as := [(0, p45_0)]) (r := [(0, p38_0), (2, 151)]) (x := 151) (ls0 := [(2, 151), (0, p45_0)]) gz_242_109 gm_244 rfl is_151 rd_10 rfl rfl rfl rfl rfl ?_
                      refine w_aload_n gz_244_0 rfl ?_
                      refine w_getX (v := 199) gz_244_1 is_151 rd_10 rfl (by decide) rfl ?_
                      refine w_iload_n gz_244_4 rfl ?_
                      have hi92 : 0 ≤ p45_0 := by omega
                      have hi93 : p45_0 ≤ 2 := by omega
                      refine w_iald gz_244_5 is_199 rd_98 (by omega) (by omega) (fun v94 ev94 pv94 qv94 => ?_)
                      have zv94 := ev94.trans ev71.symm
                      refine w_iflt (t := 13) gz_244_6 rfl (fun u95 => ?_) (fun u95 => by exfalso; omega)
                      refine w_iconst gz_244_13 (by decide) ?_
                      refine w_bret gz_244_14 gm_244 (by omega) (by omega) ?_
                      show wp l rho (d + 9) 242 112 [(2, 151), (0, x1), (0, p38_0), (0, p45_0), (0, ((3 - p38_0) - p45_0)), (0, 1)] [(0, 0), (0, p38_0), (2, 151)] h45_0 Q
                      refine w_ifeq (t := 119) gz_242_112 rfl (fun u96 => ?_) (fun u96 => by exfalso; omega)
                      refine w_iconst gz_242_119 (by decide) ?_
                      refine w_aload_n gz_242_120 rfl ?_
                      refine w_iload gz_242_121 rfl ?_
                      refine w_inv (k := 0) (as := [(0, ((3 - p38_0) - p45_0))]) (r := [(0, (-1)), (0, p38_0), (2, 151)]) (x := 151) (ls0 := [(2, 151), (0, ((3 - p38_0) - p45_0))]) gz_242_123 gm_244 rfl is_151 rd_10 rfl rfl rfl rfl rfl ?_
                      refine w_aload_n gz_244_0 rfl ?_
                      refine w_getX (v := 199) gz_244_1 is_151 rd_10 rfl (by decide) rfl ?_
                      refine w_iload_n gz_244_4 rfl ?_
                      have hi98 : 0 ≤ ((3 - p38_0) - p45_0) := by omega
                      have hi99 : ((3 - p38_0) - p45_0) ≤ 2 := by omega
                      refine w_iald gz_244_5 is_199 rd_98 (by omega) (by omega) (fun v100 ev100 pv100 qv100 => ?_)
                      have zv100 := ev100.trans ev77.symm
                      refine w_iflt (t := 13) gz_244_6 rfl (fun u101 => ?_) (fun u101 => by exfalso; omega)
                      refine w_iconst gz_244_13 (by decide) ?_
                      refine w_bret gz_244_14 gm_244 (by omega) (by omega) ?_
                      show wp l rho (d + 9) 242 126 [(2, 151), (0, x1), (0, p38_0), (0, p45_0), (0, ((3 - p38_0) - p45_0)), (0, 1)] [(0, 0), (0, (-1)), (0, p38_0), (2, 151)] h45_0 Q
                      refine w_ifeq (t := 134) gz_242_126 rfl (fun u102 => ?_) (fun u102 => by exfalso; omega)
                      refine w_iconst gz_242_134 (by decide) ?_
                      have ma135 : zqMA h45_0 = zqMA h := zqMA_e (fun j => my_fr.at gh_45_0 pis_157 rfl) (fun j => my_fr.at gh_45_0 pis_158 rfl) (fun j => my_fr.at gh_45_0 pis_159 rfl) (fun j => my_fr.at gh_45_0 pis_160 rfl) (fun j => my_fr.at gh_45_0 pis_161 rfl)
                      refine w_inv (k := 4) (as := [(0, (-1)), (0, (-1)), (0, p38_0)]) (r := []) (x := 151) (ls0 := [(2, 151), (0, p38_0), (0, (-1)), (0, (-1)), (9, 0), (9, 0), (9, 0), (9, 0)]) gz_242_135 gm_245 rfl is_151 rd_10 rfl rfl rfl rfl rfl (c_Model_ordered4 (d := d) (x1 := p38_0) (x2 := (-1)) (x3 := (-1)) (by omega) (by omega) (by omega) (by omega) (by omega) (by omega) n_Mw_45_0 n_Mw3_45_0 n_Rws_45_0 (by first | assumption | exact no_such_saying | exact Fp_told (by omega) (by omega) | omega | (subst_vars; omega) | omega) (LmW_ag (my_ag.fr (F := LmF) gh_45_0 rfl) hlm) ((by rw [ma135]; exact zqWo_c (o9_45_0.ms (by omega) (by omega)) (fun u a b => (T0.2.2.2 u a (by omega)).2) (fun p a b => T0.2.2.1 p a (by omega)) hwo)) (fun h103 frh103 w104 xp105 xp106 Rws_h103t107 => ?_))
                      have gh103 : my_fr [(10, 0), (10, 27), (10, 32), (10, 33), (10, 37), (10, 46), (10, 48), (10, 62), (10, 63), (10, 64), (10, 65), (61, -1), (62, -1), (73, -1), (74, -1), (75, -1), (76, -1), (77, -1), (78, -1), (79, -1), (80, -1), (81, -1), (82, -1), (83, -1), (84, -1), (85, -1), (86, -1), (88, -1), (89, -1), (90, -1), (91, -1), (92, -1), (93, -1), (94, -1)] h h103 := my_fr.tr gh_45_0 (frh103.mo rfl)
                      have Mw_h103 : Mw h103 := Mw_ag (my_ag.fr frh103 rfl) n_Mw_45_0
                      have Mw3_h103 : Mw3 h103 := Mw3_ag (my_ag.fr frh103 rfl) n_Mw3_45_0
                      show wp l rho (d + 9) 242 138 [(2, 151), (0, x1), (0, p38_0), (0, p45_0), (0, ((3 - p38_0) - p45_0)), (0, 1)] [] h103 Q
                      have o135 : Ot9 h h103 := o9_45_0.tr xp106
                      refine w_iinc (ls' := [(2, 151), (0, x1), (0, p38_0), (0, (p45_0 + 1)), (0, ((3 - p38_0) - p45_0)), (0, 1)]) gz_242_138 rfl gm_242 rfl rfl rfl ⟨by omega, by omega⟩ ?_
                      refine w_goto (t := 45) gz_242_141 rfl ?_
                      have j162 : ∀ j : Int, h103 162 j = h103 162 j := fun j => rfl
                      have j163 : ∀ j : Int, h103 163 j = h103 163 j := fun j => rfl
                      refine w_weak (ls' := [(2, 151), (0, x1), (0, p38_0), (0, (p45_0 + 1)), (9, 0), (9, 0)]) (wk_e (wk_e (wk_e (wk_e (wk_9 (wk_9 wk_n)))))) ?_
                      exact ih_45_0 ((p45_0 + 1)) ((h103 151 64)) h103 (gh103) (by omega) (by omega) (by omega) (by omega) (((my_fr.at frh103 is_151 rfl).trans c151_0_45_0).trans (by omega)) ((rfl : h103 151 64 = h103 151 64).trans (by omega)) Mw_h103 Mw3_h103 Rws_h103t107 (by first | assumption | omega | (subst_vars; omega) | omega) (by first | exact o135 | exact o9_45_0 | exact o9_38_0 | exact Ot9_e j162 j163 | exact o9_45_0.tr (Ot9_e j162 j163) | exact o9_38_0.tr (Ot9_e j162 j163) | assumption | omega) (by omega)
                  ·
                    refine w_iconst gz_244_9 (by decide) ?_
                    refine w_goto (t := 14) gz_244_10 rfl ?_
                    refine w_bret gz_244_14 gm_244 (by omega) (by omega) ?_
                    show wp l rho (d + 8) 243 13 [(2, 151), (0, p45_0), (0, ((3 - p38_0) - p45_0))] [(0, 1)] h45_0 _
                    refine w_ifne (t := 25) gz_243_13 rfl (fun u108 => ?_) (fun u108 => by exfalso; omega)
                    refine w_iconst gz_243_25 (by decide) ?_
                    refine w_bret gz_243_26 gm_243 (by omega) (by omega) ?_
                    show wp l rho (d + 9) 242 78 [(2, 151), (0, x1), (0, p38_0), (0, p45_0), (0, ((3 - p38_0) - p45_0)), (9, 0)] [(0, 0)] h45_0 Q
                    refine w_ifeq (t := 85) gz_242_78 rfl (fun u109 => ?_) (fun u109 => by exfalso; omega)
                    refine w_iconst gz_242_85 (by decide) ?_
                    refine w_istore (ls' := [(2, 151), (0, x1), (0, p38_0), (0, p45_0), (0, ((3 - p38_0) - p45_0)), (0, 0)]) gz_242_86 gm_242 rfl rfl rfl ?_
                    refine w_iload gz_242_88 rfl ?_
                    refine w_ifeq (t := 138) gz_242_90 rfl (fun u110 => ?_) (fun u110 => by exfalso; omega)
                    refine w_iinc (ls' := [(2, 151), (0, x1), (0, p38_0), (0, (p45_0 + 1)), (0, ((3 - p38_0) - p45_0)), (0, 0)]) gz_242_138 rfl gm_242 rfl rfl rfl ⟨by omega, by omega⟩ ?_
                    refine w_goto (t := 45) gz_242_141 rfl ?_
                    have j162 : ∀ j : Int, h45_0 162 j = h45_0 162 j := fun _ => rfl
                    have j163 : ∀ j : Int, h45_0 163 j = h45_0 163 j := fun _ => rfl
                    refine w_weak (ls' := [(2, 151), (0, x1), (0, p38_0), (0, (p45_0 + 1)), (9, 0), (9, 0)]) (wk_e (wk_e (wk_e (wk_e (wk_9 (wk_9 wk_n)))))) ?_
                    exact ih_45_0 ((p45_0 + 1)) (p45_1) h45_0 (gh_45_0) (by omega) (by omega) (by omega) (by omega) (c151_0_45_0.trans (by omega)) (c151_64_45_0.trans (by omega)) n_Mw_45_0 n_Mw3_45_0 n_Rws_45_0 (by first | assumption | omega | (subst_vars; omega) | omega) (by first | exact o135 | exact o9_45_0 | exact o9_38_0 | exact Ot9_e j162 j163 | exact o9_45_0.tr (Ot9_e j162 j163) | exact o9_38_0.tr (Ot9_e j162 j163) | assumption | omega) (by omega)
                ·
                  refine w_iconst gz_244_9 (by decide) ?_
                  refine w_goto (t := 14) gz_244_10 rfl ?_
                  refine w_bret gz_244_14 gm_244 (by omega) (by omega) ?_
                  show wp l rho (d + 8) 243 5 [(2, 151), (0, p45_0), (0, ((3 - p38_0) - p45_0))] [(0, 1)] h45_0 _
                  refine w_ifne (t := 21) gz_243_5 rfl (fun u111 => ?_) (fun u111 => by exfalso; omega)
                  refine w_iconst gz_243_21 (by decide) ?_
                  refine w_goto (t := 26) gz_243_22 rfl ?_
                  refine w_bret gz_243_26 gm_243 (by omega) (by omega) ?_
                  show wp l rho (d + 9) 242 78 [(2, 151), (0, x1), (0, p38_0), (0, p45_0), (0, ((3 - p38_0) - p45_0)), (9, 0)] [(0, 1)] h45_0 Q
                  refine w_ifeq (t := 85) gz_242_78 rfl (fun u112 => by exfalso; omega) (fun u112 => ?_)
                  refine w_iconst gz_242_81 (by decide) ?_
                  refine w_goto (t := 86) gz_242_82 rfl ?_
                  refine w_istore (ls' := [(2, 151), (0, x1), (0, p38_0), (0, p45_0), (0, ((3 - p38_0) - p45_0)), (0, 1)]) gz_242_86 gm_242 rfl rfl rfl ?_
                  refine w_iload gz_242_88 rfl ?_
                  refine w_ifeq (t := 138) gz_242_90 rfl (fun u113 => by exfalso; omega) (fun u113 => ?_)
                  refine w_aload_n gz_242_93 rfl ?_
                  refine w_aload_n gz_242_94 rfl ?_
                  refine w_iload_n gz_242_95 rfl ?_
                  refine w_inv (k := 0) (as := [(0, p38_0)]) (r := [(2, 151)]) (x := 151) (ls0 := [(2, 151), (0, p38_0)]) gz_242_96 gm_244 rfl is_151 rd_10 rfl rfl rfl rfl rfl ?_
                  refine w_aload_n gz_244_0 rfl ?_
                  refine w_getX (v := 199) gz_244_1 is_151 rd_10 rfl (by decide) rfl ?_
                  refine w_iload_n gz_244_4 rfl ?_
                  have hi115 : 0 ≤ p38_0 := by omega
                  have hi116 : p38_0 ≤ 2 := by omega
                  refine w_iald gz_244_5 is_199 rd_98 (by omega) (by omega) (fun v117 ev117 pv117 qv117 => ?_)
                  have zv117 := ev117.trans ev7.symm
                  refine w_iflt (t := 13) gz_244_6 rfl (fun u118 => by exfalso; omega) (fun u118 => ?_)
                  refine w_iconst gz_244_9 (by decide) ?_
                  refine w_goto (t := 14) gz_244_10 rfl ?_
                  refine w_bret gz_244_14 gm_244 (by omega) (by omega) ?_
                  show wp l rho (d + 9) 242 99 [(2, 151), (0, x1), (0, p38_0), (0, p45_0), (0, ((3 - p38_0) - p45_0)), (0, 1)] [(0, 1), (2, 151)] h45_0 Q
                  refine w_ifeq (t := 106) gz_242_99 rfl (fun u119 => by exfalso; omega) (fun u119 => ?_)
                  refine w_iload_n gz_242_102 rfl ?_
                  refine w_goto (t := 107) gz_242_103 rfl ?_
                  refine w_aload_n gz_242_107 rfl ?_
                  refine w_iload_n gz_242_108 rfl ?_
                  refine w_inv (k := 0) (as := [(0, p45_0)]) (r := [(0, p38_0), (2, 151)]) (x := 151) (ls0 := [(2, 151), (0, p45_0)]) gz_242_109 gm_244 rfl is_151 rd_10 rfl rfl rfl rfl rfl ?_
                  refine w_aload_n gz_244_0 rfl ?_
                  refine w_getX (v := 199) gz_244_1 is_151 rd_10 rfl (by decide) rfl ?_
                  refine w_iload_n gz_244_4 rfl ?_
                  have hi121 : 0 ≤ p45_0 := by omega
                  have hi122 : p45_0 ≤ 2 := by omega
                  refine w_iald gz_244_5 is_199 rd_98 (by omega) (by omega) (fun v123 ev123 pv123 qv123 => ?_)
                  have zv123 := ev123.trans ev71.symm
                  refine w_iflt (t := 13) gz_244_6 rfl (fun u124 => by exfalso; omega) (fun u124 => ?_)
                  refine w_iconst gz_244_9 (by decide) ?_
                  refine w_goto (t := 14) gz_244_10 rfl ?_
                  refine w_bret gz_244_14 gm_244 (by omega) (by omega) ?_
                  show wp l rho (d + 9) 242 112 [(2, 151), (0, x1), (0, p38_0), (0, p45_0), (0, ((3 - p38_0) - p45_0)), (0, 1)] [(0, 1), (0, p38_0), (2, 151)] h45_0 Q
                  refine w_ifeq (t := 119) gz_242_112 rfl (fun u125 => by exfalso; omega) (fun u125 => ?_)
                  refine w_iload_n gz_242_115 rfl ?_
                  refine w_goto (t := 120) gz_242_116 rfl ?_
                  refine w_aload_n gz_242_120 rfl ?_
                  refine w_iload gz_242_121 rfl ?_
                  refine w_inv (k := 0) (as := [(0, ((3 - p38_0) - p45_0))]) (r := [(0, p45_0), (0, p38_0), (2, 151)]) (x := 151) (ls0 := [(2, 151), (0, ((3 - p38_0) - p45_0))]) gz_242_123 gm_244 rfl is_151 rd_10 rfl rfl rfl rfl rfl ?_
                  refine w_aload_n gz_244_0 rfl ?_
                  refine w_getX (v := 199) gz_244_1 is_151 rd_10 rfl (by decide) rfl ?_
                  refine w_iload_n gz_244_4 rfl ?_
                  have hi127 : 0 ≤ ((3 - p38_0) - p45_0) := by omega
                  have hi128 : ((3 - p38_0) - p45_0) ≤ 2 := by omega
                  refine w_iald gz_244_5 is_199 rd_98 (by omega) (by omega) (fun v129 ev129 pv129 qv129 => ?_)
                  refine w_iflt (t := 13) gz_244_6 rfl (fun u130 => ?_) (fun u130 => ?_)
                  ·
                    refine w_iconst gz_244_13 (by decide) ?_
                    refine w_bret gz_244_14 gm_244 (by omega) (by omega) ?_
                    show wp l rho (d + 9) 242 126 [(2, 151), (0, x1), (0, p38_0), (0, p45_0), (0, ((3 - p38_0) - p45_0)), (0, 1)] [(0, 0), (0, p45_0), (0, p38_0), (2, 151)] h45_0 Q
                    refine w_ifeq (t := 134) gz_242_126 rfl (fun u131 => ?_) (fun u131 => by exfalso; omega)
                    refine w_iconst gz_242_134 (by decide) ?_
                    have ma135 : zqMA h45_0 = zqMA h := zqMA_e (fun j => my_fr.at gh_45_0 pis_157 rfl) (fun j => my_fr.at gh_45_0 pis_158 rfl) (fun j => my_fr.at gh_45_0 pis_159 rfl) (fun j => my_fr.at gh_45_0 pis_160 rfl) (fun j => my_fr.at gh_45_0 pis_161 rfl)
                    refine w_inv (k := 4) (as := [(0, (-1)), (0, p45_0), (0, p38_0)]) (r := []) (x := 151) (ls0 := [(2, 151), (0, p38_0), (0, p45_0), (0, (-1)), (9, 0), (9, 0), (9, 0), (9, 0)]) gz_242_135 gm_245 rfl is_151 rd_10 rfl rfl rfl rfl rfl (c_Model_ordered4 (d := d) (x1 := p38_0) (x2 := p45_0) (x3 := (-1)) (by omega) (by omega) (by omega) (by omega) (by omega) (by omega) n_Mw_45_0 n_Mw3_45_0 n_Rws_45_0 (by first | assumption | exact no_such_saying | exact Fp_told (by omega) (by omega) | omega | (subst_vars; omega) | omega) (LmW_ag (my_ag.fr (F := LmF) gh_45_0 rfl) hlm) ((by rw [ma135]; exact zqWo_c (o9_45_0.ms (by omega) (by omega)) (fun u a b => (T0.2.2.2 u a (by omega)).2) (fun p a b => T0.2.2.1 p a (by omega)) hwo)) (fun h132 frh132 w133 xp134 xp135 Rws_h132t136 => ?_))
                    have gh132 : my_fr [(10, 0), (10, 27), (10, 32), (10, 33), (10, 37), (10, 46), (10, 48), (10, 62), (10, 63), (10, 64), (10, 65), (61, -1), (62, -1), (73, -1), (74, -1), (75, -1), (76, -1), (77, -1), (78, -1), (79, -1), (80, -1), (81, -1), (82, -1), (83, -1), (84, -1), (85, -1), (86, -1), (88, -1), (89, -1), (90, -1), (91, -1), (92, -1), (93, -1), (94, -1)] h h132 := my_fr.tr gh_45_0 (frh132.mo rfl)
                    have Mw_h132 : Mw h132 := Mw_ag (my_ag.fr frh132 rfl) n_Mw_45_0
                    have Mw3_h132 : Mw3 h132 := Mw3_ag (my_ag.fr frh132 rfl) n_Mw3_45_0
                    show wp l rho (d + 9) 242 138 [(2, 151), (0, x1), (0, p38_0), (0, p45_0), (0, ((3 - p38_0) - p45_0)), (0, 1)] [] h132 Q
                    have o135 : Ot9 h h132 := o9_45_0.tr xp135
                    refine w_iinc (ls' := [(2, 151), (0, x1), (0, p38_0), (0, (p45_0 + 1)), (0, ((3 - p38_0) - p45_0)), (0, 1)]) gz_242_138 rfl gm_242 rfl rfl rfl ⟨by omega, by omega⟩ ?_
                    refine w_goto (t := 45) gz_242_141 rfl ?_
                    have j162 : ∀ j : Int, h132 162 j = h132 162 j := fun j => rfl
                    have j163 : ∀ j : Int, h132 163 j = h132 163 j := fun j => rfl
                    refine w_weak (ls' := [(2, 151), (0, x1), (0, p38_0), (0, (p45_0 + 1)), (9, 0), (9, 0)]) (wk_e (wk_e (wk_e (wk_e (wk_9 (wk_9 wk_n)))))) ?_
                    exact ih_45_0 ((p45_0 + 1)) ((h132 151 64)) h132 (gh132) (by omega) (by omega) (by omega) (by omega) (((my_fr.at frh132 is_151 rfl).trans c151_0_45_0).trans (by omega)) ((rfl : h132 151 64 = h132 151 64).trans (by omega)) Mw_h132 Mw3_h132 Rws_h132t136 (by first | assumption | omega | (subst_vars; omega) | omega) (by first | exact o135 | exact o9_45_0 | exact o9_38_0 | exact Ot9_e j162 j163 | exact o9_45_0.tr (Ot9_e j162 j163) | exact o9_38_0.tr (Ot9_e j162 j163) | assumption | omega) (by omega)
                  ·
                    refine w_iconst gz_244_9 (by decide) ?_
                    refine w_goto (t := 14) gz_244_10 rfl ?_
                    refine w_bret gz_244_14 gm_244 (by omega) (by omega) ?_
                    show wp l rho (d + 9) 242 126 [(2, 151), (0, x1), (0, p38_0), (0, p45_0), (0, ((3 - p38_0) - p45_0)), (0, 1)] [(0, 1), (0, p45_0), (0, p38_0), (2, 151)] h45_0 Q
                    refine w_ifeq (t := 134) gz_242_126 rfl (fun u137 => by exfalso; omega) (fun u137 => ?_)
                    refine w_iload gz_242_129 rfl ?_
                    refine w_goto (t := 135) gz_242_131 rfl ?_
                    have ma135 : zqMA h45_0 = zqMA h := zqMA_e (fun j => my_fr.at gh_45_0 pis_157 rfl) (fun j => my_fr.at gh_45_0 pis_158 rfl) (fun j => my_fr.at gh_45_0 pis_159 rfl) (fun j => my_fr.at gh_45_0 pis_160 rfl) (fun j => my_fr.at gh_45_0 pis_161 rfl)
                    refine w_inv (k := 4) (as := [(0, ((3 - p38_0) - p45_0)), (0, p45_0), (0, p38_0)]) (r := []) (x := 151) (ls0 := [(2, 151), (0, p38_0), (0, p45_0), (0, ((3 - p38_0) - p45_0)), (9, 0), (9, 0), (9, 0), (9, 0)]) gz_242_135 gm_245 rfl is_151 rd_10 rfl rfl rfl rfl rfl (c_Model_ordered4 (d := d) (x1 := p38_0) (x2 := p45_0) (x3 := ((3 - p38_0) - p45_0)) (by omega) (by omega) (by omega) (by omega) (by omega) (by omega) n_Mw_45_0 n_Mw3_45_0 n_Rws_45_0 (by first | assumption | exact no_such_saying | exact Fp_told (by omega) (by omega) | omega | (subst_vars; omega) | omega) (LmW_ag (my_ag.fr (F := LmF) gh_45_0 rfl) hlm) ((by rw [ma135]; exact zqWo_c (o9_45_0.ms (by omega) (by omega)) (fun u a b => (T0.2.2.2 u a (by omega)).2) (fun p a b => T0.2.2.1 p a (by omega)) hwo)) (fun h138 frh138 w139 xp140 xp141 Rws_h138t142 => ?_))
                    have gh138 : my_fr [(10, 0), (10, 27), (10, 32), (10, 33), (10, 37), (10, 46), (10, 48), (10, 62), (10, 63), (10, 64), (10, 65), (61, -1), (62, -1), (73, -1), (74, -1), (75, -1), (76, -1), (77, -1), (78, -1), (79, -1), (80, -1), (81, -1), (82, -1), (83, -1), (84, -1), (85, -1), (86, -1), (88, -1), (89, -1), (90, -1), (91, -1), (92, -1), (93, -1), (94, -1)] h h138 := my_fr.tr gh_45_0 (frh138.mo rfl)
                    have Mw_h138 : Mw h138 := Mw_ag (my_ag.fr frh138 rfl) n_Mw_45_0
                    have Mw3_h138 : Mw3 h138 := Mw3_ag (my_ag.fr frh138 rfl) n_Mw3_45_0
                    show wp l rho (d + 9) 242 138 [(2, 151), (0, x1), (0, p38_0), (0, p45_0), (0, ((3 - p38_0) - p45_0)), (0, 1)] [] h138 Q
                    have o135 : Ot9 h h138 := o9_45_0.tr xp141
                    refine w_iinc (ls' := [(2, 151), (0, x1), (0, p38_0), (0, (p45_0 + 1)), (0, ((3 - p38_0) - p45_0)), (0, 1)]) gz_242_138 rfl gm_242 rfl rfl rfl ⟨by omega, by omega⟩ ?_
                    refine w_goto (t := 45) gz_242_141 rfl ?_
                    have j162 : ∀ j : Int, h138 162 j = h138 162 j := fun j => rfl
                    have j163 : ∀ j : Int, h138 163 j = h138 163 j := fun j => rfl
                    refine w_weak (ls' := [(2, 151), (0, x1), (0, p38_0), (0, (p45_0 + 1)), (9, 0), (9, 0)]) (wk_e (wk_e (wk_e (wk_e (wk_9 (wk_9 wk_n)))))) ?_
                    exact ih_45_0 ((p45_0 + 1)) ((h138 151 64)) h138 (gh138) (by omega) (by omega) (by omega) (by omega) (((my_fr.at frh138 is_151 rfl).trans c151_0_45_0).trans (by omega)) ((rfl : h138 151 64 = h138 151 64).trans (by omega)) Mw_h138 Mw3_h138 Rws_h138t142 (by first | assumption | omega | (subst_vars; omega) | omega) (by first | exact o135 | exact o9_45_0 | exact o9_38_0 | exact Ot9_e j162 j163 | exact o9_45_0.tr (Ot9_e j162 j163) | exact o9_38_0.tr (Ot9_e j162 j163) | assumption | omega) (by omega)
      refine w_iload_n gz_242_38 rfl ?_
      refine w_iconst gz_242_39 (by decide) ?_
      refine w_icge (t := 150) gz_242_40 rfl (fun u143 => ?_) (fun u143 => ?_)
      ·
        refine w_iload_n gz_242_150 rfl ?_
        refine w_ifne (t := 161) gz_242_151 rfl (fun u144 => ?_) (fun u144 => ?_)
        ·
          refine w_iload_n gz_242_161 rfl ?_
          refine w_iconst gz_242_162 (by decide) ?_
          refine w_icne (t := 173) gz_242_163 rfl (fun u145 => ?_) (fun u145 => ?_)
          ·
            refine w_iload_n gz_242_173 rfl ?_
            refine w_iconst gz_242_174 (by decide) ?_
            refine w_icne (t := 185) gz_242_175 rfl (fun u146 => ?_) (fun u146 => ?_)
            ·
              refine w_aload_n gz_242_185 rfl ?_
              refine v_getI (j := 65) gz_242_186 rfl is_151 rd_10 rfl (fun v147 ev147 pv147 qv147 => ?_)
              have r162 : ∀ j : Int, h38_0 162 j = h38_0 162 j := fun _ => rfl
              have r163 : ∀ j : Int, h38_0 163 j = h38_0 163 j := fun _ => rfl
              have c148 := c151_0_38_0
              have c149 := c151_64_38_0
              exact w_iret gz_242_189 gm_242 (k2 h38_0 (v147) (gh_38_0) (by omega) (by omega) (by omega) (by omega) (by first | exact o9_38_0 | exact o9_38_0.tr (Ot9_e r162 r163) | exact Ot9_e r162 r163 | assumption | omega) n_Rws_38_0)
            ·
              refine w_aload_n gz_242_178 rfl ?_
              refine v_getI (j := 64) gz_242_179 rfl is_151 rd_10 rfl (fun v150 ev150 pv150 qv150 => ?_)
              have zv150 := ev150.trans c151_64_38_0
              refine w_goto (t := 189) gz_242_182 rfl ?_
              have r162 : ∀ j : Int, h38_0 162 j = h38_0 162 j := fun _ => rfl
              have r163 : ∀ j : Int, h38_0 163 j = h38_0 163 j := fun _ => rfl
              have c151 := c151_0_38_0
              have c152 := ev150.symm
              exact w_iret gz_242_189 gm_242 (k2 h38_0 (v150) (gh_38_0) (by omega) (by omega) (by omega) (by omega) (by first | exact o9_38_0 | exact o9_38_0.tr (Ot9_e r162 r163) | exact Ot9_e r162 r163 | assumption | omega) n_Rws_38_0)
          ·
            refine w_aload_n gz_242_166 rfl ?_
            refine v_getI (j := 63) gz_242_167 rfl is_151 rd_10 rfl (fun v153 ev153 pv153 qv153 => ?_)
            refine w_goto (t := 189) gz_242_170 rfl ?_
            have r162 : ∀ j : Int, h38_0 162 j = h38_0 162 j := fun _ => rfl
            have r163 : ∀ j : Int, h38_0 163 j = h38_0 163 j := fun _ => rfl
            have c154 := c151_0_38_0
            have c155 := c151_64_38_0
            exact w_iret gz_242_189 gm_242 (k2 h38_0 (v153) (gh_38_0) (by omega) (by omega) (by omega) (by omega) (by first | exact o9_38_0 | exact o9_38_0.tr (Ot9_e r162 r163) | exact Ot9_e r162 r163 | assumption | omega) n_Rws_38_0)
        ·
          refine w_aload_n gz_242_154 rfl ?_
          refine v_getI (j := 62) gz_242_155 rfl is_151 rd_10 rfl (fun v156 ev156 pv156 qv156 => ?_)
          refine w_goto (t := 189) gz_242_158 rfl ?_
          have r162 : ∀ j : Int, h38_0 162 j = h38_0 162 j := fun _ => rfl
          have r163 : ∀ j : Int, h38_0 163 j = h38_0 163 j := fun _ => rfl
          have c157 := c151_0_38_0
          have c158 := c151_64_38_0
          exact w_iret gz_242_189 gm_242 (k2 h38_0 (v156) (gh_38_0) (by omega) (by omega) (by omega) (by omega) (by first | exact o9_38_0 | exact o9_38_0.tr (Ot9_e r162 r163) | exact Ot9_e r162 r163 | assumption | omega) n_Rws_38_0)
      ·
        refine w_iconst gz_242_43 (by decide) ?_
        refine w_istore_n (ls' := [(2, 151), (0, x1), (0, p38_0), (0, 0), (9, 0), (9, 0)]) gz_242_44 gm_242 rfl rfl rfl ?_
        have j162 : ∀ j : Int, h38_0 162 j = h38_0 162 j := fun _ => rfl
        have j163 : ∀ j : Int, h38_0 163 j = h38_0 163 j := fun _ => rfl
        exact J45_0 4 (0) (p38_1) h38_0 (gh_38_0) (by omega) (by omega) (by omega) (by omega) (c151_0_38_0.trans (by omega)) (c151_64_38_0.trans (by omega)) n_Mw_38_0 n_Mw3_38_0 n_Rws_38_0 (by first | assumption | omega | (subst_vars; omega) | omega) (by first | exact o135 | exact o9_45_0 | exact o9_38_0 | exact Ot9_e j162 j163 | exact o9_45_0.tr (Ot9_e j162 j163) | exact o9_38_0.tr (Ot9_e j162 j163) | assumption | omega) (by omega)
  refine w_aload_n gz_242_0 rfl ?_
  refine w_iconst gz_242_1 (by decide) ?_
  refine v_putI (j := 0) gz_242_2 rfl is_151 rd_10 rfl (by omega) (by omega) rfl (fun h159 fh159 => ?_)
  have gh159 : my_fr [(10, 0), (10, 27), (10, 32), (10, 33), (10, 37), (10, 46), (10, 48), (10, 62), (10, 63), (10, 64), (10, 65), (61, -1), (62, -1), (73, -1), (74, -1), (75, -1), (76, -1), (77, -1), (78, -1), (79, -1), (80, -1), (81, -1), (82, -1), (83, -1), (84, -1), (85, -1), (86, -1), (88, -1), (89, -1), (90, -1), (91, -1), (92, -1), (93, -1), (94, -1)] h h159 := my_fr.up my_fr.rf is_151 fh159 rfl
  have Mw_h159 : Mw h159 := Mw_ag (my_ag.up fh159 is_151 rfl) n_Mw
  have Mw3_h159 : Mw3 h159 := Mw3_ag (my_ag.up fh159 is_151 rfl) n_Mw3
  have Rws_h159 : Rws h159 := Rws_ag (my_ag.up fh159 is_151 rfl) n_Rws
  refine w_iload_n gz_242_5 rfl ?_
  refine w_iconst gz_242_6 (by decide) ?_
  refine w_iconst gz_242_7 (by decide) ?_
  refine w_inS (k := 0) (as := [(0, 3), (0, 0), (0, x1)]) (r := []) (ls0 := [(0, x1), (0, 0), (0, 3)]) gz_242_8 gm_147 rfl rfl rfl rfl rfl rfl ?_
  refine w_iload_n gz_147_0 rfl ?_
  refine w_iload_n gz_147_1 rfl ?_
  refine w_iclt (t := 14) gz_147_2 rfl (fun u160 => ?_) (fun u160 => ?_)
  ·
    refine w_iconst gz_147_14 (by decide) ?_
    refine w_bret gz_147_15 gm_147 (by omega) (by omega) ?_
    show wp l rho (d + 9) 242 11 [(2, 151), (0, x1), (9, 0), (9, 0), (9, 0), (9, 0)] [(0, 0)] h159 Q
    refine w_ifne (t := 16) gz_242_11 rfl (fun u161 => by exfalso; omega) (fun u161 => ?_)
    refine w_iconst gz_242_14 (by decide) ?_
    have r162 : ∀ j : Int, h159 162 j = h 162 j := fun j => ((my_up_role fh159 is_162 is_151 rfl).trans (rfl : h 162 j = h 162 j))
    have r163 : ∀ j : Int, h159 163 j = h 163 j := fun j => ((my_up_role fh159 is_163 is_151 rfl).trans (rfl : h 163 j = h 163 j))
    have c162 := (my_up_self fh159)
    exact w_iret gz_242_15 gm_242 (k0 h159 (gh159) (by omega) (by first | exact o9_38_0 | exact o9_38_0.tr (Ot9_e r162 r163) | exact Ot9_e r162 r163 | assumption | omega) Rws_h159)
  ·
    refine w_iload_n gz_147_5 rfl ?_
    refine w_iload_n gz_147_6 rfl ?_
    refine w_icgt (t := 14) gz_147_7 rfl (fun u163 => ?_) (fun u163 => ?_)
    ·
      refine w_iconst gz_147_14 (by decide) ?_
      refine w_bret gz_147_15 gm_147 (by omega) (by omega) ?_
      show wp l rho (d + 9) 242 11 [(2, 151), (0, x1), (9, 0), (9, 0), (9, 0), (9, 0)] [(0, 0)] h159 Q
      refine w_ifne (t := 16) gz_242_11 rfl (fun u164 => by exfalso; omega) (fun u164 => ?_)
      refine w_iconst gz_242_14 (by decide) ?_
      have r162 : ∀ j : Int, h159 162 j = h 162 j := fun j => ((my_up_role fh159 is_162 is_151 rfl).trans (rfl : h 162 j = h 162 j))
      have r163 : ∀ j : Int, h159 163 j = h 163 j := fun j => ((my_up_role fh159 is_163 is_151 rfl).trans (rfl : h 163 j = h 163 j))
      have c165 := (my_up_self fh159)
      exact w_iret gz_242_15 gm_242 (k0 h159 (gh159) (by omega) (by first | exact o9_38_0 | exact o9_38_0.tr (Ot9_e r162 r163) | exact Ot9_e r162 r163 | assumption | omega) Rws_h159)
    ·
      refine w_iconst gz_147_10 (by decide) ?_
      refine w_goto (t := 15) gz_147_11 rfl ?_
      refine w_bret gz_147_15 gm_147 (by omega) (by omega) ?_
      show wp l rho (d + 9) 242 11 [(2, 151), (0, x1), (9, 0), (9, 0), (9, 0), (9, 0)] [(0, 1)] h159 Q
      refine w_ifne (t := 16) gz_242_11 rfl (fun u166 => ?_) (fun u166 => by exfalso; omega)
      refine w_aload_n gz_242_16 rfl ?_
      refine w_iconst gz_242_17 (by decide) ?_
      refine v_putA (j := 62) gz_242_18 rfl is_151 rd_10 rfl rfl (fun h167 fh167 => ?_)
      have gh167 : my_fr [(10, 0), (10, 27), (10, 32), (10, 33), (10, 37), (10, 46), (10, 48), (10, 62), (10, 63), (10, 64), (10, 65), (61, -1), (62, -1), (73, -1), (74, -1), (75, -1), (76, -1), (77, -1), (78, -1), (79, -1), (80, -1), (81, -1), (82, -1), (83, -1), (84, -1), (85, -1), (86, -1), (88, -1), (89, -1), (90, -1), (91, -1), (92, -1), (93, -1), (94, -1)] h h167 := my_fr.up gh159 is_151 fh167 rfl
      have Mw_h167 : Mw h167 := Mw_ag (my_ag.up fh167 is_151 rfl) Mw_h159
      have Mw3_h167 : Mw3 h167 := Mw3_ag (my_ag.up fh167 is_151 rfl) Mw3_h159
      have Rws_h167 : Rws h167 := Rws_ag (my_ag.up fh167 is_151 rfl) Rws_h159
      refine w_aload_n gz_242_21 rfl ?_
      refine w_iconst gz_242_22 (by decide) ?_
      refine v_putI (j := 63) gz_242_23 rfl is_151 rd_10 rfl (by omega) (by omega) rfl (fun h168 fh168 => ?_)
      have gh168 : my_fr [(10, 0), (10, 27), (10, 32), (10, 33), (10, 37), (10, 46), (10, 48), (10, 62), (10, 63), (10, 64), (10, 65), (61, -1), (62, -1), (73, -1), (74, -1), (75, -1), (76, -1), (77, -1), (78, -1), (79, -1), (80, -1), (81, -1), (82, -1), (83, -1), (84, -1), (85, -1), (86, -1), (88, -1), (89, -1), (90, -1), (91, -1), (92, -1), (93, -1), (94, -1)] h h168 := my_fr.up gh167 is_151 fh168 rfl
      have Mw_h168 : Mw h168 := Mw_ag (my_ag.up fh168 is_151 rfl) Mw_h167
      have Mw3_h168 : Mw3 h168 := Mw3_ag (my_ag.up fh168 is_151 rfl) Mw3_h167
      have Rws_h168 : Rws h168 := Rws_ag (my_ag.up fh168 is_151 rfl) Rws_h167
      refine w_aload_n gz_242_26 rfl ?_
      refine w_iconst gz_242_27 (by decide) ?_
      refine v_putA (j := 64) gz_242_28 rfl is_151 rd_10 rfl rfl (fun h169 fh169 => ?_)
      have gh169 : my_fr [(10, 0), (10, 27), (10, 32), (10, 33), (10, 37), (10, 46), (10, 48), (10, 62), (10, 63), (10, 64), (10, 65), (61, -1), (62, -1), (73, -1), (74, -1), (75, -1), (76, -1), (77, -1), (78, -1), (79, -1), (80, -1), (81, -1), (82, -1), (83, -1), (84, -1), (85, -1), (86, -1), (88, -1), (89, -1), (90, -1), (91, -1), (92, -1), (93, -1), (94, -1)] h h169 := my_fr.up gh168 is_151 fh169 rfl
      have Mw_h169 : Mw h169 := Mw_ag (my_ag.up fh169 is_151 rfl) Mw_h168
      have Mw3_h169 : Mw3 h169 := Mw3_ag (my_ag.up fh169 is_151 rfl) Mw3_h168
      have Rws_h169 : Rws h169 := Rws_ag (my_ag.up fh169 is_151 rfl) Rws_h168
      refine w_aload_n gz_242_31 rfl ?_
      refine w_iconst gz_242_32 (by decide) ?_
      refine v_putA (j := 65) gz_242_33 rfl is_151 rd_10 rfl rfl (fun h170 fh170 => ?_)
      have gh170 : my_fr [(10, 0), (10, 27), (10, 32), (10, 33), (10, 37), (10, 46), (10, 48), (10, 62), (10, 63), (10, 64), (10, 65), (61, -1), (62, -1), (73, -1), (74, -1), (75, -1), (76, -1), (77, -1), (78, -1), (79, -1), (80, -1), (81, -1), (82, -1), (83, -1), (84, -1), (85, -1), (86, -1), (88, -1), (89, -1), (90, -1), (91, -1), (92, -1), (93, -1), (94, -1)] h h170 := my_fr.up gh169 is_151 fh170 rfl
      have Mw_h170 : Mw h170 := Mw_ag (my_ag.up fh170 is_151 rfl) Mw_h169
      have Mw3_h170 : Mw3 h170 := Mw3_ag (my_ag.up fh170 is_151 rfl) Mw3_h169
      have Rws_h170 : Rws h170 := Rws_ag (my_ag.up fh170 is_151 rfl) Rws_h169
      refine w_iconst gz_242_36 (by decide) ?_
      refine w_istore_n (ls' := [(2, 151), (0, x1), (0, 0), (9, 0), (9, 0), (9, 0)]) gz_242_37 gm_242 rfl rfl rfl ?_
      have ce171 : h170 151 63 = 0 := ((my_up_fld fh170 (by decide)).trans ((my_up_fld fh169 (by decide)).trans (my_up_self fh168)))
      have j162 : ∀ j : Int, h170 162 j = h 162 j := fun j => ((my_up_role fh170 is_162 is_151 rfl).trans ((my_up_role fh169 is_162 is_151 rfl).trans ((my_up_role fh168 is_162 is_151 rfl).trans ((my_up_role fh167 is_162 is_151 rfl).trans ((my_up_role fh159 is_162 is_151 rfl).trans (rfl : h 162 j = h 162 j))))))
      have j163 : ∀ j : Int, h170 163 j = h 163 j := fun j => ((my_up_role fh170 is_163 is_151 rfl).trans ((my_up_role fh169 is_163 is_151 rfl).trans ((my_up_role fh168 is_163 is_151 rfl).trans ((my_up_role fh167 is_163 is_151 rfl).trans ((my_up_role fh159 is_163 is_151 rfl).trans (rfl : h 163 j = h 163 j))))))
      exact J38_0 4 (0) (0) h170 (gh170) (by omega) (by omega) (by omega) (by omega) (by omega) (((my_up_fld fh170 (by decide)).trans ((my_up_fld fh169 (by decide)).trans ((my_up_fld fh168 (by decide)).trans ((my_up_fld fh167 (by decide)).trans (my_up_self fh159))))).trans (by omega)) (((my_up_fld fh170 (by decide)).trans (my_up_self fh169)).trans (by omega)) Mw_h170 Mw3_h170 Rws_h170 (by first | assumption | omega | (subst_vars; omega) | omega) (by first | exact o135 | exact o9_45_0 | exact o9_38_0 | exact Ot9_e j162 j163 | exact o9_45_0.tr (Ot9_e j162 j163) | exact o9_38_0.tr (Ot9_e j162 j163) | assumption | omega) (by omega)
set_option maxHeartbeats 4000000 in
theorem c_ThroughWindow_window7 {l : Launch} {rho : Nat → Int32} {d : Nat} {h : my_H} {Q : my_H → my_V → Prop} {x1 : Int} (n_Ln : Ln h) (hla : LwA h) (k0 : ∀ (h' : my_H), my_fr [(4, 0), (4, 1), (4, 2), (4, 3), (4, 4), (4, 5), (4, 6), (4, 7), (4, 8), (4, 9), (5, 2), (5, 4), (5, 5), (5, 6), (5, 7), (5, 8), (5, 9), (22, -1), (32, -1), (33, -1), (34, -1), (35, -1), (36, -1), (37, -1), (38, -1), (39, -1)] h h' → (((x1 < 0 ∨ 5 < x1) ∨ ∃ v : Int, 0 ≤ v ∧ v ≤ 5 ∧ h (h 27 v) 0 = 1 ∧ h (h 27 v) 1 = x1)) → h' 82 4 = 0 → Lo h h' → LoZ h h' → Ln h' → Q h' (0, (-1))) (k1 : ∀ (h' : my_H), my_fr [(4, 0), (4, 1), (4, 2), (4, 3), (4, 4), (4, 5), (4, 6), (4, 7), (4, 8), (4, 9), (5, 2), (5, 4), (5, 5), (5, 6), (5, 7), (5, 8), (5, 9), (22, -1), (32, -1), (33, -1), (34, -1), (35, -1), (36, -1), (37, -1), (38, -1), (39, -1)] h h' → 0 ≤ x1 → x1 ≤ 5 → (∀ v : Int, 0 ≤ v → v ≤ 5 → h (h 27 v) 0 = 1 → h (h 27 v) 1 ≠ x1) → (∃ c b o : Int, readR (cs h) (h 2) (cT h) (cW h) (cB h) x1 (tS (tp_of h) 0) 0 c b o ∧ NewL h h' x1 c b o) → h' 82 4 = 0 → NwP h h' x1 ∧ LoN h h' x1 ∧ LwA h' → Ln h' → Q h' (0, 0)) (k2 : ∀ (h' : my_H) (y : Int), my_fr [(4, 0), (4, 1), (4, 2), (4, 3), (4, 4), (4, 5), (4, 6), (4, 7), (4, 8), (4, 9), (5, 2), (5, 4), (5, 5), (5, 6), (5, 7), (5, 8), (5, 9), (22, -1), (32, -1), (33, -1), (34, -1), (35, -1), (36, -1), (37, -1), (38, -1), (39, -1)] h h' → 1 ≤ y → y ≤ 16005 → 0 ≤ x1 → x1 ≤ 5 → (∀ v : Int, 0 ≤ v → v ≤ 5 → h (h 27 v) 0 = 1 → h (h 27 v) 1 ≠ x1) → rdF h x1 y → h' 82 4 = 0 → Lo h h' → LoZ h h' → Ln h' → Q h' (0, y)) : wp l rho (d + 9) 34 0 [(2, 0), (0, x1)] [] h Q := by
  refine w_iload_n gz_34_0 rfl ?_
  refine w_iflt (t := 18) gz_34_1 rfl (fun u1 => ?_) (fun u1 => ?_)
  ·
    refine w_aload_n gz_34_18 rfl ?_
    refine w_getX (v := 82) gz_34_19 is_0 rd_9 rfl (by decide) rfl ?_
    refine w_iconst gz_34_22 (by decide) ?_
    refine v_putI (j := 4) gz_34_23 rfl is_82 rd_5 rfl (by omega) (by omega) rfl (fun h3 fh3 => ?_)
    have gh3 : my_fr [(4, 0), (4, 1), (4, 2), (4, 3), (4, 4), (4, 5), (4, 6), (4, 7), (4, 8), (4, 9), (5, 2), (5, 4), (5, 5), (5, 6), (5, 7), (5, 8), (5, 9), (22, -1), (32, -1), (33, -1), (34, -1), (35, -1), (36, -1), (37, -1), (38, -1), (39, -1)] h h3 := my_fr.up my_fr.rf is_82 fh3 rfl
    have Ln_h3 : Ln h3 := Ln_ag (my_ag.up fh3 is_82 rfl) n_Ln
    have Lo_h3 : Lo h h3 := Lo_ag (my_ag.up fh3 is_82 rfl) n_Ln (Lo_rf)
    have LoZ_h3 : LoZ h h3 := LoZ_ag (my_ag.up fh3 is_82 rfl) n_Ln (LoZ_rf)
    refine w_iconst gz_34_26 (by decide) ?_
    have ce4 : h3 82 4 = 0 := (my_up_self fh3)
    exact w_iret gz_34_27 gm_34 (k0 h3 (gh3) (by first | exact LoZ_h3 | assumption | exact Lo_h3 | exact Or.inl (by omega) | exact Or.inr un | omega) (by first | exact LoZ_h3 | assumption | exact Lo_h3 | exact Or.inl (by omega) | exact Or.inr un | omega) (by first | exact LoZ_h3 | assumption | exact Lo_h3 | exact Or.inl (by omega) | exact Or.inr un | omega) (by first | exact LoZ_h3 | assumption | exact Lo_h3 | exact Or.inl (by omega) | exact Or.inr un | omega) Ln_h3)
  ·
    refine w_iload_n gz_34_4 rfl ?_
    refine w_bipush gz_34_5 (by decide) ?_
    refine w_icge (t := 18) gz_34_7 rfl (fun u5 => ?_) (fun u5 => ?_)
    ·
      refine w_aload_n gz_34_18 rfl ?_
      refine w_getX (v := 82) gz_34_19 is_0 rd_9 rfl (by decide) rfl ?_
      refine w_iconst gz_34_22 (by decide) ?_
      refine v_putI (j := 4) gz_34_23 rfl is_82 rd_5 rfl (by omega) (by omega) rfl (fun h7 fh7 => ?_)
      have gh7 : my_fr [(4, 0), (4, 1), (4, 2), (4, 3), (4, 4), (4, 5), (4, 6), (4, 7), (4, 8), (4, 9), (5, 2), (5, 4), (5, 5), (5, 6), (5, 7), (5, 8), (5, 9), (22, -1), (32, -1), (33, -1), (34, -1), (35, -1), (36, -1), (37, -1), (38, -1), (39, -1)] h h7 := my_fr.up my_fr.rf is_82 fh7 rfl
      have Ln_h7 : Ln h7 := Ln_ag (my_ag.up fh7 is_82 rfl) n_Ln
      have Lo_h7 : Lo h h7 := Lo_ag (my_ag.up fh7 is_82 rfl) n_Ln (Lo_rf)
      have LoZ_h7 : LoZ h h7 := LoZ_ag (my_ag.up fh7 is_82 rfl) n_Ln (LoZ_rf)
      refine w_iconst gz_34_26 (by decide) ?_
      have ce8 : h7 82 4 = 0 := (my_up_self fh7)
      exact w_iret gz_34_27 gm_34 (k0 h7 (gh7) (by first | exact LoZ_h7 | assumption | exact Lo_h7 | exact Or.inl (by omega) | exact Or.inr un | omega) (by first | exact LoZ_h7 | assumption | exact Lo_h7 | exact Or.inl (by omega) | exact Or.inr un | omega) (by first | exact LoZ_h7 | assumption | exact Lo_h7 | exact Or.inl (by omega) | exact Or.inr un | omega) (by first | exact LoZ_h7 | assumption | exact Lo_h7 | exact Or.inl (by omega) | exact Or.inr un | omega) Ln_h7)
    ·
      refine w_aload_n gz_34_10 rfl ?_
      refine w_iload_n gz_34_11 rfl ?_
      refine w_inv (k := 1) (as := [(0, x1)]) (r := []) (x := 0) (ls0 := [(2, 0), (0, x1), (9, 0)]) gz_34_12 gm_35 rfl is_0 rd_9 rfl rfl rfl rfl rfl (c_ThroughWindow_isUnderAnother9 (d := (d + 8)) (x1 := x1) (by omega) (by omega) (fun xp9 => ?_) (fun xp10 => ?_))
      ·
        show wp l rho (d + 9) 34 15 [(2, 0), (0, x1)] [(0, 0)] h Q
        have nu := xp9
        have Un_ht11 : Un h x1 := xp9
        refine w_ifeq (t := 28) gz_34_15 rfl (fun u12 => ?_) (fun u12 => by exfalso; omega)
        refine w_aload_n gz_34_28 rfl ?_
        refine w_getX (v := 82) gz_34_29 is_0 rd_9 rfl (by decide) rfl ?_
        refine w_iload_n gz_34_32 rfl ?_
        refine w_inv (k := 1) (as := [(0, x1)]) (r := []) (x := 82) (ls0 := [(2, 82), (0, x1), (9, 0)]) gz_34_33 gm_36 rfl is_82 rd_5 rfl rfl rfl rfl rfl (c_Reader_read7 (d := d) (x1 := x1) (wv := x1) (by omega) (by omega) (by first | assumption | omega) (by first | assumption | omega) n_Ln Un_ht11 (by first | assumption | exact no_such_saying | exact Fp_told (by omega) (by omega) | omega | (subst_vars; omega) | omega) (by first | assumption | exact no_such_saying | exact Fp_told (by omega) (by omega) | omega | (subst_vars; omega) | omega) (fun h14 v15 frh14 w16 w17 w18 w19 w20 xp21 xp22 xp23 Ln_h14t24 => ?_) (fun h25 frh25 w26 w27 xp28 xp29 Ln_h25t30 => ?_))
        ·
          have gh14 : my_fr [(4, 0), (4, 1), (4, 2), (4, 3), (4, 4), (4, 5), (4, 6), (4, 7), (4, 8), (4, 9), (5, 2), (5, 4), (5, 5), (5, 6), (5, 7), (5, 8), (5, 9), (22, -1), (32, -1), (33, -1), (34, -1), (35, -1), (36, -1), (37, -1), (38, -1), (39, -1)] h h14 := my_fr.tr my_fr.rf (frh14.mo rfl)
          show wp l rho (d + 9) 34 36 [(2, 0), (0, x1)] [(0, v15)] h14 Q
          have ce31 : h14 82 4 = 0 := w18
          exact w_iret gz_34_36 gm_34 (k2 h14 (v15) (gh14) (by omega) (by omega) (by omega) (by omega) (by first | exact no_such_saying | assumption | exact no_such_saying | exact Or.inl (by omega) | exact Or.inr un | omega) (by first | exact no_such_saying | assumption | exact no_such_saying | exact Or.inl (by omega) | exact Or.inr un | omega) (by first | exact no_such_saying | assumption | exact no_such_saying | exact Or.inl (by omega) | exact Or.inr un | omega) (by first | exact no_such_saying | assumption | exact no_such_saying | exact Or.inl (by omega) | exact Or.inr un | omega) (by first | exact no_such_saying | assumption | exact no_such_saying | exact Or.inl (by omega) | exact Or.inr un | omega) Ln_h14t24)
        ·
          have gh25 : my_fr [(4, 0), (4, 1), (4, 2), (4, 3), (4, 4), (4, 5), (4, 6), (4, 7), (4, 8), (4, 9), (5, 2), (5, 4), (5, 5), (5, 6), (5, 7), (5, 8), (5, 9), (22, -1), (32, -1), (33, -1), (34, -1), (35, -1), (36, -1), (37, -1), (38, -1), (39, -1)] h h25 := my_fr.tr my_fr.rf (frh25.mo rfl)
          show wp l rho (d + 9) 34 36 [(2, 0), (0, x1)] [(0, 0)] h25 Q
          have ce32 : h25 82 4 = 0 := w26
          exact w_iret gz_34_36 gm_34 (k1 h25 (gh25) (by omega) (by omega) (by first | exact no_such_saying | assumption | exact no_such_saying | exact Or.inl (by omega) | exact Or.inr un | omega) (by first | exact no_such_saying | assumption | exact no_such_saying | exact Or.inl (by omega) | exact Or.inr un | omega) (by first | exact no_such_saying | assumption | exact no_such_saying | exact Or.inl (by omega) | exact Or.inr un | omega) (by first | exact no_such_saying | assumption | exact no_such_saying | exact Or.inl (by omega) | exact Or.inr un | omega) Ln_h25t30)
      ·
        show wp l rho (d + 9) 34 15 [(2, 0), (0, x1)] [(0, 1)] h Q
        have un := xp10
        refine w_ifeq (t := 28) gz_34_15 rfl (fun u33 => by exfalso; omega) (fun u33 => ?_)
        refine w_aload_n gz_34_18 rfl ?_
        refine w_getX (v := 82) gz_34_19 is_0 rd_9 rfl (by decide) rfl ?_
        refine w_iconst gz_34_22 (by decide) ?_
        refine v_putI (j := 4) gz_34_23 rfl is_82 rd_5 rfl (by omega) (by omega) rfl (fun h35 fh35 => ?_)
        have gh35 : my_fr [(4, 0), (4, 1), (4, 2), (4, 3), (4, 4), (4, 5), (4, 6), (4, 7), (4, 8), (4, 9), (5, 2), (5, 4), (5, 5), (5, 6), (5, 7), (5, 8), (5, 9), (22, -1), (32, -1), (33, -1), (34, -1), (35, -1), (36, -1), (37, -1), (38, -1), (39, -1)] h h35 := my_fr.up my_fr.rf is_82 fh35 rfl
        have Ln_h35 : Ln h35 := Ln_ag (my_ag.up fh35 is_82 rfl) n_Ln
        have Lo_h35 : Lo h h35 := Lo_ag (my_ag.up fh35 is_82 rfl) n_Ln (Lo_rf)
        have LoZ_h35 : LoZ h h35 := LoZ_ag (my_ag.up fh35 is_82 rfl) n_Ln (LoZ_rf)
        refine w_iconst gz_34_26 (by decide) ?_
        have ce36 : h35 82 4 = 0 := (my_up_self fh35)
        exact w_iret gz_34_27 gm_34 (k0 h35 (gh35) (by first | exact LoZ_h35 | assumption | exact Lo_h35 | exact Or.inl (by omega) | exact Or.inr un | omega) (by first | exact LoZ_h35 | assumption | exact Lo_h35 | exact Or.inl (by omega) | exact Or.inr un | omega) (by first | exact LoZ_h35 | assumption | exact Lo_h35 | exact Or.inl (by omega) | exact Or.inr un | omega) (by first | exact LoZ_h35 | assumption | exact Lo_h35 | exact Or.inl (by omega) | exact Or.inr un | omega) Ln_h35)
theorem c_ThroughWindow_ways5 {l : Launch} {rho : Nat → Int32} {d : Nat} {h : my_H} {Q : my_H → my_V → Prop} {x1 x2 x3 x4 x5 : Int} (n_Ln : Ln h) (hlw : LwA h) (hwo : WOk h 7) (k0 : ∀ (h' : my_H), my_fr [(2, 11), (2, 12), (2, 13), (2, 14), (2, 15), (2, 16), (7, 0), (7, 1), (7, 2), (7, 3), (7, 4), (7, 5), (8, 0), (8, 1), (30, -1), (31, -1), (41, -1), (42, -1), (43, -1), (44, -1)] h h' → ¬ EdOk h (h 8) x1 x2 x3 x4 x5 → (∀ k j : Int, 0 ≤ k → k < 94 → h' k j = h k j) → Ln h' → Q h' (0, (-1))) (k1 : ∀ (h' : my_H) (y : Int), my_fr [(2, 11), (2, 12), (2, 13), (2, 14), (2, 15), (2, 16), (7, 0), (7, 1), (7, 2), (7, 3), (7, 4), (7, 5), (8, 0), (8, 1), (30, -1), (31, -1), (41, -1), (42, -1), (43, -1), (44, -1)] h h' → 0 ≤ x1 → x1 ≤ 5 → 0 ≤ x2 → x2 ≤ 2 → (EdOk h (h 8) x1 x2 x3 x4 x5 ∧ ∃ L : List zqY, cWy h (h 8) x1 x2 x3 x4 x5 L ∧ y = (L.length : Int)) → (∀ k j : Int, 0 ≤ k → k < 94 → h' k j = h k j) → Ln h' → Q h' (0, y)) : wp l rho (d + 6) 86 0 [(2, 0), (0, x1), (0, x2), (0, x3), (0, x4), (0, x5)] [] h Q := by
  refine w_aload_n gz_86_0 rfl ?_
  refine w_getX (v := 94) gz_86_1 is_0 rd_9 rfl (by decide) rfl ?_
  refine w_aload_n gz_86_4 rfl ?_
  refine w_getX (v := 7) gz_86_5 is_0 rd_9 rfl (by decide) rfl ?_
  refine w_iload_n gz_86_8 rfl ?_
  refine w_iload_n gz_86_9 rfl ?_
  refine w_iload_n gz_86_10 rfl ?_
  refine w_iload gz_86_11 rfl ?_
  refine w_iload gz_86_13 rfl ?_
  refine w_inv (k := 0) (as := [(0, x5), (0, x4), (0, x3), (0, x2), (0, x1), (2, 7)]) (r := []) (x := 94) (ls0 := [(2, 94), (2, 7), (0, x1), (0, x2), (0, x3), (0, x4), (0, x5)]) gz_86_15 gm_87 rfl is_94 rd_2 rfl rfl rfl rfl rfl (c_Desk_opens5 (d := d) (x1 := 7) (x2 := x1) (x3 := x2) (x4 := x3) (x5 := x4) (x6 := x5) is_7 n_Ln (hlw.1) (hwo.1.1) (fun h3 frh3 xp4 => ?_) (fun h5 frh5 w6 w7 w8 w9 w10 w11 xp12 xp13 xp14 xp15 xp16 xp17 xp18 xp19 xp20 xp21 xp22 xp23 xp24 => ?_))
  ·
    have gh3 : my_fr [(2, 11), (2, 12), (2, 13), (2, 14), (2, 15), (2, 16), (7, 0), (7, 1), (7, 2), (7, 3), (7, 4), (7, 5), (8, 0), (8, 1), (30, -1), (31, -1), (41, -1), (42, -1), (43, -1), (44, -1)] h h3 := my_fr.tr my_fr.rf (frh3.mo rfl)
    have Ln_h3 : Ln h3 := Ln_ag (my_ag.fr frh3 rfl) n_Ln
    show wp l rho (d + 6) 86 18 [(2, 0), (0, x1), (0, x2), (0, x3), (0, x4), (0, x5)] [(0, 0)] h3 Q
    have nE := xp4
    have agG : my_ag F5 h h3 := my_ag.fr (F := F5) frh3 rfl
    have bfG : ∀ k j : Int, 0 ≤ k → k < 94 → h3 k j = h k j := fun k j k0 k1 => (bg94 frh3 (by decide +kernel) k j k0 k1)
    refine w_ifne (t := 23) gz_86_18 rfl (fun u25 => by exfalso; omega) (fun u25 => ?_)
    refine w_iconst gz_86_21 (by decide) ?_
    have bfE : ∀ k j : Int, 0 ≤ k → k < 94 → h3 k j = h k j := fun k j k0 k1 => (bg94 frh3 (by decide +kernel) k j k0 k1)
    exact w_iret gz_86_22 gm_86 (k0 h3 (gh3) (by first | exact nE | exact bfE | exact ⟨E8, Wy_n wy8 s13 (by omega)⟩ | assumption | omega) (by first | exact nE | exact bfE | exact ⟨E8, Wy_n wy8 s13 (by omega)⟩ | assumption | omega) Ln_h3)
  ·
    have gh5 : my_fr [(2, 11), (2, 12), (2, 13), (2, 14), (2, 15), (2, 16), (7, 0), (7, 1), (7, 2), (7, 3), (7, 4), (7, 5), (8, 0), (8, 1), (30, -1), (31, -1), (41, -1), (42, -1), (43, -1), (44, -1)] h h5 := my_fr.tr my_fr.rf (frh5.mo rfl)
    have Ln_h5 : Ln h5 := Ln_ag (my_ag.fr frh5 rfl) n_Ln
    show wp l rho (d + 6) 86 18 [(2, 0), (0, x1), (0, x2), (0, x3), (0, x4), (0, x5)] [(0, 1)] h5 Q
    have Td_h5t26 : Td h5 x1 := xp16
    have nE := xp12
    have agG : my_ag F5 h h5 := my_ag.fr (F := F5) frh5 rfl
    have bfG : ∀ k j : Int, 0 ≤ k → k < 94 → h5 k j = h k j := fun k j k0 k1 => (bg94 frh5 (by decide +kernel) k j k0 k1)
    have E8 := xp17
    have wn8 := Wn_o (x := 7) xp18 xp19 xp20
    have K8 := SrP_mk (x := 7) n_Ln agG hlw hwo (fun j => my_fr.at frh5 (pix61 is_7) rfl) (fun j => my_fr.at frh5 (pix62 is_7) rfl) xp17 xp18 xp19 xp20 xp21 xp22 xp23 xp24 xp12 xp13
    refine w_ifne (t := 23) gz_86_18 rfl (fun u27 => ?_) (fun u27 => by exfalso; omega)
    refine w_aload_n gz_86_23 rfl ?_
    refine w_getX (v := 94) gz_86_24 is_0 rd_9 rfl (by decide) rfl ?_
    refine w_aload_n gz_86_27 rfl ?_
    refine w_getX (v := 7) gz_86_28 is_0 rd_9 rfl (by decide) rfl ?_
    refine w_iload_n gz_86_31 rfl ?_
    refine w_iconst gz_86_32 (by decide) ?_
    refine w_iconst gz_86_33 (by decide) ?_
    refine w_inv (k := 2) (as := [(0, 0), (0, (-1)), (0, x1), (2, 7)]) (r := []) (x := 94) (ls0 := [(2, 94), (2, 7), (0, x1), (0, (-1)), (0, 0), (9, 0), (9, 0)]) gz_86_34 gm_92 rfl is_94 rd_2 rfl rfl rfl rfl rfl (c_Desk_search5 (d := d) (x1 := 7) (x2 := x1) (x3 := (-1)) (x4 := 0) is_7 (by omega) (by omega) (by omega) (by omega) (by omega) Ln_h5 Td_h5t26 (by first | assumption | exact no_such_saying | exact Fp_told (by omega) (by omega) | omega | (subst_vars; omega) | omega) (K8) ((by unfold zqXf; omega)) (fun h30 frh30 w31 w32 w33 xp34 xp35 xp36 Lst_h30t37 => ?_))
    have gh30 : my_fr [(2, 11), (2, 12), (2, 13), (2, 14), (2, 15), (2, 16), (7, 0), (7, 1), (7, 2), (7, 3), (7, 4), (7, 5), (8, 0), (8, 1), (30, -1), (31, -1), (41, -1), (42, -1), (43, -1), (44, -1)] h h30 := my_fr.tr gh5 (frh30.mo rfl)
    have Ln_h30 : Ln h30 := Ln_ag (my_ag.fr frh30 rfl) Ln_h5
    have Td_h30 : Td h30 x1 := Td_ag (my_ag.fr frh30 rfl) Ln_h5 Td_h5t26
    show wp l rho (d + 6) 86 37 [(2, 0), (0, x1), (0, x2), (0, x3), (0, x4), (0, x5)] [] h30 Q
    have sr := xp34
    have s13 := xp35.2.1
    have s12 := xp35.2.2
    have bc_h30 : ∀ k j : Int, 0 ≤ k → k < 94 → h30 k j = h5 k j := fun k j k0 k1 => xp36 k j k0 (Or.inl k1)
    have wy8 := CwB (x := 7) n_Ln agG E8.2.1.1 E8.2.1.2.1 E8.2.1.2.2 (fun j => bfG (7 + 1) j (by omega) (by omega)) wn8 sr
    refine w_aload_n gz_86_37 rfl ?_
    refine w_getX (v := 94) gz_86_38 is_0 rd_9 rfl (by decide) rfl ?_
    refine v_getI (j := 11) gz_86_41 rfl is_94 rd_2 rfl (fun v39 ev39 pv39 qv39 => ?_)
    have bfE : ∀ k j : Int, 0 ≤ k → k < 94 → h30 k j = h k j := fun k j k0 k1 => ((bc_h30 k j k0 k1).trans (bg94 frh5 (by decide +kernel) k j k0 k1))
    exact w_iret gz_86_44 gm_86 (k1 h30 (v39) (gh30) (by omega) (by omega) (by omega) (by omega) (by first | exact nE | exact bfE | exact ⟨E8, Wy_n wy8 s13 (by omega)⟩ | assumption | omega) (by first | exact nE | exact bfE | exact ⟨E8, Wy_n wy8 s13 (by omega)⟩ | assumption | omega) Ln_h30)
end MYNModel_night4
