/-! contracts, printed by wip/gen/gy.py -/
section MYNModel_draft5
theorem c_Model_draft5 {l : Launch} {rho : Nat → Int32} {d : Nat} {h : my_H} {Q : my_H → my_V → Prop} {x1 x2 : Int} (k0 : ∀ (h' : my_H), my_fr [(10, 0), (87, -1)] h h' → h' 151 0 = 0 → ¬ (0 ≤ x1 ∧ x1 ≤ 7 ∧ 0 ≤ x2 ∧ x2 ≤ 19) → (∀ j : Int, h' 188 j = h 188 j) → Q h' (0, 0)) (k1 : ∀ (h' : my_H), my_fr [(10, 0), (87, -1)] h h' → 0 ≤ x1 → x1 ≤ 7 → 0 ≤ x2 → x2 ≤ 19 → h' 151 0 = 0 → 0 ≤ x1 ∧ x1 ≤ 7 ∧ 0 ≤ x2 ∧ x2 ≤ 19 → h' 188 = zyU (h 188) x1 x2 → Q h' (0, 1)) : wp l rho (d + 1) 206 0 [(2, 151), (0, x1), (0, x2)] [] h Q := by
  refine w_aload_n gz_206_0 rfl ?_
  refine w_iconst gz_206_1 (by decide) ?_
  refine v_putI (j := 0) gz_206_2 rfl is_151 rd_10 rfl (by omega) (by omega) rfl (fun h1 fh1 => ?_)
  have gh1 : my_fr [(10, 0), (87, -1)] h h1 := my_fr.up my_fr.rf is_151 fh1 rfl
  refine w_iload_n gz_206_5 rfl ?_
  refine w_iconst gz_206_6 (by decide) ?_
  refine w_bipush gz_206_7 (by decide) ?_
  refine w_inS (k := 0) (as := [(0, 7), (0, 0), (0, x1)]) (r := []) (ls0 := [(0, x1), (0, 0), (0, 7)]) gz_206_9 gm_147 rfl rfl rfl rfl rfl rfl ?_
  refine w_iload_n gz_147_0 rfl ?_
  refine w_iload_n gz_147_1 rfl ?_
  refine w_iclt (t := 14) gz_147_2 rfl (fun u2 => ?_) (fun u2 => ?_)
  ·
    refine w_iconst gz_147_14 (by decide) ?_
    refine w_bret gz_147_15 gm_147 (by omega) (by omega) ?_
    show wp l rho (d + 1) 206 12 [(2, 151), (0, x1), (0, x2)] [(0, 0)] h1 Q
    refine w_ifeq (t := 25) gz_206_12 rfl (fun u3 => ?_) (fun u3 => by exfalso; omega)
    refine w_iconst gz_206_25 (by decide) ?_
    have c4 := (my_up_self fh1)
    exact w_bret gz_206_26 gm_206 (by omega) (by omega) (k0 h1 (gh1) (by omega) (by first | exact c160w (fun k => my_up_ne no_such_saying (by omega)) fh1 (by omega) | exact (fun j => my_up_ne fh1 (by omega)) | assumption | omega) (by first | exact c160w (fun k => my_up_ne no_such_saying (by omega)) fh1 (by omega) | exact (fun j => my_up_ne fh1 (by omega)) | assumption | omega))
  ·
    refine w_iload_n gz_147_5 rfl ?_
    refine w_iload_n gz_147_6 rfl ?_
    refine w_icgt (t := 14) gz_147_7 rfl (fun u5 => ?_) (fun u5 => ?_)
    ·
      refine w_iconst gz_147_14 (by decide) ?_
      refine w_bret gz_147_15 gm_147 (by omega) (by omega) ?_
      show wp l rho (d + 1) 206 12 [(2, 151), (0, x1), (0, x2)] [(0, 0)] h1 Q
      refine w_ifeq (t := 25) gz_206_12 rfl (fun u6 => ?_) (fun u6 => by exfalso; omega)
      refine w_iconst gz_206_25 (by decide) ?_
      have c7 := (my_up_self fh1)
      exact w_bret gz_206_26 gm_206 (by omega) (by omega) (k0 h1 (gh1) (by omega) (by first | exact c160w (fun k => my_up_ne no_such_saying (by omega)) fh1 (by omega) | exact (fun j => my_up_ne fh1 (by omega)) | assumption | omega) (by first | exact c160w (fun k => my_up_ne no_such_saying (by omega)) fh1 (by omega) | exact (fun j => my_up_ne fh1 (by omega)) | assumption | omega))
    ·
      refine w_iconst gz_147_10 (by decide) ?_
      refine w_goto (t := 15) gz_147_11 rfl ?_
      refine w_bret gz_147_15 gm_147 (by omega) (by omega) ?_
      show wp l rho (d + 1) 206 12 [(2, 151), (0, x1), (0, x2)] [(0, 1)] h1 Q
      refine w_ifeq (t := 25) gz_206_12 rfl (fun u8 => by exfalso; omega) (fun u8 => ?_)
      refine w_iload_n gz_206_15 rfl ?_
      refine w_iconst gz_206_16 (by decide) ?_
      refine w_bipush gz_206_17 (by decide) ?_
      refine w_inS (k := 0) (as := [(0, 19), (0, 0), (0, x2)]) (r := []) (ls0 := [(0, x2), (0, 0), (0, 19)]) gz_206_19 gm_147 rfl rfl rfl rfl rfl rfl ?_
      refine w_iload_n gz_147_0 rfl ?_
      refine w_iload_n gz_147_1 rfl ?_
      refine w_iclt (t := 14) gz_147_2 rfl (fun u9 => ?_) (fun u9 => ?_)
      ·
        refine w_iconst gz_147_14 (by decide) ?_
        refine w_bret gz_147_15 gm_147 (by omega) (by omega) ?_
        show wp l rho (d + 1) 206 22 [(2, 151), (0, x1), (0, x2)] [(0, 0)] h1 Q
        refine w_ifne (t := 27) gz_206_22 rfl (fun u10 => by exfalso; omega) (fun u10 => ?_)
        refine w_iconst gz_206_25 (by decide) ?_
        have c11 := (my_up_self fh1)
        exact w_bret gz_206_26 gm_206 (by omega) (by omega) (k0 h1 (gh1) (by omega) (by first | exact c160w (fun k => my_up_ne no_such_saying (by omega)) fh1 (by omega) | exact (fun j => my_up_ne fh1 (by omega)) | assumption | omega) (by first | exact c160w (fun k => my_up_ne no_such_saying (by omega)) fh1 (by omega) | exact (fun j => my_up_ne fh1 (by omega)) | assumption | omega))
      ·
        refine w_iload_n gz_147_5 rfl ?_
        refine w_iload_n gz_147_6 rfl ?_
        refine w_icgt (t := 14) gz_147_7 rfl (fun u12 => ?_) (fun u12 => ?_)
        ·
          refine w_iconst gz_147_14 (by decide) ?_
          refine w_bret gz_147_15 gm_147 (by omega) (by omega) ?_
          show wp l rho (d + 1) 206 22 [(2, 151), (0, x1), (0, x2)] [(0, 0)] h1 Q
          refine w_ifne (t := 27) gz_206_22 rfl (fun u13 => by exfalso; omega) (fun u13 => ?_)
          refine w_iconst gz_206_25 (by decide) ?_
          have c14 := (my_up_self fh1)
          exact w_bret gz_206_26 gm_206 (by omega) (by omega) (k0 h1 (gh1) (by omega) (by first | exact c160w (fun k => my_up_ne no_such_saying (by omega)) fh1 (by omega) | exact (fun j => my_up_ne fh1 (by omega)) | assumption | omega) (by first | exact c160w (fun k => my_up_ne no_such_saying (by omega)) fh1 (by omega) | exact (fun j => my_up_ne fh1 (by omega)) | assumption | omega))
        ·
          refine w_iconst gz_147_10 (by decide) ?_
          refine w_goto (t := 15) gz_147_11 rfl ?_
          refine w_bret gz_147_15 gm_147 (by omega) (by omega) ?_
          show wp l rho (d + 1) 206 22 [(2, 151), (0, x1), (0, x2)] [(0, 1)] h1 Q
          refine w_ifne (t := 27) gz_206_22 rfl (fun u15 => ?_) (fun u15 => by exfalso; omega)
          refine w_aload_n gz_206_27 rfl ?_
          refine w_getX (v := 188) gz_206_28 is_151 rd_10 rfl (by decide) rfl ?_
          refine w_iload_n gz_206_31 rfl ?_
          refine w_iload_n gz_206_32 rfl ?_
          refine w_iast gz_206_33 is_188 rd_87 (by omega) (by omega) (by omega) (by omega) (fun h17 fh17 => ?_)
          have gh17 : my_fr [(10, 0), (87, -1)] h h17 := my_fr.up gh1 is_188 fh17 rfl
          refine w_iconst gz_206_34 (by decide) ?_
          have c18 := ((my_up_role fh17 is_151 is_188 rfl).trans (my_up_self fh1))
          exact w_bret gz_206_35 gm_206 (by omega) (by omega) (k1 h17 (gh17) (by omega) (by omega) (by omega) (by omega) (by omega) (by first | exact c160w (fun k => my_up_ne fh1 (by omega)) fh17 (by omega) | exact (fun j => my_up_ne fh17 (by omega)) | assumption | omega) (by first | exact c160w (fun k => my_up_ne fh1 (by omega)) fh17 (by omega) | exact (fun j => my_up_ne fh17 (by omega)) | assumption | omega))
theorem c_ThroughWindow_draft5 {l : Launch} {rho : Nat → Int32} {d : Nat} {h : my_H} {Q : my_H → my_V → Prop} {x1 x2 : Int} (k0 : ∀ (h' : my_H), my_fr [(23, -1)] h h' → ¬ (0 ≤ x1 ∧ x1 ≤ 7 ∧ 0 ≤ x2 ∧ x2 ≤ 19) → (∀ j : Int, h' 93 j = h 93 j) → Q h' (0, 0)) (k1 : ∀ (h' : my_H), my_fr [(23, -1)] h h' → 0 ≤ x1 → x1 ≤ 7 → 0 ≤ x2 → x2 ≤ 19 → 0 ≤ x1 ∧ x1 ≤ 7 ∧ 0 ≤ x2 ∧ x2 ≤ 19 → h' 93 = zyU (h 93) x1 x2 → Q h' (0, 1)) : wp l rho d 85 0 [(2, 0), (0, x1), (0, x2)] [] h Q := by
  refine w_iload_n gz_85_0 rfl ?_
  refine w_iflt (t := 20) gz_85_1 rfl (fun u1 => ?_) (fun u1 => ?_)
  ·
    refine w_iconst gz_85_20 (by decide) ?_
    exact w_bret gz_85_21 gm_85 (by omega) (by omega) (k0 h (my_fr.rf) (by first | exact zyU_up no_such_saying (by omega) | exact (fun _ => rfl) | assumption | omega) (by first | exact zyU_up no_such_saying (by omega) | exact (fun _ => rfl) | assumption | omega))
  ·
    refine w_iload_n gz_85_4 rfl ?_
    refine w_bipush gz_85_5 (by decide) ?_
    refine w_icge (t := 20) gz_85_7 rfl (fun u2 => ?_) (fun u2 => ?_)
    ·
      refine w_iconst gz_85_20 (by decide) ?_
      exact w_bret gz_85_21 gm_85 (by omega) (by omega) (k0 h (my_fr.rf) (by first | exact zyU_up no_such_saying (by omega) | exact (fun _ => rfl) | assumption | omega) (by first | exact zyU_up no_such_saying (by omega) | exact (fun _ => rfl) | assumption | omega))
    ·
      refine w_iload_n gz_85_10 rfl ?_
      refine w_iflt (t := 20) gz_85_11 rfl (fun u3 => ?_) (fun u3 => ?_)
      ·
        refine w_iconst gz_85_20 (by decide) ?_
        exact w_bret gz_85_21 gm_85 (by omega) (by omega) (k0 h (my_fr.rf) (by first | exact zyU_up no_such_saying (by omega) | exact (fun _ => rfl) | assumption | omega) (by first | exact zyU_up no_such_saying (by omega) | exact (fun _ => rfl) | assumption | omega))
      ·
        refine w_iload_n gz_85_14 rfl ?_
        refine w_bipush gz_85_15 (by decide) ?_
        refine w_iclt (t := 22) gz_85_17 rfl (fun u4 => ?_) (fun u4 => ?_)
        ·
          refine w_aload_n gz_85_22 rfl ?_
          refine w_getX (v := 93) gz_85_23 is_0 rd_9 rfl (by decide) rfl ?_
          refine w_iload_n gz_85_26 rfl ?_
          refine w_iload_n gz_85_27 rfl ?_
          refine w_iast gz_85_28 is_93 rd_23 (by omega) (by omega) (by omega) (by omega) (fun h6 fh6 => ?_)
          have gh6 : my_fr [(23, -1)] h h6 := my_fr.up my_fr.rf is_93 fh6 rfl
          refine w_iconst gz_85_29 (by decide) ?_
          exact w_bret gz_85_30 gm_85 (by omega) (by omega) (k1 h6 (gh6) (by omega) (by omega) (by omega) (by omega) (by first | exact zyU_up fh6 (by omega) | exact (fun _ => rfl) | assumption | omega) (by first | exact zyU_up fh6 (by omega) | exact (fun _ => rfl) | assumption | omega))
        ·
          refine w_iconst gz_85_20 (by decide) ?_
          exact w_bret gz_85_21 gm_85 (by omega) (by omega) (k0 h (my_fr.rf) (by first | exact zyU_up no_such_saying (by omega) | exact (fun _ => rfl) | assumption | omega) (by first | exact zyU_up no_such_saying (by omega) | exact (fun _ => rfl) | assumption | omega))
theorem c_Model_barred4 {l : Launch} {rho : Nat → Int32} {d : Nat} {h : my_H} {Q : my_H → my_V → Prop} {x1 x2 x3 x4 x5 x6 : Int} (n_Mw : Mw h) (n_Mw3 : Mw3 h) (n_Rws : Rws h) (hlm : LmW h) (k0 : ∀ (h' : my_H), my_fr [(10, 0), (10, 27), (10, 32), (10, 33), (10, 37), (61, -1), (62, -1), (73, -1), (74, -1), (75, -1), (76, -1), (77, -1), (78, -1), (79, -1), (80, -1), (81, -1), (82, -1), (83, -1), (84, -1), (85, -1), (86, -1), (94, -1)] h h' → h' 151 0 = 0 → Ot9 h h' → Rws h' → Q h' (0, (-1))) (k1 : ∀ (h' : my_H) (y : Int), my_fr [(10, 0), (10, 27), (10, 32), (10, 33), (10, 37), (61, -1), (62, -1), (73, -1), (74, -1), (75, -1), (76, -1), (77, -1), (78, -1), (79, -1), (80, -1), (81, -1), (82, -1), (83, -1), (84, -1), (85, -1), (86, -1), (94, -1)] h h' → 0 ≤ y → y ≤ 3 → 0 ≤ x1 → x1 ≤ 5 → 0 ≤ x2 → x2 ≤ 2 → 0 ≤ x6 → x6 ≤ 2 → h' 151 0 = 0 → Ot9 h h' → Rws h' → Q h' (0, y)) : wp l rho (d + 5) 224 0 [(2, 151), (0, x1), (0, x2), (0, x3), (0, x4), (0, x5), (0, x6), (9, 0), (9, 0), (9, 0), (9, 0)] [] h Q := by
  have J49_0 : ∀ (n : Nat) (p49_0 : Int) (h49_0 : my_H), my_fr [(10, 0), (10, 27), (10, 32), (10, 33), (10, 37), (61, -1), (62, -1), (73, -1), (74, -1), (75, -1), (76, -1), (77, -1), (78, -1), (79, -1), (80, -1), (81, -1), (82, -1), (83, -1), (84, -1), (85, -1), (86, -1), (94, -1)] h h49_0 → 0 ≤ x1 → x1 ≤ 5 → 0 ≤ x2 → x2 ≤ 2 → 0 ≤ x6 → x6 ≤ 2 → 0 ≤ p49_0 → p49_0 ≤ 12 → h49_0 151 0 = 0 → Mw h49_0 → Mw3 h49_0 → Rws h49_0 → Ot9 h h49_0 → 13 - p49_0 ≤ (n : Int) → wp l rho (d + 5) 224 49 [(2, 151), (0, x1), (0, x2), (0, x3), (0, x4), (0, x5), (0, x6), (0, p49_0), (9, 0), (9, 0), (9, 0)] [] h49_0 Q := by
    intro n
    induction n with
    | zero => intro p49_0 h49_0 gh_49_0 q0_49_0 q1_49_0 q2_49_0 q3_49_0 q4_49_0 q5_49_0 q6_49_0 q7_49_0 c151_0_49_0 n_Mw_49_0 n_Mw3_49_0 n_Rws_49_0 o9_49_0 hm_49_0; exfalso; omega
    | succ n ih_49_0 =>
      intro p49_0 h49_0 gh_49_0 q0_49_0 q1_49_0 q2_49_0 q3_49_0 q4_49_0 q5_49_0 q6_49_0 q7_49_0 c151_0_49_0 n_Mw_49_0 n_Mw3_49_0 n_Rws_49_0 o9_49_0 hm_49_0
      have J151_0 : ∀ (p151_0 p151_1 : Int) (h151_0 : my_H), my_fr [(10, 0), (10, 27), (10, 32), (10, 33), (10, 37), (61, -1), (62, -1), (73, -1), (74, -1), (75, -1), (76, -1), (77, -1), (78, -1), (79, -1), (80, -1), (81, -1), (82, -1), (83, -1), (84, -1), (85, -1), (86, -1), (94, -1)] h h151_0 → p49_0 ≤ 11 → 1 ≤ p151_0 → p151_0 ≤ 4 → 0 ≤ p151_1 → p151_1 ≤ 20 → h151_0 151 0 = 0 → Mw h151_0 → Mw3 h151_0 → Rws h151_0 → Ot9 h h151_0 → wp l rho (d + 5) 224 151 [(2, 151), (0, x1), (0, x2), (0, x3), (0, x4), (0, x5), (0, x6), (0, p49_0), (0, p151_0), (0, p151_1), (9, 0)] [] h151_0 Q := by
        intro p151_0 p151_1 h151_0 gh_151_0 q0_151_0 q1_151_0 q2_151_0 q3_151_0 q4_151_0 c151_0_151_0 n_Mw_151_0 n_Mw3_151_0 n_Rws_151_0 o9_151_0
        refine w_iload gz_224_151 rfl ?_
        refine w_iconst gz_224_153 (by decide) ?_
        refine w_icge (t := 185) gz_224_154 rfl (fun u1 => ?_) (fun u1 => ?_)
        ·
          refine w_iinc (ls' := [(2, 151), (0, x1), (0, x2), (0, x3), (0, x4), (0, x5), (0, x6), (0, (p49_0 + 1)), (0, p151_0), (0, p151_1), (9, 0)]) gz_224_185 rfl gm_224 rfl rfl rfl ⟨by omega, by omega⟩ ?_
          refine w_goto (t := 49) gz_224_188 rfl ?_
          refine w_weak (ls' := [(2, 151), (0, x1), (0, x2), (0, x3), (0, x4), (0, x5), (0, x6), (0, (p49_0 + 1)), (9, 0), (9, 0), (9, 0)]) (wk_e (wk_e (wk_e (wk_e (wk_e (wk_e (wk_e (wk_e (wk_9 (wk_9 (wk_9 wk_n))))))))))) ?_
          exact ih_49_0 ((p49_0 + 1)) h151_0 (gh_151_0) (by omega) (by omega) (by omega) (by omega) (by omega) (by omega) (by omega) (by omega) (c151_0_151_0.trans (by omega)) n_Mw_151_0 n_Mw3_151_0 n_Rws_151_0 (by first | exact o9_49_0 | exact o9_62_0 | exact o9_122_0 | exact o9_143_0 | exact o9_143_1 | exact o9_143_2 | exact o9_143_3 | exact o9_143_4 | exact o9_151_0 | exact o38 | assumption | omega) (by omega)
        ·
          refine w_iload gz_224_157 rfl ?_
          refine w_ifne (t := 169) gz_224_159 rfl (fun u2 => ?_) (fun u2 => ?_)
          ·
            refine w_iload gz_224_169 rfl ?_
            refine w_iconst gz_224_171 (by decide) ?_
            refine w_icne (t := 182) gz_224_172 rfl (fun u3 => ?_) (fun u3 => ?_)
            ·
              refine w_iload gz_224_182 rfl ?_
              have r162 : ∀ j : Int, h151_0 162 j = h151_0 162 j := fun _ => rfl
              have r163 : ∀ j : Int, h151_0 163 j = h151_0 163 j := fun _ => rfl
              have c4 := c151_0_151_0
              exact w_iret gz_224_184 gm_224 (k1 h151_0 (p151_0) (gh_151_0) (by omega) (by omega) (by omega) (by omega) (by omega) (by omega) (by omega) (by omega) (by omega) (by first | exact o9_151_0 | exact o9_49_0 | exact o38 | exact Ot9_e r162 r163 | assumption | omega) n_Rws_151_0)
            ·
              refine w_iload gz_224_175 rfl ?_
              refine w_iconst gz_224_177 (by decide) ?_
              refine w_irem gz_224_178 (by omega) (by decide) ?_
              refine w_goto (t := 184) gz_224_179 rfl ?_
              have r162 : ∀ j : Int, h151_0 162 j = h151_0 162 j := fun _ => rfl
              have r163 : ∀ j : Int, h151_0 163 j = h151_0 163 j := fun _ => rfl
              have c5 := c151_0_151_0
              exact w_iret gz_224_184 gm_224 (k1 h151_0 ((p49_0 % 4)) (gh_151_0) (by omega) (by omega) (by omega) (by omega) (by omega) (by omega) (by omega) (by omega) (by omega) (by first | exact o9_151_0 | exact o9_49_0 | exact o38 | exact Ot9_e r162 r163 | assumption | omega) n_Rws_151_0)
          ·
            refine w_iload gz_224_162 rfl ?_
            refine w_iconst gz_224_164 (by decide) ?_
            refine w_idiv gz_224_165 (by omega) (by decide) ?_
            refine w_goto (t := 184) gz_224_166 rfl ?_
            have r162 : ∀ j : Int, h151_0 162 j = h151_0 162 j := fun _ => rfl
            have r163 : ∀ j : Int, h151_0 163 j = h151_0 163 j := fun _ => rfl
            have c6 := c151_0_151_0
            exact w_iret gz_224_184 gm_224 (k1 h151_0 ((p49_0 / 4)) (gh_151_0) (by omega) (by omega) (by omega) (by omega) (by omega) (by omega) (by omega) (by omega) (by omega) (by first | exact o9_151_0 | exact o9_49_0 | exact o38 | exact Ot9_e r162 r163 | assumption | omega) n_Rws_151_0)
      have J62_0 : ∀ (n : Nat) (p62_0 p62_1 : Int) (h62_0 : my_H), my_fr [(10, 0), (10, 27), (10, 32), (10, 33), (10, 37), (61, -1), (62, -1), (73, -1), (74, -1), (75, -1), (76, -1), (77, -1), (78, -1), (79, -1), (80, -1), (81, -1), (82, -1), (83, -1), (84, -1), (85, -1), (86, -1), (94, -1)] h h62_0 → p49_0 ≤ 11 → 1 ≤ p62_0 → p62_0 ≤ 4 → 0 ≤ p62_1 → p62_1 ≤ 20 → h62_0 151 0 = 0 → Mw h62_0 → Mw3 h62_0 → Rws h62_0 → Ot9 h h62_0 → 21 - p62_1 ≤ (n : Int) → wp l rho (d + 5) 224 62 [(2, 151), (0, x1), (0, x2), (0, x3), (0, x4), (0, x5), (0, x6), (0, p49_0), (0, p62_0), (0, p62_1), (9, 0)] [] h62_0 Q := by
        intro n
        induction n with
        | zero => intro p62_0 p62_1 h62_0 gh_62_0 q0_62_0 q1_62_0 q2_62_0 q3_62_0 q4_62_0 c151_0_62_0 n_Mw_62_0 n_Mw3_62_0 n_Rws_62_0 o9_62_0 hm_62_0; exfalso; omega
        | succ n ih_62_0 =>
          intro p62_0 p62_1 h62_0 gh_62_0 q0_62_0 q1_62_0 q2_62_0 q3_62_0 q4_62_0 c151_0_62_0 n_Mw_62_0 n_Mw3_62_0 n_Rws_62_0 o9_62_0 hm_62_0
          have J143_3 : ∀ (p143_0 p143_1 : Int) (h143_3 : my_H), my_fr [(10, 0), (10, 27), (10, 32), (10, 33), (10, 37), (61, -1), (62, -1), (73, -1), (74, -1), (75, -1), (76, -1), (77, -1), (78, -1), (79, -1), (80, -1), (81, -1), (82, -1), (83, -1), (84, -1), (85, -1), (86, -1), (94, -1)] h h143_3 → p62_1 ≤ 19 → 2 ≤ p143_0 → p143_0 ≤ 3 → 1 ≤ p143_1 → p143_1 ≤ 3 → p143_1 ≤ p143_0 → p143_1 ≤ p62_0 → p62_0 ≤ (p143_1 + 2) → h143_3 151 0 = 0 → Mw h143_3 → Mw3 h143_3 → Rws h143_3 → Ot9 h h143_3 → wp l rho (d + 5) 224 143 [(2, 151), (0, x1), (0, x2), (0, x3), (0, x4), (0, x5), (0, x6), (0, p49_0), (0, p62_0), (0, p62_1), (0, p143_0)] [(0, p143_1)] h143_3 Q := by
            intro p143_0 p143_1 h143_3 gh_143_3 q0_143_3 q1_143_3 q2_143_3 q3_143_3 q4_143_3 q5_143_3 q6_143_3 q7_143_3 c151_0_143_3 n_Mw_143_3 n_Mw3_143_3 n_Rws_143_3 o9_143_3
            refine w_istore (ls' := [(2, 151), (0, x1), (0, x2), (0, x3), (0, x4), (0, x5), (0, x6), (0, p49_0), (0, p143_1), (0, p62_1), (0, p143_0)]) gz_224_143 gm_224 rfl rfl rfl ?_
            refine w_iinc (ls' := [(2, 151), (0, x1), (0, x2), (0, x3), (0, x4), (0, x5), (0, x6), (0, p49_0), (0, p143_1), (0, (p62_1 + 1)), (0, p143_0)]) gz_224_145 rfl gm_224 rfl rfl rfl ⟨by omega, by omega⟩ ?_
            refine w_goto (t := 62) gz_224_148 rfl ?_
            refine w_weak (ls' := [(2, 151), (0, x1), (0, x2), (0, x3), (0, x4), (0, x5), (0, x6), (0, p49_0), (0, p143_1), (0, (p62_1 + 1)), (9, 0)]) (wk_e (wk_e (wk_e (wk_e (wk_e (wk_e (wk_e (wk_e (wk_e (wk_e (wk_9 wk_n))))))))))) ?_
            exact ih_62_0 (p143_1) ((p62_1 + 1)) h143_3 (gh_143_3) (by omega) (by omega) (by omega) (by omega) (by omega) (c151_0_143_3.trans (by omega)) n_Mw_143_3 n_Mw3_143_3 n_Rws_143_3 (by first | exact o9_49_0 | exact o9_62_0 | exact o9_122_0 | exact o9_143_0 | exact o9_143_1 | exact o9_143_2 | exact o9_143_3 | exact o9_143_4 | exact o9_151_0 | exact o38 | assumption | omega) (by omega)
          have J122_0 : ∀ (h122_0 : my_H), my_fr [(10, 0), (10, 27), (10, 32), (10, 33), (10, 37), (61, -1), (62, -1), (73, -1), (74, -1), (75, -1), (76, -1), (77, -1), (78, -1), (79, -1), (80, -1), (81, -1), (82, -1), (83, -1), (84, -1), (85, -1), (86, -1), (94, -1)] h h122_0 → p62_1 ≤ 19 → h122_0 151 0 = 0 → Mw h122_0 → Mw3 h122_0 → Rws h122_0 → Ot9 h h122_0 → wp l rho (d + 5) 224 122 [(2, 151), (0, x1), (0, x2), (0, x3), (0, x4), (0, x5), (0, x6), (0, p49_0), (0, p62_0), (0, p62_1), (9, 0)] [(0, 0)] h122_0 Q := by
            intro h122_0 gh_122_0 q0_122_0 c151_0_122_0 n_Mw_122_0 n_Mw3_122_0 n_Rws_122_0 o9_122_0
            refine w_istore (ls' := [(2, 151), (0, x1), (0, x2), (0, x3), (0, x4), (0, x5), (0, x6), (0, p49_0), (0, p62_0), (0, p62_1), (0, 0)]) gz_224_122 gm_224 rfl rfl rfl ?_
            refine w_iload gz_224_124 rfl ?_
            refine w_ifle (t := 141) gz_224_126 rfl (fun u7 => ?_) (fun u7 => by exfalso; omega)
            refine w_iload gz_224_141 rfl ?_
            refine w_istore (ls' := [(2, 151), (0, x1), (0, x2), (0, x3), (0, x4), (0, x5), (0, x6), (0, p49_0), (0, p62_0), (0, p62_1), (0, 0)]) gz_224_143 gm_224 rfl rfl rfl ?_
            refine w_iinc (ls' := [(2, 151), (0, x1), (0, x2), (0, x3), (0, x4), (0, x5), (0, x6), (0, p49_0), (0, p62_0), (0, (p62_1 + 1)), (0, 0)]) gz_224_145 rfl gm_224 rfl rfl rfl ⟨by omega, by omega⟩ ?_
            refine w_goto (t := 62) gz_224_148 rfl ?_
            refine w_weak (ls' := [(2, 151), (0, x1), (0, x2), (0, x3), (0, x4), (0, x5), (0, x6), (0, p49_0), (0, p62_0), (0, (p62_1 + 1)), (9, 0)]) (wk_e (wk_e (wk_e (wk_e (wk_e (wk_e (wk_e (wk_e (wk_e (wk_e (wk_9 wk_n))))))))))) ?_
            exact ih_62_0 (p62_0) ((p62_1 + 1)) h122_0 (gh_122_0) (by omega) (by omega) (by omega) (by omega) (by omega) (c151_0_122_0.trans (by omega)) n_Mw_122_0 n_Mw3_122_0 n_Rws_122_0 (by first | exact o9_49_0 | exact o9_62_0 | exact o9_122_0 | exact o9_143_0 | exact o9_143_1 | exact o9_143_2 | exact o9_143_3 | exact o9_143_4 | exact o9_151_0 | exact o38 | assumption | omega) (by omega)
          refine w_iload gz_224_62 rfl ?_
          refine w_bipush gz_224_64 (by decide) ?_
          refine w_icge (t := 151) gz_224_66 rfl (fun u8 => ?_) (fun u8 => ?_)
          ·
            exact J151_0 (p62_0) (p62_1) h62_0 (gh_62_0) (by omega) (by omega) (by omega) (by omega) (by omega) (c151_0_62_0.trans (by omega)) n_Mw_62_0 n_Mw3_62_0 n_Rws_62_0 (by first | exact o9_49_0 | exact o9_62_0 | exact o9_122_0 | exact o9_143_0 | exact o9_143_1 | exact o9_143_2 | exact o9_143_3 | exact o9_143_4 | exact o9_151_0 | exact o38 | assumption | omega)
          ·
            refine w_iload gz_224_69 rfl ?_
            refine w_iconst gz_224_71 (by decide) ?_
            refine w_irem gz_224_72 (by omega) (by decide) ?_
            refine w_aload_n gz_224_73 rfl ?_
            refine w_getX (v := 157) gz_224_74 is_151 rd_10 rfl (by decide) rfl ?_
            refine w_iload gz_224_77 rfl ?_
            refine w_iconst gz_224_79 (by decide) ?_
            refine w_idiv gz_224_80 (by omega) (by decide) ?_
            refine w_iald gz_224_81 is_157 rd_56 (by omega) (by omega) (fun v10 ev10 pv10 qv10 => ?_)
            refine w_icge (t := 151) gz_224_82 rfl (fun u11 => ?_) (fun u11 => ?_)
            ·
              exact J151_0 (p62_0) (p62_1) h62_0 (gh_62_0) (by omega) (by omega) (by omega) (by omega) (by omega) (c151_0_62_0.trans (by omega)) n_Mw_62_0 n_Mw3_62_0 n_Rws_62_0 (by first | exact o9_49_0 | exact o9_62_0 | exact o9_122_0 | exact o9_143_0 | exact o9_143_1 | exact o9_143_2 | exact o9_143_3 | exact o9_143_4 | exact o9_151_0 | exact o38 | assumption | omega)
            ·
              refine w_aload_n gz_224_85 rfl ?_
              refine w_getX (v := 162) gz_224_86 is_151 rd_10 rfl (by decide) rfl ?_
              refine w_iconst gz_224_89 (by decide) ?_
              refine w_iload gz_224_90 rfl ?_
              refine w_iconst gz_224_92 (by decide) ?_
              refine w_idiv gz_224_93 (by omega) (by decide) ?_
              refine w_iload gz_224_94 rfl ?_
              refine w_inS (k := 0) (as := [(0, p62_1), (0, (p49_0 / 4)), (0, 5)]) (r := [(2, 162)]) (ls0 := [(0, 5), (0, (p49_0 / 4)), (0, p62_1)]) gz_224_96 gm_150 rfl rfl rfl rfl rfl rfl ?_
              refine w_bipush gz_150_0 (by decide) ?_
              refine w_iload_n gz_150_2 rfl ?_
              refine w_imul gz_150_3 ⟨by omega, by omega⟩ ?_
              refine w_bipush gz_150_4 (by decide) ?_
              refine w_iload_n gz_150_6 rfl ?_
              refine w_imul gz_150_7 ⟨by omega, by omega⟩ ?_
              refine w_iadd gz_150_8 ⟨by omega, by omega⟩ ?_
              refine w_iload_n gz_150_9 rfl ?_
              refine w_iadd gz_150_10 ⟨by omega, by omega⟩ ?_
              refine w_iret gz_150_11 gm_150 ?_
              show wp l rho (d + 5) 224 99 [(2, 151), (0, x1), (0, x2), (0, x3), (0, x4), (0, x5), (0, x6), (0, p49_0), (0, p62_0), (0, p62_1), (9, 0)] [(0, (((60 * 5) + (20 * (p49_0 / 4))) + p62_1)), (2, 162)] h62_0 Q
              refine w_bald gz_224_99 is_162 rd_61 (by omega) (by omega) (fun v13 ev13 pv13 qv13 => ?_)
              refine w_ifeq (t := 121) gz_224_100 rfl (fun u14 => ?_) (fun u14 => ?_)
              ·
                refine w_iconst gz_224_121 (by decide) ?_
                exact J122_0 h62_0 (gh_62_0) (by omega) (c151_0_62_0.trans (by omega)) n_Mw_62_0 n_Mw3_62_0 n_Rws_62_0 (by first | exact o9_49_0 | exact o9_62_0 | exact o9_122_0 | exact o9_143_0 | exact o9_143_1 | exact o9_143_2 | exact o9_143_3 | exact o9_143_4 | exact o9_151_0 | exact o38 | assumption | omega)
              ·
                refine w_aload_n gz_224_103 rfl ?_
                refine w_iconst gz_224_104 (by decide) ?_
                refine w_iload gz_224_105 rfl ?_
                refine w_iconst gz_224_107 (by decide) ?_
                refine w_idiv gz_224_108 (by omega) (by decide) ?_
                refine w_iload gz_224_109 rfl ?_
                refine w_iload gz_224_111 rfl ?_
                refine w_iconst gz_224_113 (by decide) ?_
                refine w_irem gz_224_114 (by omega) (by decide) ?_
                refine w_inv (k := 3) (as := [(0, (p49_0 % 4)), (0, p62_1), (0, (p49_0 / 4)), (0, 5)]) (r := []) (x := 151) (ls0 := [(2, 151), (0, 5), (0, (p49_0 / 4)), (0, p62_1), (0, (p49_0 % 4)), (9, 0), (9, 0), (9, 0)]) gz_224_115 gm_227 rfl is_151 rd_10 rfl rfl rfl rfl rfl (c_Model_breaks (d := (d + 2)) (x2 := (p49_0 / 4)) (x3 := p62_1) (x4 := (p49_0 % 4)) (by omega) (by omega) (by omega) (by omega) (by omega) (by omega) ?_ ?_ (fun v15 w16 w17 => ?_))
                ·
                  show wp l rho (d + 5) 224 118 [(2, 151), (0, x1), (0, x2), (0, x3), (0, x4), (0, x5), (0, x6), (0, p49_0), (0, p62_0), (0, p62_1), (9, 0)] [(0, 0)] h62_0 Q
                  refine w_goto (t := 122) gz_224_118 rfl ?_
                  exact J122_0 h62_0 (gh_62_0) (by omega) (c151_0_62_0.trans (by omega)) n_Mw_62_0 n_Mw3_62_0 n_Rws_62_0 (by first | exact o9_49_0 | exact o9_62_0 | exact o9_122_0 | exact o9_143_0 | exact o9_143_1 | exact o9_143_2 | exact o9_143_3 | exact o9_143_4 | exact o9_151_0 | exact o38 | assumption | omega)
                ·
                  show wp l rho (d + 5) 224 118 [(2, 151), (0, x1), (0, x2), (0, x3), (0, x4), (0, x5), (0, x6), (0, p49_0), (0, p62_0), (0, p62_1), (9, 0)] [(0, 1)] h62_0 Q
                  refine w_goto (t := 122) gz_224_118 rfl ?_
                  refine w_istore (ls' := [(2, 151), (0, x1), (0, x2), (0, x3), (0, x4), (0, x5), (0, x6), (0, p49_0), (0, p62_0), (0, p62_1), (0, 1)]) gz_224_122 gm_224 rfl rfl rfl ?_
                  refine w_iload gz_224_124 rfl ?_
                  refine w_ifle (t := 141) gz_224_126 rfl (fun u18 => by exfalso; omega) (fun u18 => ?_)
                  refine w_iload gz_224_129 rfl ?_
                  refine w_iload gz_224_131 rfl ?_
                  refine w_icge (t := 141) gz_224_133 rfl (fun u19 => ?_) (fun u19 => ?_)
                  ·
                    refine w_iload gz_224_141 rfl ?_
                    refine w_istore (ls' := [(2, 151), (0, x1), (0, x2), (0, x3), (0, x4), (0, x5), (0, x6), (0, p49_0), (0, p62_0), (0, p62_1), (0, 1)]) gz_224_143 gm_224 rfl rfl rfl ?_
                    refine w_iinc (ls' := [(2, 151), (0, x1), (0, x2), (0, x3), (0, x4), (0, x5), (0, x6), (0, p49_0), (0, p62_0), (0, (p62_1 + 1)), (0, 1)]) gz_224_145 rfl gm_224 rfl rfl rfl ⟨by omega, by omega⟩ ?_
                    refine w_goto (t := 62) gz_224_148 rfl ?_
                    refine w_weak (ls' := [(2, 151), (0, x1), (0, x2), (0, x3), (0, x4), (0, x5), (0, x6), (0, p49_0), (0, p62_0), (0, (p62_1 + 1)), (9, 0)]) (wk_e (wk_e (wk_e (wk_e (wk_e (wk_e (wk_e (wk_e (wk_e (wk_e (wk_9 wk_n))))))))))) ?_
                    exact ih_62_0 (p62_0) ((p62_1 + 1)) h62_0 (gh_62_0) (by omega) (by omega) (by omega) (by omega) (by omega) (c151_0_62_0.trans (by omega)) n_Mw_62_0 n_Mw3_62_0 n_Rws_62_0 (by first | exact o9_49_0 | exact o9_62_0 | exact o9_122_0 | exact o9_143_0 | exact o9_143_1 | exact o9_143_2 | exact o9_143_3 | exact o9_143_4 | exact o9_151_0 | exact o38 | assumption | omega) (by omega)
                  ·
                    refine w_iload gz_224_136 rfl ?_
                    refine w_goto (t := 143) gz_224_138 rfl ?_
                    refine w_istore (ls' := [(2, 151), (0, x1), (0, x2), (0, x3), (0, x4), (0, x5), (0, x6), (0, p49_0), (0, 1), (0, p62_1), (0, 1)]) gz_224_143 gm_224 rfl rfl rfl ?_
                    refine w_iinc (ls' := [(2, 151), (0, x1), (0, x2), (0, x3), (0, x4), (0, x5), (0, x6), (0, p49_0), (0, 1), (0, (p62_1 + 1)), (0, 1)]) gz_224_145 rfl gm_224 rfl rfl rfl ⟨by omega, by omega⟩ ?_
                    refine w_goto (t := 62) gz_224_148 rfl ?_
                    refine w_weak (ls' := [(2, 151), (0, x1), (0, x2), (0, x3), (0, x4), (0, x5), (0, x6), (0, p49_0), (0, 1), (0, (p62_1 + 1)), (9, 0)]) (wk_e (wk_e (wk_e (wk_e (wk_e (wk_e (wk_e (wk_e (wk_e (wk_e (wk_9 wk_n))))))))))) ?_
                    exact ih_62_0 (1) ((p62_1 + 1)) h62_0 (gh_62_0) (by omega) (by omega) (by omega) (by omega) (by omega) (c151_0_62_0.trans (by omega)) n_Mw_62_0 n_Mw3_62_0 n_Rws_62_0 (by first | exact o9_49_0 | exact o9_62_0 | exact o9_122_0 | exact o9_143_0 | exact o9_143_1 | exact o9_143_2 | exact o9_143_3 | exact o9_143_4 | exact o9_151_0 | exact o38 | assumption | omega) (by omega)
                ·
                  show wp l rho (d + 5) 224 118 [(2, 151), (0, x1), (0, x2), (0, x3), (0, x4), (0, x5), (0, x6), (0, p49_0), (0, p62_0), (0, p62_1), (9, 0)] [(0, v15)] h62_0 Q
                  refine w_goto (t := 122) gz_224_118 rfl ?_
                  refine w_istore (ls' := [(2, 151), (0, x1), (0, x2), (0, x3), (0, x4), (0, x5), (0, x6), (0, p49_0), (0, p62_0), (0, p62_1), (0, v15)]) gz_224_122 gm_224 rfl rfl rfl ?_
                  refine w_iload gz_224_124 rfl ?_
                  refine w_ifle (t := 141) gz_224_126 rfl (fun u20 => by exfalso; omega) (fun u20 => ?_)
                  refine w_iload gz_224_129 rfl ?_
                  refine w_iload gz_224_131 rfl ?_
                  refine w_icge (t := 141) gz_224_133 rfl (fun u21 => ?_) (fun u21 => ?_)
                  ·
                    refine w_iload gz_224_141 rfl ?_
                    exact J143_3 (v15) (p62_0) h62_0 (gh_62_0) (by omega) (by omega) (by omega) (by omega) (by omega) (by omega) (by omega) (by omega) (c151_0_62_0.trans (by omega)) n_Mw_62_0 n_Mw3_62_0 n_Rws_62_0 (by first | exact o9_49_0 | exact o9_62_0 | exact o9_122_0 | exact o9_143_0 | exact o9_143_1 | exact o9_143_2 | exact o9_143_3 | exact o9_143_4 | exact o9_151_0 | exact o38 | assumption | omega)
                  ·
                    refine w_iload gz_224_136 rfl ?_
                    refine w_goto (t := 143) gz_224_138 rfl ?_
                    exact J143_3 (v15) (v15) h62_0 (gh_62_0) (by omega) (by omega) (by omega) (by omega) (by omega) (by omega) (by omega) (by omega) (c151_0_62_0.trans (by omega)) n_Mw_62_0 n_Mw3_62_0 n_Rws_62_0 (by first | exact o9_49_0 | exact o9_62_0 | exact o9_122_0 | exact o9_143_0 | exact o9_143_1 | exact o9_143_2 | exact o9_143_3 | exact o9_143_4 | exact o9_151_0 | exact o38 | assumption | omega)
      refine w_iload gz_224_49 rfl ?_
      refine w_bipush gz_224_51 (by decide) ?_
      refine w_icge (t := 191) gz_224_53 rfl (fun u22 => ?_) (fun u22 => ?_)
      ·
        refine w_iconst gz_224_191 (by decide) ?_
        have r162 : ∀ j : Int, h49_0 162 j = h49_0 162 j := fun _ => rfl
        have r163 : ∀ j : Int, h49_0 163 j = h49_0 163 j := fun _ => rfl
        have c23 := c151_0_49_0
        exact w_iret gz_224_192 gm_224 (k0 h49_0 (gh_49_0) (by omega) (by first | exact o9_151_0 | exact o9_49_0 | exact o38 | exact Ot9_e r162 r163 | assumption | omega) n_Rws_49_0)
      ·
        refine w_iconst gz_224_56 (by decide) ?_
        refine w_istore (ls' := [(2, 151), (0, x1), (0, x2), (0, x3), (0, x4), (0, x5), (0, x6), (0, p49_0), (0, 4), (9, 0), (9, 0)]) gz_224_57 gm_224 rfl rfl rfl ?_
        refine w_iconst gz_224_59 (by decide) ?_
        refine w_istore (ls' := [(2, 151), (0, x1), (0, x2), (0, x3), (0, x4), (0, x5), (0, x6), (0, p49_0), (0, 4), (0, 0), (9, 0)]) gz_224_60 gm_224 rfl rfl rfl ?_
        exact J62_0 21 (4) (0) h49_0 (gh_49_0) (by omega) (by omega) (by omega) (by omega) (by omega) (c151_0_49_0.trans (by omega)) n_Mw_49_0 n_Mw3_49_0 n_Rws_49_0 (by first | exact o9_49_0 | exact o9_62_0 | exact o9_122_0 | exact o9_143_0 | exact o9_143_1 | exact o9_143_2 | exact o9_143_3 | exact o9_143_4 | exact o9_151_0 | exact o38 | assumption | omega) (by omega)
  refine w_aload_n gz_224_0 rfl ?_
  refine w_iconst gz_224_1 (by decide) ?_
  refine v_putI (j := 0) gz_224_2 rfl is_151 rd_10 rfl (by omega) (by omega) rfl (fun h24 fh24 => ?_)
  have gh24 : my_fr [(10, 0), (10, 27), (10, 32), (10, 33), (10, 37), (61, -1), (62, -1), (73, -1), (74, -1), (75, -1), (76, -1), (77, -1), (78, -1), (79, -1), (80, -1), (81, -1), (82, -1), (83, -1), (84, -1), (85, -1), (86, -1), (94, -1)] h h24 := my_fr.up my_fr.rf is_151 fh24 rfl
  have Mw_h24 : Mw h24 := Mw_ag (my_ag.up fh24 is_151 rfl) n_Mw
  have Mw3_h24 : Mw3 h24 := Mw3_ag (my_ag.up fh24 is_151 rfl) n_Mw3
  have Rws_h24 : Rws h24 := Rws_ag (my_ag.up fh24 is_151 rfl) n_Rws
  refine w_iload gz_224_5 rfl ?_
  refine w_iconst gz_224_7 (by decide) ?_
  refine w_iconst gz_224_8 (by decide) ?_
  refine w_inS (k := 0) (as := [(0, 2), (0, 0), (0, x6)]) (r := []) (ls0 := [(0, x6), (0, 0), (0, 2)]) gz_224_9 gm_147 rfl rfl rfl rfl rfl rfl ?_
  refine w_iload_n gz_147_0 rfl ?_
  refine w_iload_n gz_147_1 rfl ?_
  refine w_iclt (t := 14) gz_147_2 rfl (fun u25 => ?_) (fun u25 => ?_)
  ·
    refine w_iconst gz_147_14 (by decide) ?_
    refine w_bret gz_147_15 gm_147 (by omega) (by omega) ?_
    show wp l rho (d + 5) 224 12 [(2, 151), (0, x1), (0, x2), (0, x3), (0, x4), (0, x5), (0, x6), (9, 0), (9, 0), (9, 0), (9, 0)] [(0, 0)] h24 Q
    refine w_ifeq (t := 44) gz_224_12 rfl (fun u26 => ?_) (fun u26 => by exfalso; omega)
    refine w_iconst gz_224_44 (by decide) ?_
    have r162 : ∀ j : Int, h24 162 j = h 162 j := fun j => ((my_up_role fh24 is_162 is_151 rfl).trans (rfl : h 162 j = h 162 j))
    have r163 : ∀ j : Int, h24 163 j = h 163 j := fun j => ((my_up_role fh24 is_163 is_151 rfl).trans (rfl : h 163 j = h 163 j))
    have c27 := (my_up_self fh24)
    exact w_iret gz_224_45 gm_224 (k0 h24 (gh24) (by omega) (by first | exact o9_151_0 | exact o9_49_0 | exact o38 | exact Ot9_e r162 r163 | assumption | omega) Rws_h24)
  ·
    refine w_iload_n gz_147_5 rfl ?_
    refine w_iload_n gz_147_6 rfl ?_
    refine w_icgt (t := 14) gz_147_7 rfl (fun u28 => ?_) (fun u28 => ?_)
    ·
      refine w_iconst gz_147_14 (by decide) ?_
      refine w_bret gz_147_15 gm_147 (by omega) (by omega) ?_
      show wp l rho (d + 5) 224 12 [(2, 151), (0, x1), (0, x2), (0, x3), (0, x4), (0, x5), (0, x6), (9, 0), (9, 0), (9, 0), (9, 0)] [(0, 0)] h24 Q
      refine w_ifeq (t := 44) gz_224_12 rfl (fun u29 => ?_) (fun u29 => by exfalso; omega)
      refine w_iconst gz_224_44 (by decide) ?_
      have r162 : ∀ j : Int, h24 162 j = h 162 j := fun j => ((my_up_role fh24 is_162 is_151 rfl).trans (rfl : h 162 j = h 162 j))
      have r163 : ∀ j : Int, h24 163 j = h 163 j := fun j => ((my_up_role fh24 is_163 is_151 rfl).trans (rfl : h 163 j = h 163 j))
      have c30 := (my_up_self fh24)
      exact w_iret gz_224_45 gm_224 (k0 h24 (gh24) (by omega) (by first | exact o9_151_0 | exact o9_49_0 | exact o38 | exact Ot9_e r162 r163 | assumption | omega) Rws_h24)
    ·
      refine w_iconst gz_147_10 (by decide) ?_
      refine w_goto (t := 15) gz_147_11 rfl ?_
      refine w_bret gz_147_15 gm_147 (by omega) (by omega) ?_
      show wp l rho (d + 5) 224 12 [(2, 151), (0, x1), (0, x2), (0, x3), (0, x4), (0, x5), (0, x6), (9, 0), (9, 0), (9, 0), (9, 0)] [(0, 1)] h24 Q
      refine w_ifeq (t := 44) gz_224_12 rfl (fun u31 => by exfalso; omega) (fun u31 => ?_)
      refine w_aload_n gz_224_15 rfl ?_
      refine w_iconst gz_224_16 (by decide) ?_
      refine w_iload_n gz_224_17 rfl ?_
      refine w_iload_n gz_224_18 rfl ?_
      refine w_iload_n gz_224_19 rfl ?_
      refine w_iload gz_224_20 rfl ?_
      refine w_iload gz_224_22 rfl ?_
      refine w_inv (k := 1) (as := [(0, x5), (0, x4), (0, x3), (0, x2), (0, x1), (0, 0)]) (r := []) (x := 151) (ls0 := [(2, 151), (0, 0), (0, x1), (0, x2), (0, x3), (0, x4), (0, x5), (9, 0)]) gz_224_24 gm_208 rfl is_151 rd_10 rfl rfl rfl rfl rfl (c_Model_isEdit5 (d := d) (x1 := 0) (x2 := x1) (x3 := x2) (x4 := x3) (x5 := x4) (x6 := x5) (by omega) (by omega) Mw_h24 Mw3_h24 Rws_h24 (fun h32 frh32 xp33 => ?_) (fun h34 frh34 w35 w36 w37 w38 xp39 xp40 xp41 xp42 xp43 xp44 xp45 xp46 xp47 xp48 xp49 xp50 => ?_))
      ·
        have gh32 : my_fr [(10, 0), (10, 27), (10, 32), (10, 33), (10, 37), (61, -1), (62, -1), (73, -1), (74, -1), (75, -1), (76, -1), (77, -1), (78, -1), (79, -1), (80, -1), (81, -1), (82, -1), (83, -1), (84, -1), (85, -1), (86, -1), (94, -1)] h h32 := my_fr.tr gh24 (frh32.mo rfl)
        have Mw_h32 : Mw h32 := Mw_ag (my_ag.fr frh32 rfl) Mw_h24
        have Mw3_h32 : Mw3 h32 := Mw3_ag (my_ag.fr frh32 rfl) Mw3_h24
        have Rws_h32 : Rws h32 := Rws_ag (my_ag.fr frh32 rfl) Rws_h24
        show wp l rho (d + 5) 224 27 [(2, 151), (0, x1), (0, x2), (0, x3), (0, x4), (0, x5), (0, x6), (9, 0), (9, 0), (9, 0), (9, 0)] [(0, 0)] h32 Q
        refine w_ifeq (t := 44) gz_224_27 rfl (fun u51 => ?_) (fun u51 => by exfalso; omega)
        refine w_iconst gz_224_44 (by decide) ?_
        have r162 : ∀ j : Int, h32 162 j = h 162 j := fun j => ((my_fr.at frh32 is_162 rfl).trans ((my_up_role fh24 is_162 is_151 rfl).trans (rfl : h 162 j = h 162 j)))
        have r163 : ∀ j : Int, h32 163 j = h 163 j := fun j => ((my_fr.at frh32 is_163 rfl).trans ((my_up_role fh24 is_163 is_151 rfl).trans (rfl : h 163 j = h 163 j)))
        have c52 := ((my_fr.at frh32 is_151 rfl).trans (my_up_self fh24))
        exact w_iret gz_224_45 gm_224 (k0 h32 (gh32) (by omega) (by first | exact o9_151_0 | exact o9_49_0 | exact o38 | exact Ot9_e r162 r163 | assumption | omega) Rws_h32)
      ·
        have gh34 : my_fr [(10, 0), (10, 27), (10, 32), (10, 33), (10, 37), (61, -1), (62, -1), (73, -1), (74, -1), (75, -1), (76, -1), (77, -1), (78, -1), (79, -1), (80, -1), (81, -1), (82, -1), (83, -1), (84, -1), (85, -1), (86, -1), (94, -1)] h h34 := my_fr.tr gh24 (frh34.mo rfl)
        have Mw_h34 : Mw h34 := Mw_ag (my_ag.fr frh34 rfl) Mw_h24
        have Mw3_h34 : Mw3 h34 := Mw3_ag (my_ag.fr frh34 rfl) Mw3_h24
        have Rws_h34 : Rws h34 := Rws_ag (my_ag.fr frh34 rfl) Rws_h24
        show wp l rho (d + 5) 224 27 [(2, 151), (0, x1), (0, x2), (0, x3), (0, x4), (0, x5), (0, x6), (9, 0), (9, 0), (9, 0), (9, 0)] [(0, 1)] h34 Q
        have Fp_h34t53 : Fp h34 x1 := xp41
        have e5 := xp44
        have e6 := xp45
        have e7 := xp46
        refine w_ifeq (t := 44) gz_224_27 rfl (fun u54 => by exfalso; omega) (fun u54 => ?_)
        refine w_aload_n gz_224_30 rfl ?_
        refine w_iload_n gz_224_31 rfl ?_
        refine w_iload_n gz_224_32 rfl ?_
        refine w_iload_n gz_224_33 rfl ?_
        refine w_iload gz_224_34 rfl ?_
        refine w_iload gz_224_36 rfl ?_
        have b162 : ∀ j : Int, h34 162 j = h 162 j := fun j => ((my_fr.at frh34 is_162 rfl).trans ((my_up_role fh24 is_162 is_151 rfl).trans (rfl : h 162 j = h 162 j)))
        have b163 : ∀ j : Int, h34 163 j = h 163 j := fun j => ((my_fr.at frh34 is_163 rfl).trans ((my_up_role fh24 is_163 is_151 rfl).trans (rfl : h 163 j = h 163 j)))
        refine w_inv (k := 2) (as := [(0, x5), (0, x4), (0, x3), (0, x2), (0, x1)]) (r := []) (x := 151) (ls0 := [(2, 151), (0, x1), (0, x2), (0, x3), (0, x4), (0, x5), (9, 0), (9, 0)]) gz_224_38 gm_225 rfl is_151 rd_10 rfl rfl rfl rfl rfl (c_Model_straight4 (d := d) (x1 := x1) (x2 := x2) (x3 := x3) (x4 := x4) (x5 := x5) (by omega) (by omega) (by omega) (by omega) Mw_h34 Rws_h34 Fp_h34t53 (by first | assumption | exact Fp_h34t53 | exact Fp_told (by omega) (by omega) | omega | (subst_vars; omega) | omega) (by first | assumption | exact Fp_h34t53 | exact Fp_told (by omega) (by omega) | omega | (subst_vars; omega) | omega) (e7) (LmW_ag (my_ag.fr (F := LmF) gh34 rfl) hlm) (fun h55 frh55 xp56 Rws_h55t57 => ?_) (fun h58 frh58 xp59 Rws_h58t60 => ?_))
        ·
          have gh55 : my_fr [(10, 0), (10, 27), (10, 32), (10, 33), (10, 37), (61, -1), (62, -1), (73, -1), (74, -1), (75, -1), (76, -1), (77, -1), (78, -1), (79, -1), (80, -1), (81, -1), (82, -1), (83, -1), (84, -1), (85, -1), (86, -1), (94, -1)] h h55 := my_fr.tr gh34 (frh55.mo rfl)
          have Mw_h55 : Mw h55 := Mw_ag (my_ag.fr frh55 rfl) Mw_h34
          have Mw3_h55 : Mw3 h55 := Mw3_ag (my_ag.fr frh55 rfl) Mw3_h34
          have Fp_h55 : Fp h55 x1 := Fp_ag (my_ag.fr frh55 rfl) Fp_h34t53
          show wp l rho (d + 5) 224 41 [(2, 151), (0, x1), (0, x2), (0, x3), (0, x4), (0, x5), (0, x6), (9, 0), (9, 0), (9, 0), (9, 0)] [(0, 0)] h55 Q
          have o38 : Ot9 h h55 := (Ot9_e b162 b163).tr xp56
          refine w_ifne (t := 46) gz_224_41 rfl (fun u61 => by exfalso; omega) (fun u61 => ?_)
          refine w_iconst gz_224_44 (by decide) ?_
          have r162 : ∀ j : Int, h55 162 j = h55 162 j := fun j => rfl
          have r163 : ∀ j : Int, h55 163 j = h55 163 j := fun j => rfl
          have c62 := ((my_fr.at frh55 is_151 rfl).trans ((my_fr.at frh34 is_151 rfl).trans (my_up_self fh24)))
          exact w_iret gz_224_45 gm_224 (k0 h55 (gh55) (by omega) (by first | exact o9_151_0 | exact o9_49_0 | exact o38 | exact Ot9_e r162 r163 | assumption | omega) Rws_h55t57)
        ·
          have gh58 : my_fr [(10, 0), (10, 27), (10, 32), (10, 33), (10, 37), (61, -1), (62, -1), (73, -1), (74, -1), (75, -1), (76, -1), (77, -1), (78, -1), (79, -1), (80, -1), (81, -1), (82, -1), (83, -1), (84, -1), (85, -1), (86, -1), (94, -1)] h h58 := my_fr.tr gh34 (frh58.mo rfl)
          have Mw_h58 : Mw h58 := Mw_ag (my_ag.fr frh58 rfl) Mw_h34
          have Mw3_h58 : Mw3 h58 := Mw3_ag (my_ag.fr frh58 rfl) Mw3_h34
          have Fp_h58 : Fp h58 x1 := Fp_ag (my_ag.fr frh58 rfl) Fp_h34t53
          show wp l rho (d + 5) 224 41 [(2, 151), (0, x1), (0, x2), (0, x3), (0, x4), (0, x5), (0, x6), (9, 0), (9, 0), (9, 0), (9, 0)] [(0, 1)] h58 Q
          have o38 : Ot9 h h58 := (Ot9_e b162 b163).tr xp59
          refine w_ifne (t := 46) gz_224_41 rfl (fun u63 => ?_) (fun u63 => by exfalso; omega)
          refine w_iconst gz_224_46 (by decide) ?_
          refine w_istore (ls' := [(2, 151), (0, x1), (0, x2), (0, x3), (0, x4), (0, x5), (0, x6), (0, 0), (9, 0), (9, 0), (9, 0)]) gz_224_47 gm_224 rfl rfl rfl ?_
          exact J49_0 13 (0) h58 (gh58) (by omega) (by omega) (by omega) (by omega) (by omega) (by omega) (by omega) (by omega) (((my_fr.at frh58 is_151 rfl).trans ((my_fr.at frh34 is_151 rfl).trans (my_up_self fh24))).trans (by omega)) Mw_h58 Mw3_h58 Rws_h58t60 (by first | exact o9_49_0 | exact o9_62_0 | exact o9_122_0 | exact o9_143_0 | exact o9_143_1 | exact o9_143_2 | exact o9_143_3 | exact o9_143_4 | exact o9_151_0 | exact o38 | assumption | omega) (by omega)
theorem c_Model_twice4 {l : Launch} {rho : Nat → Int32} {d : Nat} {h : my_H} {Q : my_H → my_V → Prop} {x1 x2 x3 x4 x5 : Int} (n_Mw : Mw h) (n_Mw3 : Mw3 h) (n_Rws : Rws h) (hlm : LmW h) (hwo : zqWo (zqMA h) (zqMS h 0)) (k0 : ∀ (h' : my_H), my_fr [(10, 0), (10, 27), (10, 32), (10, 33), (10, 37), (10, 46), (10, 48), (61, -1), (62, -1), (73, -1), (74, -1), (75, -1), (76, -1), (77, -1), (78, -1), (79, -1), (80, -1), (81, -1), (82, -1), (83, -1), (84, -1), (85, -1), (86, -1), (88, -1), (89, -1), (90, -1), (91, -1), (92, -1), (93, -1), (94, -1)] h h' → h' 151 0 = 0 → Ot9 h h' → Rws h' → Q h' (0, (-1))) (k1 : ∀ (h' : my_H), my_fr [(10, 0), (10, 27), (10, 32), (10, 33), (10, 37), (10, 46), (10, 48), (61, -1), (62, -1), (73, -1), (74, -1), (75, -1), (76, -1), (77, -1), (78, -1), (79, -1), (80, -1), (81, -1), (82, -1), (83, -1), (84, -1), (85, -1), (86, -1), (88, -1), (89, -1), (90, -1), (91, -1), (92, -1), (93, -1), (94, -1)] h h' → 0 ≤ x1 → x1 ≤ 5 → h' 151 0 = 0 → Ot9 h h' → Rws h' → Q h' (0, 0)) (k2 : ∀ (h' : my_H), my_fr [(10, 0), (10, 27), (10, 32), (10, 33), (10, 37), (10, 46), (10, 48), (61, -1), (62, -1), (73, -1), (74, -1), (75, -1), (76, -1), (77, -1), (78, -1), (79, -1), (80, -1), (81, -1), (82, -1), (83, -1), (84, -1), (85, -1), (86, -1), (88, -1), (89, -1), (90, -1), (91, -1), (92, -1), (93, -1), (94, -1)] h h' → 0 ≤ x1 → x1 ≤ 5 → h' 151 0 = 0 → Ot9 h h' → Rws h' → Q h' (0, 1)) : wp l rho (d + 8) 229 0 [(2, 151), (0, x1), (0, x2), (0, x3), (0, x4), (0, x5), (9, 0)] [] h Q := by
  refine v_knowA (x := 162) pis_162 rd_61 (fun kT0 => ?_)
  refine v_knowA (x := 163) pis_163 rd_62 (fun kV0 => ?_)
  refine v_knowA (x := 160) pis_160 rd_59 (fun kN0 => ?_)
  refine v_knowA (x := 157) pis_157 rd_56 (fun kC0 => ?_)
  have T0 : MTy h := ⟨kV0, kT0, kN0, kC0⟩
  refine v_knowA (x := 164) pis_164 rd_63 (fun kB0 => ?_)
  refine v_knowA (x := 188) pis_188 rd_87 (fun kD0 => ?_)
  refine v_knowA (x := 173) pis_173 rd_72 (fun kF0 => ?_)
  refine v_knowA (x := 166) pis_166 rd_65 (fun kP0 => ?_)
  refine w_aload_n gz_229_0 rfl ?_
  refine w_iconst gz_229_1 (by decide) ?_
  refine v_putI (j := 0) gz_229_2 rfl is_151 rd_10 rfl (by omega) (by omega) rfl (fun h1 fh1 => ?_)
  have gh1 : my_fr [(10, 0), (10, 27), (10, 32), (10, 33), (10, 37), (10, 46), (10, 48), (61, -1), (62, -1), (73, -1), (74, -1), (75, -1), (76, -1), (77, -1), (78, -1), (79, -1), (80, -1), (81, -1), (82, -1), (83, -1), (84, -1), (85, -1), (86, -1), (88, -1), (89, -1), (90, -1), (91, -1), (92, -1), (93, -1), (94, -1)] h h1 := my_fr.up my_fr.rf is_151 fh1 rfl
  have Mw_h1 : Mw h1 := Mw_ag (my_ag.up fh1 is_151 rfl) n_Mw
  have Mw3_h1 : Mw3 h1 := Mw3_ag (my_ag.up fh1 is_151 rfl) n_Mw3
  have Rws_h1 : Rws h1 := Rws_ag (my_ag.up fh1 is_151 rfl) n_Rws
  refine w_aload_n gz_229_5 rfl ?_
  refine w_iconst gz_229_6 (by decide) ?_
  refine w_iload_n gz_229_7 rfl ?_
  refine w_iconst gz_229_8 (by decide) ?_
  refine w_iload_n gz_229_9 rfl ?_
  refine w_iload_n gz_229_10 rfl ?_
  refine w_iload gz_229_11 rfl ?_
  refine w_inv (k := 1) (as := [(0, x4), (0, x3), (0, x2), (0, 0), (0, x1), (0, 0)]) (r := []) (x := 151) (ls0 := [(2, 151), (0, 0), (0, x1), (0, 0), (0, x2), (0, x3), (0, x4), (9, 0)]) gz_229_13 gm_208 rfl is_151 rd_10 rfl rfl rfl rfl rfl (c_Model_isEdit5 (d := (d + 3)) (x1 := 0) (x2 := x1) (x3 := 0) (x4 := x2) (x5 := x3) (x6 := x4) (by omega) (by omega) Mw_h1 Mw3_h1 Rws_h1 (fun h2 frh2 xp3 => ?_) (fun h4 frh4 w5 w6 w7 w8 xp9 xp10 xp11 xp12 xp13 xp14 xp15 xp16 xp17 xp18 xp19 xp20 => ?_))
  ·
    have gh2 : my_fr [(10, 0), (10, 27), (10, 32), (10, 33), (10, 37), (10, 46), (10, 48), (61, -1), (62, -1), (73, -1), (74, -1), (75, -1), (76, -1), (77, -1), (78, -1), (79, -1), (80, -1), (81, -1), (82, -1), (83, -1), (84, -1), (85, -1), (86, -1), (88, -1), (89, -1), (90, -1), (91, -1), (92, -1), (93, -1), (94, -1)] h h2 := my_fr.tr gh1 (frh2.mo rfl)
    have Mw_h2 : Mw h2 := Mw_ag (my_ag.fr frh2 rfl) Mw_h1
    have Mw3_h2 : Mw3 h2 := Mw3_ag (my_ag.fr frh2 rfl) Mw3_h1
    have Rws_h2 : Rws h2 := Rws_ag (my_ag.fr frh2 rfl) Rws_h1
    show wp l rho (d + 8) 229 16 [(2, 151), (0, x1), (0, x2), (0, x3), (0, x4), (0, x5), (9, 0)] [(0, 0)] h2 Q
    refine w_ifeq (t := 33) gz_229_16 rfl (fun u21 => ?_) (fun u21 => by exfalso; omega)
    refine w_iconst gz_229_33 (by decide) ?_
    have r162 : ∀ j : Int, h2 162 j = h 162 j := fun j => ((my_fr.at frh2 is_162 rfl).trans ((my_up_role fh1 is_162 is_151 rfl).trans (rfl : h 162 j = h 162 j)))
    have r163 : ∀ j : Int, h2 163 j = h 163 j := fun j => ((my_fr.at frh2 is_163 rfl).trans ((my_up_role fh1 is_163 is_151 rfl).trans (rfl : h 163 j = h 163 j)))
    have c22 := ((my_fr.at frh2 is_151 rfl).trans (my_up_self fh1))
    exact w_iret gz_229_34 gm_229 (k0 h2 (gh2) (by omega) (by first | exact o97 | exact o70 | exact o56 | exact Ot9_e r162 r163 | assumption | omega) Rws_h2)
  ·
    have gh4 : my_fr [(10, 0), (10, 27), (10, 32), (10, 33), (10, 37), (10, 46), (10, 48), (61, -1), (62, -1), (73, -1), (74, -1), (75, -1), (76, -1), (77, -1), (78, -1), (79, -1), (80, -1), (81, -1), (82, -1), (83, -1), (84, -1), (85, -1), (86, -1), (88, -1), (89, -1), (90, -1), (91, -1), (92, -1), (93, -1), (94, -1)] h h4 := my_fr.tr gh1 (frh4.mo rfl)
    have Mw_h4 : Mw h4 := Mw_ag (my_ag.fr frh4 rfl) Mw_h1
    have Mw3_h4 : Mw3 h4 := Mw3_ag (my_ag.fr frh4 rfl) Mw3_h1
    have Rws_h4 : Rws h4 := Rws_ag (my_ag.fr frh4 rfl) Rws_h1
    show wp l rho (d + 8) 229 16 [(2, 151), (0, x1), (0, x2), (0, x3), (0, x4), (0, x5), (9, 0)] [(0, 1)] h4 Q
    refine w_ifeq (t := 33) gz_229_16 rfl (fun u23 => by exfalso; omega) (fun u23 => ?_)
    refine w_aload_n gz_229_19 rfl ?_
    refine w_iconst gz_229_20 (by decide) ?_
    refine w_iload_n gz_229_21 rfl ?_
    refine w_iconst gz_229_22 (by decide) ?_
    refine w_iload_n gz_229_23 rfl ?_
    refine w_iload_n gz_229_24 rfl ?_
    refine w_iload gz_229_25 rfl ?_
    refine w_inv (k := 1) (as := [(0, x5), (0, x3), (0, x2), (0, 0), (0, x1), (0, 0)]) (r := []) (x := 151) (ls0 := [(2, 151), (0, 0), (0, x1), (0, 0), (0, x2), (0, x3), (0, x5), (9, 0)]) gz_229_27 gm_208 rfl is_151 rd_10 rfl rfl rfl rfl rfl (c_Model_isEdit5 (d := (d + 3)) (x1 := 0) (x2 := x1) (x3 := 0) (x4 := x2) (x5 := x3) (x6 := x5) (by omega) (by omega) Mw_h4 Mw3_h4 Rws_h4 (fun h24 frh24 xp25 => ?_) (fun h26 frh26 w27 w28 w29 w30 xp31 xp32 xp33 xp34 xp35 xp36 xp37 xp38 xp39 xp40 xp41 xp42 => ?_))
    ·
      have gh24 : my_fr [(10, 0), (10, 27), (10, 32), (10, 33), (10, 37), (10, 46), (10, 48), (61, -1), (62, -1), (73, -1), (74, -1), (75, -1), (76, -1), (77, -1), (78, -1), (79, -1), (80, -1), (81, -1), (82, -1), (83, -1), (84, -1), (85, -1), (86, -1), (88, -1), (89, -1), (90, -1), (91, -1), (92, -1), (93, -1), (94, -1)] h h24 := my_fr.tr gh4 (frh24.mo rfl)
      have Mw_h24 : Mw h24 := Mw_ag (my_ag.fr frh24 rfl) Mw_h4
      have Mw3_h24 : Mw3 h24 := Mw3_ag (my_ag.fr frh24 rfl) Mw3_h4
      have Rws_h24 : Rws h24 := Rws_ag (my_ag.fr frh24 rfl) Rws_h4
      show wp l rho (d + 8) 229 30 [(2, 151), (0, x1), (0, x2), (0, x3), (0, x4), (0, x5), (9, 0)] [(0, 0)] h24 Q
      refine w_ifne (t := 35) gz_229_30 rfl (fun u43 => by exfalso; omega) (fun u43 => ?_)
      refine w_iconst gz_229_33 (by decide) ?_
      have r162 : ∀ j : Int, h24 162 j = h 162 j := fun j => ((my_fr.at frh24 is_162 rfl).trans ((my_fr.at frh4 is_162 rfl).trans ((my_up_role fh1 is_162 is_151 rfl).trans (rfl : h 162 j = h 162 j))))
      have r163 : ∀ j : Int, h24 163 j = h 163 j := fun j => ((my_fr.at frh24 is_163 rfl).trans ((my_fr.at frh4 is_163 rfl).trans ((my_up_role fh1 is_163 is_151 rfl).trans (rfl : h 163 j = h 163 j))))
      have c44 := ((my_fr.at frh24 is_151 rfl).trans ((my_fr.at frh4 is_151 rfl).trans (my_up_self fh1)))
      exact w_iret gz_229_34 gm_229 (k0 h24 (gh24) (by omega) (by first | exact o97 | exact o70 | exact o56 | exact Ot9_e r162 r163 | assumption | omega) Rws_h24)
    ·
      have gh26 : my_fr [(10, 0), (10, 27), (10, 32), (10, 33), (10, 37), (10, 46), (10, 48), (61, -1), (62, -1), (73, -1), (74, -1), (75, -1), (76, -1), (77, -1), (78, -1), (79, -1), (80, -1), (81, -1), (82, -1), (83, -1), (84, -1), (85, -1), (86, -1), (88, -1), (89, -1), (90, -1), (91, -1), (92, -1), (93, -1), (94, -1)] h h26 := my_fr.tr gh4 (frh26.mo rfl)
      have Mw_h26 : Mw h26 := Mw_ag (my_ag.fr frh26 rfl) Mw_h4
      have Mw3_h26 : Mw3 h26 := Mw3_ag (my_ag.fr frh26 rfl) Mw3_h4
      have Rws_h26 : Rws h26 := Rws_ag (my_ag.fr frh26 rfl) Rws_h4
      show wp l rho (d + 8) 229 30 [(2, 151), (0, x1), (0, x2), (0, x3), (0, x4), (0, x5), (9, 0)] [(0, 1)] h26 Q
      refine w_ifne (t := 35) gz_229_30 rfl (fun u45 => ?_) (fun u45 => by exfalso; omega)
      refine w_aload_n gz_229_35 rfl ?_
      refine w_iconst gz_229_36 (by decide) ?_
      refine w_iconst gz_229_37 (by decide) ?_
      have b162 : ∀ j : Int, h26 162 j = h 162 j := fun j => ((my_fr.at frh26 is_162 rfl).trans ((my_fr.at frh4 is_162 rfl).trans ((my_up_role fh1 is_162 is_151 rfl).trans (rfl : h 162 j = h 162 j))))
      have b163 : ∀ j : Int, h26 163 j = h 163 j := fun j => ((my_fr.at frh26 is_163 rfl).trans ((my_fr.at frh4 is_163 rfl).trans ((my_up_role fh1 is_163 is_151 rfl).trans (rfl : h 163 j = h 163 j))))
      refine w_inv (k := 1) (as := [(0, 5), (0, 0)]) (r := []) (x := 151) (ls0 := [(2, 151), (0, 0), (0, 5), (9, 0)]) gz_229_38 gm_152 rfl is_151 rd_10 rfl rfl rfl rfl rfl (c_Model_copies5 (d := (d + 7)) (x1 := 0) (x2 := 5) (by omega) (by omega) (by omega) (by omega) Rws_h26 (fun h46 frh46 xp47 xp48 Rws_h46t49 => ?_))
      have gh46 : my_fr [(10, 0), (10, 27), (10, 32), (10, 33), (10, 37), (10, 46), (10, 48), (61, -1), (62, -1), (73, -1), (74, -1), (75, -1), (76, -1), (77, -1), (78, -1), (79, -1), (80, -1), (81, -1), (82, -1), (83, -1), (84, -1), (85, -1), (86, -1), (88, -1), (89, -1), (90, -1), (91, -1), (92, -1), (93, -1), (94, -1)] h h46 := my_fr.tr gh26 (frh46.mo rfl)
      have Mw_h46 : Mw h46 := Mw_ag (my_ag.fr frh46 rfl) Mw_h26
      have Mw3_h46 : Mw3 h46 := Mw3_ag (my_ag.fr frh46 rfl) Mw3_h26
      show wp l rho (d + 8) 229 41 [(2, 151), (0, x1), (0, x2), (0, x3), (0, x4), (0, x5), (9, 0)] [] h46 Q
      have o38 : Ot9 h h46 := (Ot9_e b162 b163).tr (Ot9_Cp xp47 xp48 (Or.inl rfl))
      have ag5 := Cp_ag5 xp47 xp48 b162 b163
      refine w_aload_n gz_229_41 rfl ?_
      refine w_iconst gz_229_42 (by decide) ?_
      refine w_bipush gz_229_43 (by decide) ?_
      refine w_inv (k := 1) (as := [(0, 6), (0, 0)]) (r := []) (x := 151) (ls0 := [(2, 151), (0, 0), (0, 6), (9, 0)]) gz_229_45 gm_152 rfl is_151 rd_10 rfl rfl rfl rfl rfl (c_Model_copies5 (d := (d + 7)) (x1 := 0) (x2 := 6) (by omega) (by omega) (by omega) (by omega) Rws_h46t49 (fun h50 frh50 xp51 xp52 Rws_h50t53 => ?_))
      have gh50 : my_fr [(10, 0), (10, 27), (10, 32), (10, 33), (10, 37), (10, 46), (10, 48), (61, -1), (62, -1), (73, -1), (74, -1), (75, -1), (76, -1), (77, -1), (78, -1), (79, -1), (80, -1), (81, -1), (82, -1), (83, -1), (84, -1), (85, -1), (86, -1), (88, -1), (89, -1), (90, -1), (91, -1), (92, -1), (93, -1), (94, -1)] h h50 := my_fr.tr gh46 (frh50.mo rfl)
      have Mw_h50 : Mw h50 := Mw_ag (my_ag.fr frh50 rfl) Mw_h46
      have Mw3_h50 : Mw3 h50 := Mw3_ag (my_ag.fr frh50 rfl) Mw3_h46
      show wp l rho (d + 8) 229 48 [(2, 151), (0, x1), (0, x2), (0, x3), (0, x4), (0, x5), (9, 0)] [] h50 Q
      have o45 : Ot9 h h50 := o38.tr (Ot9_Cp xp51 xp52 (Or.inr (Or.inl rfl)))
      have ag5b : zqAg (zqMS h 0) (zqMS h50 5) := fun j x y => ((Cp_MS xp51 xp52).2 5 (by omega) j x y).trans (ag5 j x y)
      have ag6 : zqAg (zqMS h 0) (zqMS h50 6) := fun j x y => ((Cp_MS xp51 xp52).1 j x y).trans (o38.ms (by omega) (by omega) j x y)
      refine w_aload_n gz_229_48 rfl ?_
      refine w_iconst gz_229_49 (by decide) ?_
      refine w_iload_n gz_229_50 rfl ?_
      refine w_iconst gz_229_51 (by decide) ?_
      refine w_iload_n gz_229_52 rfl ?_
      refine w_iload_n gz_229_53 rfl ?_
      refine w_iload gz_229_54 rfl ?_
      have agB : my_ag LmF h h50 := (my_ag.fr (F := LmF) gh50 rfl)
      have maB : zqMA h50 = zqMA h := zqMA_e (fun j => my_fr.at gh50 pis_157 rfl) (fun j => my_fr.at gh50 pis_158 rfl) (fun j => my_fr.at gh50 pis_159 rfl) (fun j => my_fr.at gh50 pis_160 rfl) (fun j => my_fr.at gh50 pis_161 rfl)
      have e188B : ∀ j : Int, h50 188 j = h 188 j := fun j => my_fr.at gh50 pis_188 rfl
      have e164B : ∀ j : Int, h50 164 j = h 164 j := fun j => my_fr.at gh50 pis_164 rfl
      have woB : zqWo (zqMA h) (zqMS h50 5) := zqWo_c ag5b (fun u a b => (T0.2.2.2 u a (by omega)).2) (fun p a b => T0.2.2.1 p a (by omega)) hwo
      refine w_inv (k := 2) (as := [(0, x4), (0, x3), (0, x2), (0, 0), (0, x1), (0, 5)]) (r := []) (x := 151) (ls0 := [(2, 151), (0, 5), (0, x1), (0, 0), (0, x2), (0, x3), (0, x4), (9, 0), (9, 0)]) gz_229_56 gm_223 rfl is_151 rd_10 rfl rfl rfl rfl rfl (c_Model_puts5 (d := d) (x1 := 5) (x2 := x1) (x3 := 0) (x4 := x2) (x5 := x3) (x6 := x4) (by omega) (by omega) Mw_h50 Mw3_h50 Rws_h50t53 (by first | assumption | exact no_such_saying | exact Fp_told (by omega) (by omega) | omega | (subst_vars; omega) | omega) (LmW_ag agB hlm) ((by rw [maB]; exact woB)) (fun h54 frh54 xp55 xp56 Rws_h54t57 => ?_) (fun h58 v59 frh58 w60 w61 w62 w63 w64 w65 xp66 xp67 xp68 Rws_h58t69 => ?_))
      ·
        have gh54 : my_fr [(10, 0), (10, 27), (10, 32), (10, 33), (10, 37), (10, 46), (10, 48), (61, -1), (62, -1), (73, -1), (74, -1), (75, -1), (76, -1), (77, -1), (78, -1), (79, -1), (80, -1), (81, -1), (82, -1), (83, -1), (84, -1), (85, -1), (86, -1), (88, -1), (89, -1), (90, -1), (91, -1), (92, -1), (93, -1), (94, -1)] h h54 := my_fr.tr gh50 (frh54.mo rfl)
        have Mw_h54 : Mw h54 := Mw_ag (my_ag.fr frh54 rfl) Mw_h50
        have Mw3_h54 : Mw3 h54 := Mw3_ag (my_ag.fr frh54 rfl) Mw3_h50
        show wp l rho (d + 8) 229 59 [(2, 151), (0, x1), (0, x2), (0, x3), (0, x4), (0, x5), (9, 0)] [(0, (-1))] h54 Q
        have o56 : Ot9 h h54 := o45.tr (Ot9_S xp56 (Or.inl rfl))
        have wo56 : zqWo (zqMA h) (zqMS h54 5) := Mneg_wo hlm T0 kB0 (fun j a b => kD0 j a (by omega)) (fun j a b => (kF0 j a (by omega)).2) (fun j a b => by have q := kP0 j a (by omega); omega) agB maB e188B e164B woB xp55
        have oth56 : zqAg (zqMS h 0) (zqMS h54 6) := zqAg.tr ag6 (OtS_ms xp56 (by omega) (by omega))
        refine w_iflt (t := 80) gz_229_59 rfl (fun u70 => ?_) (fun u70 => by exfalso; omega)
        refine w_iconst gz_229_80 (by decide) ?_
        refine w_istore (ls' := [(2, 151), (0, x1), (0, x2), (0, x3), (0, x4), (0, x5), (0, 0)]) gz_229_81 gm_229 rfl rfl rfl ?_
        refine w_iload gz_229_83 rfl ?_
        refine w_ifeq (t := 117) gz_229_85 rfl (fun u71 => ?_) (fun u71 => by exfalso; omega)
        refine w_iconst gz_229_117 (by decide) ?_
        have r162 : ∀ j : Int, h54 162 j = h54 162 j := fun j => rfl
        have r163 : ∀ j : Int, h54 163 j = h54 163 j := fun j => rfl
        have c72 := ((my_fr.at frh54 is_151 rfl).trans ((my_fr.at frh50 is_151 rfl).trans ((my_fr.at frh46 is_151 rfl).trans ((my_fr.at frh26 is_151 rfl).trans ((my_fr.at frh4 is_151 rfl).trans (my_up_self fh1))))))
        exact w_iret gz_229_118 gm_229 (k1 h54 (gh54) (by omega) (by omega) (by omega) (by first | exact o97 | exact o70 | exact o56 | exact Ot9_e r162 r163 | assumption | omega) Rws_h54t57)
      ·
        have gh58 : my_fr [(10, 0), (10, 27), (10, 32), (10, 33), (10, 37), (10, 46), (10, 48), (61, -1), (62, -1), (73, -1), (74, -1), (75, -1), (76, -1), (77, -1), (78, -1), (79, -1), (80, -1), (81, -1), (82, -1), (83, -1), (84, -1), (85, -1), (86, -1), (88, -1), (89, -1), (90, -1), (91, -1), (92, -1), (93, -1), (94, -1)] h h58 := my_fr.tr gh50 (frh58.mo rfl)
        have Mw_h58 : Mw h58 := Mw_ag (my_ag.fr frh58 rfl) Mw_h50
        have Mw3_h58 : Mw3 h58 := Mw3_ag (my_ag.fr frh58 rfl) Mw3_h50
        show wp l rho (d + 8) 229 59 [(2, 151), (0, x1), (0, x2), (0, x3), (0, x4), (0, x5), (9, 0)] [(0, v59)] h58 Q
        have o56 : Ot9 h h58 := o45.tr (Ot9_S xp68 (Or.inl rfl))
        have wo56 : zqWo (zqMA h) (zqMS h58 5) := mPut_wo hlm T0 kB0 (fun j a b => kD0 j a (by omega)) (fun j a b => (kF0 j a (by omega)).2) (fun j a b => by have q := kP0 j a (by omega); omega) agB maB e188B e164B woB xp66 xp67
        have oth56 : zqAg (zqMS h 0) (zqMS h58 6) := zqAg.tr ag6 (OtS_ms xp68 (by omega) (by omega))
        refine w_iflt (t := 80) gz_229_59 rfl (fun u73 => by exfalso; omega) (fun u73 => ?_)
        refine w_aload_n gz_229_62 rfl ?_
        refine w_iconst gz_229_63 (by decide) ?_
        refine w_iload_n gz_229_64 rfl ?_
        refine w_iconst gz_229_65 (by decide) ?_
        refine w_iload_n gz_229_66 rfl ?_
        refine w_iload_n gz_229_67 rfl ?_
        refine w_iload gz_229_68 rfl ?_
        have agB : my_ag LmF h h58 := (my_ag.fr (F := LmF) gh58 rfl)
        have maB : zqMA h58 = zqMA h := zqMA_e (fun j => my_fr.at gh58 pis_157 rfl) (fun j => my_fr.at gh58 pis_158 rfl) (fun j => my_fr.at gh58 pis_159 rfl) (fun j => my_fr.at gh58 pis_160 rfl) (fun j => my_fr.at gh58 pis_161 rfl)
        have e188B : ∀ j : Int, h58 188 j = h 188 j := fun j => my_fr.at gh58 pis_188 rfl
        have e164B : ∀ j : Int, h58 164 j = h 164 j := fun j => my_fr.at gh58 pis_164 rfl
        have woB : zqWo (zqMA h) (zqMS h58 5) := wo56
        refine w_inv (k := 2) (as := [(0, x5), (0, x3), (0, x2), (0, 0), (0, x1), (0, 5)]) (r := []) (x := 151) (ls0 := [(2, 151), (0, 5), (0, x1), (0, 0), (0, x2), (0, x3), (0, x5), (9, 0), (9, 0)]) gz_229_70 gm_223 rfl is_151 rd_10 rfl rfl rfl rfl rfl (c_Model_puts5 (d := d) (x1 := 5) (x2 := x1) (x3 := 0) (x4 := x2) (x5 := x3) (x6 := x5) (by omega) (by omega) Mw_h58 Mw3_h58 Rws_h58t69 (by first | assumption | exact no_such_saying | exact Fp_told (by omega) (by omega) | omega | (subst_vars; omega) | omega) (LmW_ag agB hlm) ((by rw [maB]; exact woB)) (fun h74 frh74 xp75 xp76 Rws_h74t77 => ?_) (fun h78 v79 frh78 w80 w81 w82 w83 w84 w85 xp86 xp87 xp88 Rws_h78t89 => ?_))
        ·
          have gh74 : my_fr [(10, 0), (10, 27), (10, 32), (10, 33), (10, 37), (10, 46), (10, 48), (61, -1), (62, -1), (73, -1), (74, -1), (75, -1), (76, -1), (77, -1), (78, -1), (79, -1), (80, -1), (81, -1), (82, -1), (83, -1), (84, -1), (85, -1), (86, -1), (88, -1), (89, -1), (90, -1), (91, -1), (92, -1), (93, -1), (94, -1)] h h74 := my_fr.tr gh58 (frh74.mo rfl)
          have Mw_h74 : Mw h74 := Mw_ag (my_ag.fr frh74 rfl) Mw_h58
          have Mw3_h74 : Mw3 h74 := Mw3_ag (my_ag.fr frh74 rfl) Mw3_h58
          show wp l rho (d + 8) 229 73 [(2, 151), (0, x1), (0, x2), (0, x3), (0, x4), (0, x5), (9, 0)] [(0, (-1))] h74 Q
          have o70 : Ot9 h h74 := o56.tr (Ot9_S xp76 (Or.inl rfl))
          have wo70 : zqWo (zqMA h) (zqMS h74 5) := Mneg_wo hlm T0 kB0 (fun j a b => kD0 j a (by omega)) (fun j a b => (kF0 j a (by omega)).2) (fun j a b => by have q := kP0 j a (by omega); omega) agB maB e188B e164B woB xp75
          have oth70 : zqAg (zqMS h 0) (zqMS h74 6) := zqAg.tr oth56 (OtS_ms xp76 (by omega) (by omega))
          refine w_iflt (t := 80) gz_229_73 rfl (fun u90 => ?_) (fun u90 => by exfalso; omega)
          refine w_iconst gz_229_80 (by decide) ?_
          refine w_istore (ls' := [(2, 151), (0, x1), (0, x2), (0, x3), (0, x4), (0, x5), (0, 0)]) gz_229_81 gm_229 rfl rfl rfl ?_
          refine w_iload gz_229_83 rfl ?_
          refine w_ifeq (t := 117) gz_229_85 rfl (fun u91 => ?_) (fun u91 => by exfalso; omega)
          refine w_iconst gz_229_117 (by decide) ?_
          have r162 : ∀ j : Int, h74 162 j = h74 162 j := fun j => rfl
          have r163 : ∀ j : Int, h74 163 j = h74 163 j := fun j => rfl
          have c92 := ((my_fr.at frh74 is_151 rfl).trans ((my_fr.at frh58 is_151 rfl).trans ((my_fr.at frh50 is_151 rfl).trans ((my_fr.at frh46 is_151 rfl).trans ((my_fr.at frh26 is_151 rfl).trans ((my_fr.at frh4 is_151 rfl).trans (my_up_self fh1)))))))
          exact w_iret gz_229_118 gm_229 (k1 h74 (gh74) (by omega) (by omega) (by omega) (by first | exact o97 | exact o70 | exact o56 | exact Ot9_e r162 r163 | assumption | omega) Rws_h74t77)
        ·
          have gh78 : my_fr [(10, 0), (10, 27), (10, 32), (10, 33), (10, 37), (10, 46), (10, 48), (61, -1), (62, -1), (73, -1), (74, -1), (75, -1), (76, -1), (77, -1), (78, -1), (79, -1), (80, -1), (81, -1), (82, -1), (83, -1), (84, -1), (85, -1), (86, -1), (88, -1), (89, -1), (90, -1), (91, -1), (92, -1), (93, -1), (94, -1)] h h78 := my_fr.tr gh58 (frh78.mo rfl)
          have Mw_h78 : Mw h78 := Mw_ag (my_ag.fr frh78 rfl) Mw_h58
          have Mw3_h78 : Mw3 h78 := Mw3_ag (my_ag.fr frh78 rfl) Mw3_h58
          show wp l rho (d + 8) 229 73 [(2, 151), (0, x1), (0, x2), (0, x3), (0, x4), (0, x5), (9, 0)] [(0, v79)] h78 Q
          have o70 : Ot9 h h78 := o56.tr (Ot9_S xp88 (Or.inl rfl))
          have wo70 : zqWo (zqMA h) (zqMS h78 5) := mPut_wo hlm T0 kB0 (fun j a b => kD0 j a (by omega)) (fun j a b => (kF0 j a (by omega)).2) (fun j a b => by have q := kP0 j a (by omega); omega) agB maB e188B e164B woB xp86 xp87
          have oth70 : zqAg (zqMS h 0) (zqMS h78 6) := zqAg.tr oth56 (OtS_ms xp88 (by omega) (by omega))
          refine w_iflt (t := 80) gz_229_73 rfl (fun u93 => by exfalso; omega) (fun u93 => ?_)
          refine w_iconst gz_229_76 (by decide) ?_
          refine w_goto (t := 81) gz_229_77 rfl ?_
          refine w_istore (ls' := [(2, 151), (0, x1), (0, x2), (0, x3), (0, x4), (0, x5), (0, 1)]) gz_229_81 gm_229 rfl rfl rfl ?_
          refine w_iload gz_229_83 rfl ?_
          refine w_ifeq (t := 117) gz_229_85 rfl (fun u94 => by exfalso; omega) (fun u94 => ?_)
          refine w_aload_n gz_229_88 rfl ?_
          refine w_bipush gz_229_89 (by decide) ?_
          refine w_iload_n gz_229_91 rfl ?_
          refine w_iconst gz_229_92 (by decide) ?_
          refine w_iload_n gz_229_93 rfl ?_
          refine w_iload_n gz_229_94 rfl ?_
          refine w_iload gz_229_95 rfl ?_
          have agB : my_ag LmF h h78 := (my_ag.fr (F := LmF) gh78 rfl)
          have maB : zqMA h78 = zqMA h := zqMA_e (fun j => my_fr.at gh78 pis_157 rfl) (fun j => my_fr.at gh78 pis_158 rfl) (fun j => my_fr.at gh78 pis_159 rfl) (fun j => my_fr.at gh78 pis_160 rfl) (fun j => my_fr.at gh78 pis_161 rfl)
          have e188B : ∀ j : Int, h78 188 j = h 188 j := fun j => my_fr.at gh78 pis_188 rfl
          have e164B : ∀ j : Int, h78 164 j = h 164 j := fun j => my_fr.at gh78 pis_164 rfl
          have woB : zqWo (zqMA h) (zqMS h78 6) := zqWo_c oth70 (fun u a b => (T0.2.2.2 u a (by omega)).2) (fun p a b => T0.2.2.1 p a (by omega)) hwo
          refine w_inv (k := 2) (as := [(0, x5), (0, x3), (0, x2), (0, 0), (0, x1), (0, 6)]) (r := []) (x := 151) (ls0 := [(2, 151), (0, 6), (0, x1), (0, 0), (0, x2), (0, x3), (0, x5), (9, 0), (9, 0)]) gz_229_97 gm_223 rfl is_151 rd_10 rfl rfl rfl rfl rfl (c_Model_puts5 (d := d) (x1 := 6) (x2 := x1) (x3 := 0) (x4 := x2) (x5 := x3) (x6 := x5) (by omega) (by omega) Mw_h78 Mw3_h78 Rws_h78t89 (by first | assumption | exact no_such_saying | exact Fp_told (by omega) (by omega) | omega | (subst_vars; omega) | omega) (LmW_ag agB hlm) ((by rw [maB]; exact woB)) (fun h95 frh95 xp96 xp97 Rws_h95t98 => ?_) (fun h99 v100 frh99 w101 w102 w103 w104 w105 w106 xp107 xp108 xp109 Rws_h99t110 => ?_))
          ·
            have gh95 : my_fr [(10, 0), (10, 27), (10, 32), (10, 33), (10, 37), (10, 46), (10, 48), (61, -1), (62, -1), (73, -1), (74, -1), (75, -1), (76, -1), (77, -1), (78, -1), (79, -1), (80, -1), (81, -1), (82, -1), (83, -1), (84, -1), (85, -1), (86, -1), (88, -1), (89, -1), (90, -1), (91, -1), (92, -1), (93, -1), (94, -1)] h h95 := my_fr.tr gh78 (frh95.mo rfl)
            have Mw_h95 : Mw h95 := Mw_ag (my_ag.fr frh95 rfl) Mw_h78
            have Mw3_h95 : Mw3 h95 := Mw3_ag (my_ag.fr frh95 rfl) Mw3_h78
            show wp l rho (d + 8) 229 100 [(2, 151), (0, x1), (0, x2), (0, x3), (0, x4), (0, x5), (0, 1)] [(0, (-1))] h95 Q
            have o97 : Ot9 h h95 := o70.tr (Ot9_S xp97 (Or.inr rfl))
            have wo97 : zqWo (zqMA h) (zqMS h95 6) := Mneg_wo hlm T0 kB0 (fun j a b => kD0 j a (by omega)) (fun j a b => (kF0 j a (by omega)).2) (fun j a b => by have q := kP0 j a (by omega); omega) agB maB e188B e164B woB xp96
            refine w_iflt (t := 117) gz_229_100 rfl (fun u111 => ?_) (fun u111 => by exfalso; omega)
            refine w_iconst gz_229_117 (by decide) ?_
            have r162 : ∀ j : Int, h95 162 j = h95 162 j := fun j => rfl
            have r163 : ∀ j : Int, h95 163 j = h95 163 j := fun j => rfl
            have c112 := ((my_fr.at frh95 is_151 rfl).trans ((my_fr.at frh78 is_151 rfl).trans ((my_fr.at frh58 is_151 rfl).trans ((my_fr.at frh50 is_151 rfl).trans ((my_fr.at frh46 is_151 rfl).trans ((my_fr.at frh26 is_151 rfl).trans ((my_fr.at frh4 is_151 rfl).trans (my_up_self fh1))))))))
            exact w_iret gz_229_118 gm_229 (k1 h95 (gh95) (by omega) (by omega) (by omega) (by first | exact o97 | exact o70 | exact o56 | exact Ot9_e r162 r163 | assumption | omega) Rws_h95t98)
          ·
            have gh99 : my_fr [(10, 0), (10, 27), (10, 32), (10, 33), (10, 37), (10, 46), (10, 48), (61, -1), (62, -1), (73, -1), (74, -1), (75, -1), (76, -1), (77, -1), (78, -1), (79, -1), (80, -1), (81, -1), (82, -1), (83, -1), (84, -1), (85, -1), (86, -1), (88, -1), (89, -1), (90, -1), (91, -1), (92, -1), (93, -1), (94, -1)] h h99 := my_fr.tr gh78 (frh99.mo rfl)
            have Mw_h99 : Mw h99 := Mw_ag (my_ag.fr frh99 rfl) Mw_h78
            have Mw3_h99 : Mw3 h99 := Mw3_ag (my_ag.fr frh99 rfl) Mw3_h78
            show wp l rho (d + 8) 229 100 [(2, 151), (0, x1), (0, x2), (0, x3), (0, x4), (0, x5), (0, 1)] [(0, v100)] h99 Q
            have o97 : Ot9 h h99 := o70.tr (Ot9_S xp109 (Or.inr rfl))
            have wo97 : zqWo (zqMA h) (zqMS h99 6) := mPut_wo hlm T0 kB0 (fun j a b => kD0 j a (by omega)) (fun j a b => (kF0 j a (by omega)).2) (fun j a b => by have q := kP0 j a (by omega); omega) agB maB e188B e164B woB xp107 xp108
            refine w_iflt (t := 117) gz_229_100 rfl (fun u113 => by exfalso; omega) (fun u113 => ?_)
            refine w_aload_n gz_229_103 rfl ?_
            refine w_iconst gz_229_104 (by decide) ?_
            refine w_bipush gz_229_105 (by decide) ?_
            refine w_inv (k := 3) (as := [(0, 6), (0, 5)]) (r := []) (x := 151) (ls0 := [(2, 151), (0, 5), (0, 6), (9, 0), (9, 0), (9, 0)]) gz_229_107 gm_230 rfl is_151 rd_10 rfl rfl rfl rfl rfl (c_Model_areAlike5 (d := (d + 7)) (x1 := 5) (x2 := 6) (by omega) (by omega) (by omega) (by omega) (fun v114 w115 w116 xp117 => ?_))
            show wp l rho (d + 8) 229 110 [(2, 151), (0, x1), (0, x2), (0, x3), (0, x4), (0, x5), (0, 1)] [(0, v114)] h99 Q
            refine w_ifeq (t := 117) gz_229_110 rfl (fun u118 => ?_) (fun u118 => ?_)
            ·
              refine w_iconst gz_229_117 (by decide) ?_
              have r162 : ∀ j : Int, h99 162 j = h99 162 j := fun j => rfl
              have r163 : ∀ j : Int, h99 163 j = h99 163 j := fun j => rfl
              have c119 := ((my_fr.at frh99 is_151 rfl).trans ((my_fr.at frh78 is_151 rfl).trans ((my_fr.at frh58 is_151 rfl).trans ((my_fr.at frh50 is_151 rfl).trans ((my_fr.at frh46 is_151 rfl).trans ((my_fr.at frh26 is_151 rfl).trans ((my_fr.at frh4 is_151 rfl).trans (my_up_self fh1))))))))
              exact w_iret gz_229_118 gm_229 (k1 h99 (gh99) (by omega) (by omega) (by omega) (by first | exact o97 | exact o70 | exact o56 | exact Ot9_e r162 r163 | assumption | omega) Rws_h99t110)
            ·
              refine w_iconst gz_229_113 (by decide) ?_
              refine w_goto (t := 118) gz_229_114 rfl ?_
              have r162 : ∀ j : Int, h99 162 j = h99 162 j := fun j => rfl
              have r163 : ∀ j : Int, h99 163 j = h99 163 j := fun j => rfl
              have c120 := ((my_fr.at frh99 is_151 rfl).trans ((my_fr.at frh78 is_151 rfl).trans ((my_fr.at frh58 is_151 rfl).trans ((my_fr.at frh50 is_151 rfl).trans ((my_fr.at frh46 is_151 rfl).trans ((my_fr.at frh26 is_151 rfl).trans ((my_fr.at frh4 is_151 rfl).trans (my_up_self fh1))))))))
              exact w_iret gz_229_118 gm_229 (k2 h99 (gh99) (by omega) (by omega) (by omega) (by first | exact o97 | exact o70 | exact o56 | exact Ot9_e r162 r163 | assumption | omega) Rws_h99t110)
theorem c_Model_back4 {l : Launch} {rho : Nat → Int32} {d : Nat} {h : my_H} {Q : my_H → my_V → Prop} {x1 x2 x3 x4 : Int} (n_Mw : Mw h) (n_Mw3 : Mw3 h) (n_Rws : Rws h) (hlm : LmW h) (hwo : zqWo (zqMA h) (zqMS h 0)) (k0 : ∀ (h' : my_H), my_fr [(10, 0), (10, 27), (10, 32), (10, 33), (10, 37), (10, 46), (10, 48), (61, -1), (62, -1), (73, -1), (74, -1), (75, -1), (76, -1), (77, -1), (78, -1), (79, -1), (80, -1), (81, -1), (82, -1), (83, -1), (84, -1), (85, -1), (86, -1), (88, -1), (89, -1), (90, -1), (91, -1), (92, -1), (93, -1), (94, -1)] h h' → h' 151 0 = 0 → Ot9 h h' → Rws h' → Q h' (0, (-1))) (k1 : ∀ (h' : my_H), my_fr [(10, 0), (10, 27), (10, 32), (10, 33), (10, 37), (10, 46), (10, 48), (61, -1), (62, -1), (73, -1), (74, -1), (75, -1), (76, -1), (77, -1), (78, -1), (79, -1), (80, -1), (81, -1), (82, -1), (83, -1), (84, -1), (85, -1), (86, -1), (88, -1), (89, -1), (90, -1), (91, -1), (92, -1), (93, -1), (94, -1)] h h' → 0 ≤ x1 → x1 ≤ 5 → 0 ≤ x2 → x2 ≤ 9 → 0 ≤ x3 → x3 ≤ 7 → h' 151 0 = 0 → Ot9 h h' → Rws h' → Q h' (0, 0)) (k2 : ∀ (h' : my_H), my_fr [(10, 0), (10, 27), (10, 32), (10, 33), (10, 37), (10, 46), (10, 48), (61, -1), (62, -1), (73, -1), (74, -1), (75, -1), (76, -1), (77, -1), (78, -1), (79, -1), (80, -1), (81, -1), (82, -1), (83, -1), (84, -1), (85, -1), (86, -1), (88, -1), (89, -1), (90, -1), (91, -1), (92, -1), (93, -1), (94, -1)] h h' → 0 ≤ x1 → x1 ≤ 5 → 0 ≤ x2 → x2 ≤ 9 → 0 ≤ x3 → x3 ≤ 7 → h' 151 0 = 0 → Ot9 h h' → Rws h' → Q h' (0, 1)) : wp l rho (d + 8) 231 0 [(2, 151), (0, x1), (0, x2), (0, x3), (0, x4), (9, 0), (9, 0)] [] h Q := by
  refine v_knowA (x := 162) pis_162 rd_61 (fun kT0 => ?_)
  refine v_knowA (x := 163) pis_163 rd_62 (fun kV0 => ?_)
  refine v_knowA (x := 160) pis_160 rd_59 (fun kN0 => ?_)
  refine v_knowA (x := 157) pis_157 rd_56 (fun kC0 => ?_)
  have T0 : MTy h := ⟨kV0, kT0, kN0, kC0⟩
  refine v_knowA (x := 164) pis_164 rd_63 (fun kB0 => ?_)
  refine v_knowA (x := 188) pis_188 rd_87 (fun kD0 => ?_)
  refine v_knowA (x := 173) pis_173 rd_72 (fun kF0 => ?_)
  refine v_knowA (x := 166) pis_166 rd_65 (fun kP0 => ?_)
  refine w_aload_n gz_231_0 rfl ?_
  refine w_iconst gz_231_1 (by decide) ?_
  refine v_putI (j := 0) gz_231_2 rfl is_151 rd_10 rfl (by omega) (by omega) rfl (fun h1 fh1 => ?_)
  have gh1 : my_fr [(10, 0), (10, 27), (10, 32), (10, 33), (10, 37), (10, 46), (10, 48), (61, -1), (62, -1), (73, -1), (74, -1), (75, -1), (76, -1), (77, -1), (78, -1), (79, -1), (80, -1), (81, -1), (82, -1), (83, -1), (84, -1), (85, -1), (86, -1), (88, -1), (89, -1), (90, -1), (91, -1), (92, -1), (93, -1), (94, -1)] h h1 := my_fr.up my_fr.rf is_151 fh1 rfl
  have Mw_h1 : Mw h1 := Mw_ag (my_ag.up fh1 is_151 rfl) n_Mw
  have Mw3_h1 : Mw3 h1 := Mw3_ag (my_ag.up fh1 is_151 rfl) n_Mw3
  have Rws_h1 : Rws h1 := Rws_ag (my_ag.up fh1 is_151 rfl) n_Rws
  refine w_aload_n gz_231_5 rfl ?_
  refine w_iconst gz_231_6 (by decide) ?_
  refine w_iload_n gz_231_7 rfl ?_
  refine w_iconst gz_231_8 (by decide) ?_
  refine w_iload_n gz_231_9 rfl ?_
  refine w_iload_n gz_231_10 rfl ?_
  refine w_iload gz_231_11 rfl ?_
  refine w_inv (k := 1) (as := [(0, x4), (0, x3), (0, x2), (0, 0), (0, x1), (0, 0)]) (r := []) (x := 151) (ls0 := [(2, 151), (0, 0), (0, x1), (0, 0), (0, x2), (0, x3), (0, x4), (9, 0)]) gz_231_13 gm_208 rfl is_151 rd_10 rfl rfl rfl rfl rfl (c_Model_isEdit5 (d := (d + 3)) (x1 := 0) (x2 := x1) (x3 := 0) (x4 := x2) (x5 := x3) (x6 := x4) (by omega) (by omega) Mw_h1 Mw3_h1 Rws_h1 (fun h2 frh2 xp3 => ?_) (fun h4 frh4 w5 w6 w7 w8 xp9 xp10 xp11 xp12 xp13 xp14 xp15 xp16 xp17 xp18 xp19 xp20 => ?_))
  ·
    have gh2 : my_fr [(10, 0), (10, 27), (10, 32), (10, 33), (10, 37), (10, 46), (10, 48), (61, -1), (62, -1), (73, -1), (74, -1), (75, -1), (76, -1), (77, -1), (78, -1), (79, -1), (80, -1), (81, -1), (82, -1), (83, -1), (84, -1), (85, -1), (86, -1), (88, -1), (89, -1), (90, -1), (91, -1), (92, -1), (93, -1), (94, -1)] h h2 := my_fr.tr gh1 (frh2.mo rfl)
    have Mw_h2 : Mw h2 := Mw_ag (my_ag.fr frh2 rfl) Mw_h1
    have Mw3_h2 : Mw3 h2 := Mw3_ag (my_ag.fr frh2 rfl) Mw3_h1
    have Rws_h2 : Rws h2 := Rws_ag (my_ag.fr frh2 rfl) Rws_h1
    show wp l rho (d + 8) 231 16 [(2, 151), (0, x1), (0, x2), (0, x3), (0, x4), (9, 0), (9, 0)] [(0, 0)] h2 Q
    refine w_ifne (t := 21) gz_231_16 rfl (fun u21 => by exfalso; omega) (fun u21 => ?_)
    refine w_iconst gz_231_19 (by decide) ?_
    have r162 : ∀ j : Int, h2 162 j = h 162 j := fun j => ((my_fr.at frh2 is_162 rfl).trans ((my_up_role fh1 is_162 is_151 rfl).trans (rfl : h 162 j = h 162 j)))
    have r163 : ∀ j : Int, h2 163 j = h 163 j := fun j => ((my_fr.at frh2 is_163 rfl).trans ((my_up_role fh1 is_163 is_151 rfl).trans (rfl : h 163 j = h 163 j)))
    have c22 := ((my_fr.at frh2 is_151 rfl).trans (my_up_self fh1))
    exact w_iret gz_231_20 gm_231 (k0 h2 (gh2) (by omega) (by first | exact o62 | exact o48 | exact Ot9_e r162 r163 | assumption | omega) Rws_h2)
  ·
    have gh4 : my_fr [(10, 0), (10, 27), (10, 32), (10, 33), (10, 37), (10, 46), (10, 48), (61, -1), (62, -1), (73, -1), (74, -1), (75, -1), (76, -1), (77, -1), (78, -1), (79, -1), (80, -1), (81, -1), (82, -1), (83, -1), (84, -1), (85, -1), (86, -1), (88, -1), (89, -1), (90, -1), (91, -1), (92, -1), (93, -1), (94, -1)] h h4 := my_fr.tr gh1 (frh4.mo rfl)
    have Mw_h4 : Mw h4 := Mw_ag (my_ag.fr frh4 rfl) Mw_h1
    have Mw3_h4 : Mw3 h4 := Mw3_ag (my_ag.fr frh4 rfl) Mw3_h1
    have Rws_h4 : Rws h4 := Rws_ag (my_ag.fr frh4 rfl) Rws_h1
    show wp l rho (d + 8) 231 16 [(2, 151), (0, x1), (0, x2), (0, x3), (0, x4), (9, 0), (9, 0)] [(0, 1)] h4 Q
    have e5 := xp14
    have e6 := xp15
    refine w_ifne (t := 21) gz_231_16 rfl (fun u23 => ?_) (fun u23 => by exfalso; omega)
    refine v_know (x := 151) (j := 37) (b := 37) rfl is_151 rd_10 rfl (fun k37 ek37 pk37 qk37 => ?_)
    refine v_know (x := 151) (j := 27) (b := 27) rfl is_151 rd_10 rfl (fun k27 ek27 pk27 qk27 => ?_)
    refine w_aload_n gz_231_21 rfl ?_
    refine w_getX (v := 182) gz_231_22 is_151 rd_10 rfl (by decide) rfl ?_
    refine w_bipush gz_231_25 (by decide) ?_
    refine w_iload_n gz_231_27 rfl ?_
    have hi25 : 0 ≤ x2 := by omega
    have hi26 : x2 ≤ 9 := by omega
    refine w_imul gz_231_28 ⟨by omega, by omega⟩ ?_
    refine w_iload_n gz_231_29 rfl ?_
    have hi27 : 0 ≤ x3 := by omega
    have hi28 : x3 ≤ 7 := by omega
    refine w_iadd gz_231_30 ⟨by omega, by omega⟩ ?_
    have hi29 : 0 ≤ ((8 * x2) + x3) := by omega
    have hi30 : ((8 * x2) + x3) ≤ 79 := by omega
    refine w_iald gz_231_31 is_182 rd_81 (by omega) (by omega) (fun v31 ev31 pv31 qv31 => ?_)
    refine w_istore (ls' := [(2, 151), (0, x1), (0, x2), (0, x3), (0, x4), (0, v31), (9, 0)]) gz_231_32 gm_231 rfl rfl rfl ?_
    refine w_aload_n gz_231_34 rfl ?_
    refine w_iconst gz_231_35 (by decide) ?_
    refine w_iconst gz_231_36 (by decide) ?_
    have b162 : ∀ j : Int, h4 162 j = h 162 j := fun j => ((my_fr.at frh4 is_162 rfl).trans ((my_up_role fh1 is_162 is_151 rfl).trans (rfl : h 162 j = h 162 j)))
    have b163 : ∀ j : Int, h4 163 j = h 163 j := fun j => ((my_fr.at frh4 is_163 rfl).trans ((my_up_role fh1 is_163 is_151 rfl).trans (rfl : h 163 j = h 163 j)))
    refine w_inv (k := 1) (as := [(0, 5), (0, 0)]) (r := []) (x := 151) (ls0 := [(2, 151), (0, 0), (0, 5), (9, 0)]) gz_231_37 gm_152 rfl is_151 rd_10 rfl rfl rfl rfl rfl (c_Model_copies5 (d := (d + 7)) (x1 := 0) (x2 := 5) (by omega) (by omega) (by omega) (by omega) Rws_h4 (fun h32 frh32 xp33 xp34 Rws_h32t35 => ?_))
    have gh32 : my_fr [(10, 0), (10, 27), (10, 32), (10, 33), (10, 37), (10, 46), (10, 48), (61, -1), (62, -1), (73, -1), (74, -1), (75, -1), (76, -1), (77, -1), (78, -1), (79, -1), (80, -1), (81, -1), (82, -1), (83, -1), (84, -1), (85, -1), (86, -1), (88, -1), (89, -1), (90, -1), (91, -1), (92, -1), (93, -1), (94, -1)] h h32 := my_fr.tr gh4 (frh32.mo rfl)
    have Mw_h32 : Mw h32 := Mw_ag (my_ag.fr frh32 rfl) Mw_h4
    have Mw3_h32 : Mw3 h32 := Mw3_ag (my_ag.fr frh32 rfl) Mw3_h4
    show wp l rho (d + 8) 231 40 [(2, 151), (0, x1), (0, x2), (0, x3), (0, x4), (0, v31), (9, 0)] [] h32 Q
    have o37 : Ot9 h h32 := (Ot9_e b162 b163).tr (Ot9_Cp xp33 xp34 (Or.inl rfl))
    have ag5 := Cp_ag5 xp33 xp34 b162 b163
    refine w_aload_n gz_231_40 rfl ?_
    refine w_iconst gz_231_41 (by decide) ?_
    refine w_iload_n gz_231_42 rfl ?_
    refine w_iconst gz_231_43 (by decide) ?_
    refine w_iload_n gz_231_44 rfl ?_
    refine w_iload_n gz_231_45 rfl ?_
    refine w_iload gz_231_46 rfl ?_
    have agB : my_ag LmF h h32 := (my_ag.fr (F := LmF) gh32 rfl)
    have maB : zqMA h32 = zqMA h := zqMA_e (fun j => my_fr.at gh32 pis_157 rfl) (fun j => my_fr.at gh32 pis_158 rfl) (fun j => my_fr.at gh32 pis_159 rfl) (fun j => my_fr.at gh32 pis_160 rfl) (fun j => my_fr.at gh32 pis_161 rfl)
    have e188B : ∀ j : Int, h32 188 j = h 188 j := fun j => my_fr.at gh32 pis_188 rfl
    have e164B : ∀ j : Int, h32 164 j = h 164 j := fun j => my_fr.at gh32 pis_164 rfl
    have woB : zqWo (zqMA h) (zqMS h32 5) := zqWo_c ag5 (fun u a b => (T0.2.2.2 u a (by omega)).2) (fun p a b => T0.2.2.1 p a (by omega)) hwo
    refine w_inv (k := 2) (as := [(0, x4), (0, x3), (0, x2), (0, 0), (0, x1), (0, 5)]) (r := []) (x := 151) (ls0 := [(2, 151), (0, 5), (0, x1), (0, 0), (0, x2), (0, x3), (0, x4), (9, 0), (9, 0)]) gz_231_48 gm_223 rfl is_151 rd_10 rfl rfl rfl rfl rfl (c_Model_puts5 (d := d) (x1 := 5) (x2 := x1) (x3 := 0) (x4 := x2) (x5 := x3) (x6 := x4) (by omega) (by omega) Mw_h32 Mw3_h32 Rws_h32t35 (by first | assumption | exact no_such_saying | exact Fp_told (by omega) (by omega) | omega | (subst_vars; omega) | omega) (LmW_ag agB hlm) ((by rw [maB]; exact woB)) (fun h36 frh36 xp37 xp38 Rws_h36t39 => ?_) (fun h40 v41 frh40 w42 w43 w44 w45 w46 w47 xp48 xp49 xp50 Rws_h40t51 => ?_))
    ·
      have gh36 : my_fr [(10, 0), (10, 27), (10, 32), (10, 33), (10, 37), (10, 46), (10, 48), (61, -1), (62, -1), (73, -1), (74, -1), (75, -1), (76, -1), (77, -1), (78, -1), (79, -1), (80, -1), (81, -1), (82, -1), (83, -1), (84, -1), (85, -1), (86, -1), (88, -1), (89, -1), (90, -1), (91, -1), (92, -1), (93, -1), (94, -1)] h h36 := my_fr.tr gh32 (frh36.mo rfl)
      have Mw_h36 : Mw h36 := Mw_ag (my_ag.fr frh36 rfl) Mw_h32
      have Mw3_h36 : Mw3 h36 := Mw3_ag (my_ag.fr frh36 rfl) Mw3_h32
      show wp l rho (d + 8) 231 51 [(2, 151), (0, x1), (0, x2), (0, x3), (0, x4), (0, v31), (9, 0)] [(0, (-1))] h36 Q
      have o48 : Ot9 h h36 := o37.tr (Ot9_S xp38 (Or.inl rfl))
      have wo48 : zqWo (zqMA h) (zqMS h36 5) := Mneg_wo hlm T0 kB0 (fun j a b => kD0 j a (by omega)) (fun j a b => (kF0 j a (by omega)).2) (fun j a b => by have q := kP0 j a (by omega); omega) agB maB e188B e164B woB xp37
      refine w_iflt (t := 72) gz_231_51 rfl (fun u52 => ?_) (fun u52 => by exfalso; omega)
      refine w_iconst gz_231_72 (by decide) ?_
      refine w_istore (ls' := [(2, 151), (0, x1), (0, x2), (0, x3), (0, x4), (0, v31), (0, 0)]) gz_231_73 gm_231 rfl rfl rfl ?_
      refine w_iload gz_231_75 rfl ?_
      refine w_ifeq (t := 93) gz_231_77 rfl (fun u53 => ?_) (fun u53 => by exfalso; omega)
      refine w_iconst gz_231_93 (by decide) ?_
      have r162 : ∀ j : Int, h36 162 j = h36 162 j := fun j => rfl
      have r163 : ∀ j : Int, h36 163 j = h36 163 j := fun j => rfl
      have c54 := ((my_fr.at frh36 is_151 rfl).trans ((my_fr.at frh32 is_151 rfl).trans ((my_fr.at frh4 is_151 rfl).trans (my_up_self fh1))))
      exact w_iret gz_231_94 gm_231 (k1 h36 (gh36) (by omega) (by omega) (by omega) (by omega) (by omega) (by omega) (by omega) (by first | exact o62 | exact o48 | exact Ot9_e r162 r163 | assumption | omega) Rws_h36t39)
    ·
      have gh40 : my_fr [(10, 0), (10, 27), (10, 32), (10, 33), (10, 37), (10, 46), (10, 48), (61, -1), (62, -1), (73, -1), (74, -1), (75, -1), (76, -1), (77, -1), (78, -1), (79, -1), (80, -1), (81, -1), (82, -1), (83, -1), (84, -1), (85, -1), (86, -1), (88, -1), (89, -1), (90, -1), (91, -1), (92, -1), (93, -1), (94, -1)] h h40 := my_fr.tr gh32 (frh40.mo rfl)
      have Mw_h40 : Mw h40 := Mw_ag (my_ag.fr frh40 rfl) Mw_h32
      have Mw3_h40 : Mw3 h40 := Mw3_ag (my_ag.fr frh40 rfl) Mw3_h32
      show wp l rho (d + 8) 231 51 [(2, 151), (0, x1), (0, x2), (0, x3), (0, x4), (0, v31), (9, 0)] [(0, v41)] h40 Q
      have o48 : Ot9 h h40 := o37.tr (Ot9_S xp50 (Or.inl rfl))
      have wo48 : zqWo (zqMA h) (zqMS h40 5) := mPut_wo hlm T0 kB0 (fun j a b => kD0 j a (by omega)) (fun j a b => (kF0 j a (by omega)).2) (fun j a b => by have q := kP0 j a (by omega); omega) agB maB e188B e164B woB xp48 xp49
      refine w_iflt (t := 72) gz_231_51 rfl (fun u55 => by exfalso; omega) (fun u55 => ?_)
      refine w_aload_n gz_231_54 rfl ?_
      refine w_iconst gz_231_55 (by decide) ?_
      refine w_iload_n gz_231_56 rfl ?_
      refine w_iconst gz_231_57 (by decide) ?_
      refine w_iload_n gz_231_58 rfl ?_
      refine w_iload_n gz_231_59 rfl ?_
      refine w_iload gz_231_60 rfl ?_
      have agB : my_ag LmF h h40 := (my_ag.fr (F := LmF) gh40 rfl)
      have maB : zqMA h40 = zqMA h := zqMA_e (fun j => my_fr.at gh40 pis_157 rfl) (fun j => my_fr.at gh40 pis_158 rfl) (fun j => my_fr.at gh40 pis_159 rfl) (fun j => my_fr.at gh40 pis_160 rfl) (fun j => my_fr.at gh40 pis_161 rfl)
      have e188B : ∀ j : Int, h40 188 j = h 188 j := fun j => my_fr.at gh40 pis_188 rfl
      have e164B : ∀ j : Int, h40 164 j = h 164 j := fun j => my_fr.at gh40 pis_164 rfl
      have woB : zqWo (zqMA h) (zqMS h40 5) := wo48
      refine w_inv (k := 2) (as := [(0, v31), (0, x3), (0, x2), (0, 0), (0, x1), (0, 5)]) (r := []) (x := 151) (ls0 := [(2, 151), (0, 5), (0, x1), (0, 0), (0, x2), (0, x3), (0, v31), (9, 0), (9, 0)]) gz_231_62 gm_223 rfl is_151 rd_10 rfl rfl rfl rfl rfl (c_Model_puts5 (d := d) (x1 := 5) (x2 := x1) (x3 := 0) (x4 := x2) (x5 := x3) (x6 := v31) (by omega) (by omega) Mw_h40 Mw3_h40 Rws_h40t51 (by first | assumption | exact no_such_saying | exact Fp_told (by omega) (by omega) | omega | (subst_vars; omega) | omega) (LmW_ag agB hlm) ((by rw [maB]; exact woB)) (fun h56 frh56 xp57 xp58 Rws_h56t59 => ?_) (fun h60 v61 frh60 w62 w63 w64 w65 w66 w67 xp68 xp69 xp70 Rws_h60t71 => ?_))
      ·
        have gh56 : my_fr [(10, 0), (10, 27), (10, 32), (10, 33), (10, 37), (10, 46), (10, 48), (61, -1), (62, -1), (73, -1), (74, -1), (75, -1), (76, -1), (77, -1), (78, -1), (79, -1), (80, -1), (81, -1), (82, -1), (83, -1), (84, -1), (85, -1), (86, -1), (88, -1), (89, -1), (90, -1), (91, -1), (92, -1), (93, -1), (94, -1)] h h56 := my_fr.tr gh40 (frh56.mo rfl)
        have Mw_h56 : Mw h56 := Mw_ag (my_ag.fr frh56 rfl) Mw_h40
        have Mw3_h56 : Mw3 h56 := Mw3_ag (my_ag.fr frh56 rfl) Mw3_h40
        show wp l rho (d + 8) 231 65 [(2, 151), (0, x1), (0, x2), (0, x3), (0, x4), (0, v31), (9, 0)] [(0, (-1))] h56 Q
        have o62 : Ot9 h h56 := o48.tr (Ot9_S xp58 (Or.inl rfl))
        have wo62 : zqWo (zqMA h) (zqMS h56 5) := Mneg_wo hlm T0 kB0 (fun j a b => kD0 j a (by omega)) (fun j a b => (kF0 j a (by omega)).2) (fun j a b => by have q := kP0 j a (by omega); omega) agB maB e188B e164B woB xp57
        refine w_iflt (t := 72) gz_231_65 rfl (fun u72 => ?_) (fun u72 => by exfalso; omega)
        refine w_iconst gz_231_72 (by decide) ?_
        refine w_istore (ls' := [(2, 151), (0, x1), (0, x2), (0, x3), (0, x4), (0, v31), (0, 0)]) gz_231_73 gm_231 rfl rfl rfl ?_
        refine w_iload gz_231_75 rfl ?_
        refine w_ifeq (t := 93) gz_231_77 rfl (fun u73 => ?_) (fun u73 => by exfalso; omega)
        refine w_iconst gz_231_93 (by decide) ?_
        have r162 : ∀ j : Int, h56 162 j = h56 162 j := fun j => rfl
        have r163 : ∀ j : Int, h56 163 j = h56 163 j := fun j => rfl
        have c74 := ((my_fr.at frh56 is_151 rfl).trans ((my_fr.at frh40 is_151 rfl).trans ((my_fr.at frh32 is_151 rfl).trans ((my_fr.at frh4 is_151 rfl).trans (my_up_self fh1)))))
        exact w_iret gz_231_94 gm_231 (k1 h56 (gh56) (by omega) (by omega) (by omega) (by omega) (by omega) (by omega) (by omega) (by first | exact o62 | exact o48 | exact Ot9_e r162 r163 | assumption | omega) Rws_h56t59)
      ·
        have gh60 : my_fr [(10, 0), (10, 27), (10, 32), (10, 33), (10, 37), (10, 46), (10, 48), (61, -1), (62, -1), (73, -1), (74, -1), (75, -1), (76, -1), (77, -1), (78, -1), (79, -1), (80, -1), (81, -1), (82, -1), (83, -1), (84, -1), (85, -1), (86, -1), (88, -1), (89, -1), (90, -1), (91, -1), (92, -1), (93, -1), (94, -1)] h h60 := my_fr.tr gh40 (frh60.mo rfl)
        have Mw_h60 : Mw h60 := Mw_ag (my_ag.fr frh60 rfl) Mw_h40
        have Mw3_h60 : Mw3 h60 := Mw3_ag (my_ag.fr frh60 rfl) Mw3_h40
        show wp l rho (d + 8) 231 65 [(2, 151), (0, x1), (0, x2), (0, x3), (0, x4), (0, v31), (9, 0)] [(0, v61)] h60 Q
        have o62 : Ot9 h h60 := o48.tr (Ot9_S xp70 (Or.inl rfl))
        have wo62 : zqWo (zqMA h) (zqMS h60 5) := mPut_wo hlm T0 kB0 (fun j a b => kD0 j a (by omega)) (fun j a b => (kF0 j a (by omega)).2) (fun j a b => by have q := kP0 j a (by omega); omega) agB maB e188B e164B woB xp68 xp69
        refine w_iflt (t := 72) gz_231_65 rfl (fun u75 => by exfalso; omega) (fun u75 => ?_)
        refine w_iconst gz_231_68 (by decide) ?_
        refine w_goto (t := 73) gz_231_69 rfl ?_
        refine w_istore (ls' := [(2, 151), (0, x1), (0, x2), (0, x3), (0, x4), (0, v31), (0, 1)]) gz_231_73 gm_231 rfl rfl rfl ?_
        refine w_iload gz_231_75 rfl ?_
        refine w_ifeq (t := 93) gz_231_77 rfl (fun u76 => by exfalso; omega) (fun u76 => ?_)
        refine w_aload_n gz_231_80 rfl ?_
        refine w_iconst gz_231_81 (by decide) ?_
        refine w_iconst gz_231_82 (by decide) ?_
        refine w_inv (k := 3) (as := [(0, 0), (0, 5)]) (r := []) (x := 151) (ls0 := [(2, 151), (0, 5), (0, 0), (9, 0), (9, 0), (9, 0)]) gz_231_83 gm_230 rfl is_151 rd_10 rfl rfl rfl rfl rfl (c_Model_areAlike5 (d := (d + 7)) (x1 := 5) (x2 := 0) (by omega) (by omega) (by omega) (by omega) (fun v77 w78 w79 xp80 => ?_))
        show wp l rho (d + 8) 231 86 [(2, 151), (0, x1), (0, x2), (0, x3), (0, x4), (0, v31), (0, 1)] [(0, v77)] h60 Q
        refine w_ifeq (t := 93) gz_231_86 rfl (fun u81 => ?_) (fun u81 => ?_)
        ·
          refine w_iconst gz_231_93 (by decide) ?_
          have r162 : ∀ j : Int, h60 162 j = h60 162 j := fun j => rfl
          have r163 : ∀ j : Int, h60 163 j = h60 163 j := fun j => rfl
          have c82 := ((my_fr.at frh60 is_151 rfl).trans ((my_fr.at frh40 is_151 rfl).trans ((my_fr.at frh32 is_151 rfl).trans ((my_fr.at frh4 is_151 rfl).trans (my_up_self fh1)))))
          exact w_iret gz_231_94 gm_231 (k1 h60 (gh60) (by omega) (by omega) (by omega) (by omega) (by omega) (by omega) (by omega) (by first | exact o62 | exact o48 | exact Ot9_e r162 r163 | assumption | omega) Rws_h60t71)
        ·
          refine w_iconst gz_231_89 (by decide) ?_
          refine w_goto (t := 94) gz_231_90 rfl ?_
          have r162 : ∀ j : Int, h60 162 j = h60 162 j := fun j => rfl
          have r163 : ∀ j : Int, h60 163 j = h60 163 j := fun j => rfl
          have c83 := ((my_fr.at frh60 is_151 rfl).trans ((my_fr.at frh40 is_151 rfl).trans ((my_fr.at frh32 is_151 rfl).trans ((my_fr.at frh4 is_151 rfl).trans (my_up_self fh1)))))
          exact w_iret gz_231_94 gm_231 (k2 h60 (gh60) (by omega) (by omega) (by omega) (by omega) (by omega) (by omega) (by omega) (by first | exact o62 | exact o48 | exact Ot9_e r162 r163 | assumption | omega) Rws_h60t71)
end MYNModel_draft5
