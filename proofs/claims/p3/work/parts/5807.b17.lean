/-! contracts, printed by wip/gen/gy.py -/
section MYNModel_readOver_f0
theorem c_Model_readOver_f0 {l : Launch} {rho : Nat → Int32} {d : Nat} {h : my_H} {Q : my_H → my_V → Prop} {x1 : Int} (a1 : 0 ≤ x1) (b1 : x1 ≤ 5) (cf : h 151 8 = 0) (n_Tok : Tok h) (n_Mw : Mw h) (n_Mw3 : Mw3 h) (h6 : h 167 6 = 0) (k0 : ∀ (h' : my_H), my_fr [(10, 7), (10, 8), (10, 27), (10, 32), (10, 33), (64, -1), (65, -1), (73, -1), (74, -1), (75, -1), (76, -1), (77, -1), (78, -1), (79, -1)] h h' → 1 ≤ h' 151 8 → h' 151 8 ≤ 16004 → Tok h' → Mw h' → Mw3 h' → Q h' (9, 0)) (k1 : ∀ (h' : my_H), my_fr [(10, 7), (10, 8), (10, 27), (10, 32), (10, 33), (64, -1), (65, -1), (73, -1), (74, -1), (75, -1), (76, -1), (77, -1), (78, -1), (79, -1)] h h' → 1 ≤ h' 151 7 → h' 151 7 ≤ 1001 → h' 151 8 = 0 → Mq h' x1 → S56 h h' → Tok h' → Mw h' → Mw3 h' → Q h' (9, 0)) : wp l rho (d + 3) 174 0 [(2, 151), (0, x1), (9, 0)] [] h Q := by
  refine v_know (x := 151) (j := 7) (b := 7) rfl is_151 rd_10 rfl (fun k151_7 ek151_7 pk151_7 qk151_7 => ?_)
  refine v_all is_167 rd_66 (fun a167 => ?_)
  refine w_aload_n gz_174_0 rfl ?_
  refine w_iconst gz_174_1 (by decide) ?_
  have ce1 : h 151 7 = k151_7 := ek151_7.symm
  refine w_inv (k := 0) (as := [(0, 0)]) (r := []) (x := 151) (ls0 := [(2, 151), (0, 0)]) gz_174_2 gm_175 rfl is_151 rd_10 rfl rfl rfl rfl rfl (c_Model_takeWord_f0 (d := d) (x1 := 0) (by omega) (by omega) (cf.trans (by omega)) n_Tok (fun h2 frh2 w3 w4 xp5 Tok_h2t6 => ?_) (fun h7 frh7 w8 w9 w10 xp11 Tok_h7t12 => ?_))
  ·
    have gh2 : my_fr [(10, 7), (10, 8), (10, 27), (10, 32), (10, 33), (64, -1), (65, -1), (73, -1), (74, -1), (75, -1), (76, -1), (77, -1), (78, -1), (79, -1)] h h2 := my_fr.tr my_fr.rf (frh2.mo rfl)
    have Mw_h2 : Mw h2 := Mw_ag (my_ag.fr frh2 rfl) n_Mw
    have Mw3_h2 : Mw3 h2 := Mw3_ag (my_ag.fr frh2 rfl) n_Mw3
    show wp l rho (d + 3) 174 5 [(2, 151), (0, x1), (9, 0)] [] h2 Q
    refine w_aload_n gz_174_5 rfl ?_
    refine w_iconst gz_174_6 (by decide) ?_
    refine w_inv (k := 0) (as := [(0, 1)]) (r := []) (x := 151) (ls0 := [(2, 151), (0, 1)]) gz_174_7 gm_177 rfl is_151 rd_10 rfl rfl rfl rfl rfl (c_Model_isWord_f1 (d := (d + 2)) (x1 := 1) (by omega) (by omega) ((h2 151 8)) ((rfl : h2 151 8 = h2 151 8)) (by omega) (by omega) (fun w13 w14 => ?_))
    show wp l rho (d + 3) 174 10 [(2, 151), (0, x1), (9, 0)] [(0, 0)] h2 Q
    refine w_istore_n (ls' := [(2, 151), (0, x1), (0, 0)]) gz_174_10 gm_174 rfl rfl rfl ?_
    refine w_aload_n gz_174_11 rfl ?_
    refine v_getI (j := 8) gz_174_12 rfl is_151 rd_10 rfl (fun v15 ev15 pv15 qv15 => ?_)
    have zv15 := ev15.trans (rfl : h2 151 8 = h2 151 8)
    refine w_ifne (t := 35) gz_174_15 rfl (fun u16 => ?_) (fun u16 => by exfalso; omega)
    refine w_aload_n gz_174_35 rfl ?_
    refine v_getI (j := 8) gz_174_36 rfl is_151 rd_10 rfl (fun v17 ev17 pv17 qv17 => ?_)
    have zv17 := ev17.trans ev15.symm
    refine w_ifle (t := 43) gz_174_39 rfl (fun u18 => by exfalso; omega) (fun u18 => ?_)
    have r165 : ∀ j : Int, h2 165 j = h 165 j := fun j => ((my_fr.at frh2 is_165 rfl).trans (rfl : h 165 j = h 165 j))
    have r166 : ∀ j : Int, h2 166 j = h 166 j := fun j => ((my_fr.at frh2 is_166 rfl).trans (rfl : h 166 j = h 166 j))
    have c19 := ev17.symm
    exact w_vret gz_174_42 gm_174 (k0 h2 (gh2) (by omega) (by omega) Tok_h2t6 Mw_h2 Mw3_h2)
  ·
    have gh7 : my_fr [(10, 7), (10, 8), (10, 27), (10, 32), (10, 33), (64, -1), (65, -1), (73, -1), (74, -1), (75, -1), (76, -1), (77, -1), (78, -1), (79, -1)] h h7 := my_fr.tr my_fr.rf (frh7.mo rfl)
    have Mw_h7 : Mw h7 := Mw_ag (my_ag.fr frh7 rfl) n_Mw
    have Mw3_h7 : Mw3 h7 := Mw3_ag (my_ag.fr frh7 rfl) n_Mw3
    show wp l rho (d + 3) 174 5 [(2, 151), (0, x1), (9, 0)] [] h7 Q
    refine w_aload_n gz_174_5 rfl ?_
    refine w_iconst gz_174_6 (by decide) ?_
    refine w_inv (k := 0) (as := [(0, 1)]) (r := []) (x := 151) (ls0 := [(2, 151), (0, 1)]) gz_174_7 gm_177 rfl is_151 rd_10 rfl rfl rfl rfl rfl (c_Model_isWord_f0 (d := (d + 2)) (x1 := 1) (by omega) (by omega) (w10.trans (by omega)) (fun w20 => ?_) (fun w21 xp22 xp23 xp24 => ?_))
    ·
      show wp l rho (d + 3) 174 10 [(2, 151), (0, x1), (9, 0)] [(0, 0)] h7 Q
      refine w_istore_n (ls' := [(2, 151), (0, x1), (0, 0)]) gz_174_10 gm_174 rfl rfl rfl ?_
      refine w_aload_n gz_174_11 rfl ?_
      refine v_getI (j := 8) gz_174_12 rfl is_151 rd_10 rfl (fun v25 ev25 pv25 qv25 => ?_)
      have zv25 := ev25.trans w10
      refine w_ifne (t := 35) gz_174_15 rfl (fun u26 => by exfalso; omega) (fun u26 => ?_)
      refine w_iload_n gz_174_18 rfl ?_
      refine w_ifne (t := 35) gz_174_19 rfl (fun u27 => by exfalso; omega) (fun u27 => ?_)
      refine w_aload_n gz_174_22 rfl ?_
      refine w_iconst gz_174_23 (by decide) ?_
      refine w_inv (k := 0) (as := [(0, 2)]) (r := []) (x := 151) (ls0 := [(2, 151), (0, 2)]) gz_174_24 gm_177 rfl is_151 rd_10 rfl rfl rfl rfl rfl (c_Model_isWord_f0 (d := (d + 2)) (x1 := 2) (by omega) (by omega) (ev25.symm.trans (by omega)) (fun w28 => ?_) (fun w29 xp30 xp31 xp32 => ?_))
      ·
        show wp l rho (d + 3) 174 27 [(2, 151), (0, x1), (0, 0)] [(0, 0)] h7 Q
        refine w_ifne (t := 35) gz_174_27 rfl (fun u33 => by exfalso; omega) (fun u33 => ?_)
        refine w_aload_n gz_174_30 rfl ?_
        refine w_iconst gz_174_31 (by decide) ?_
        refine w_inv (k := 0) (as := [(0, 1)]) (r := []) (x := 151) (ls0 := [(2, 151), (0, 1)]) gz_174_32 gm_178 rfl is_151 rd_10 rfl rfl rfl rfl rfl ?_
        refine w_aload_n gz_178_0 rfl ?_
        refine v_getI (j := 8) gz_178_1 rfl is_151 rd_10 rfl (fun v34 ev34 pv34 qv34 => ?_)
        have zv34 := ev34.trans ev25.symm
        refine w_ifne (t := 25) gz_178_4 rfl (fun u35 => by exfalso; omega) (fun u35 => ?_)
        refine w_aload_n gz_178_7 rfl ?_
        refine w_iload_n gz_178_8 rfl ?_
        refine w_bipush gz_178_9 (by decide) ?_
        refine w_aload_n gz_178_11 rfl ?_
        refine w_getX (v := 154) gz_178_12 is_151 rd_10 rfl (by decide) rfl ?_
        refine w_aload_n gz_178_15 rfl ?_
        refine v_getI (j := 7) gz_178_16 rfl is_151 rd_10 rfl (fun v37 ev37 pv37 qv37 => ?_)
        have zv37 := ev37.trans (rfl : h7 151 7 = h7 151 7)
        refine w_iald gz_178_19 is_154 rd_53 (by omega) (by omega) (fun v38 ev38 pv38 qv38 => ?_)
        refine w_imul gz_178_20 ⟨by omega, by omega⟩ ?_
        refine w_iadd gz_178_21 ⟨by omega, by omega⟩ ?_
        refine v_putI (j := 8) gz_178_22 rfl is_151 rd_10 rfl (by omega) (by omega) rfl (fun h39 fh39 => ?_)
        have gh39 : my_fr [(10, 7), (10, 8), (10, 27), (10, 32), (10, 33), (64, -1), (65, -1), (73, -1), (74, -1), (75, -1), (76, -1), (77, -1), (78, -1), (79, -1)] h h39 := my_fr.up gh7 is_151 fh39 rfl
        have Mw_h39 : Mw h39 := Mw_ag (my_ag.up fh39 is_151 rfl) Mw_h7
        have Mw3_h39 : Mw3 h39 := Mw3_ag (my_ag.up fh39 is_151 rfl) Mw3_h7
        have Tok_h39 : Tok h39 := Tok_ag (my_ag.up fh39 is_151 rfl) Tok_h7t12
        refine w_vret gz_178_25 gm_178 ?_
        show wp l rho (d + 3) 174 35 [(2, 151), (0, x1), (0, 0)] [] h39 Q
        refine w_aload_n gz_174_35 rfl ?_
        refine v_getI (j := 8) gz_174_36 rfl is_151 rd_10 rfl (fun v40 ev40 pv40 qv40 => ?_)
        have zv40 := ev40.trans (my_up_self fh39)
        refine w_ifle (t := 43) gz_174_39 rfl (fun u41 => by exfalso; omega) (fun u41 => ?_)
        have r165 : ∀ j : Int, h39 165 j = h 165 j := fun j => ((my_up_role fh39 is_165 is_151 rfl).trans ((my_fr.at frh7 is_165 rfl).trans (rfl : h 165 j = h 165 j)))
        have r166 : ∀ j : Int, h39 166 j = h 166 j := fun j => ((my_up_role fh39 is_166 is_151 rfl).trans ((my_fr.at frh7 is_166 rfl).trans (rfl : h 166 j = h 166 j)))
        have c42 := ev40.symm
        exact w_vret gz_174_42 gm_174 (k0 h39 (gh39) (by omega) (by omega) Tok_h39 Mw_h39 Mw3_h39)
      ·
        show wp l rho (d + 3) 174 27 [(2, 151), (0, x1), (0, 0)] [(0, 1)] h7 Q
        refine w_ifne (t := 35) gz_174_27 rfl (fun u43 => ?_) (fun u43 => by exfalso; omega)
        refine w_aload_n gz_174_35 rfl ?_
        refine v_getI (j := 8) gz_174_36 rfl is_151 rd_10 rfl (fun v44 ev44 pv44 qv44 => ?_)
        have zv44 := ev44.trans ev25.symm
        refine w_ifle (t := 43) gz_174_39 rfl (fun u45 => ?_) (fun u45 => by exfalso; omega)
        refine w_aload_n gz_174_43 rfl ?_
        refine w_dup gz_174_44 rfl ?_
        refine v_getI (j := 7) gz_174_45 rfl is_151 rd_10 rfl (fun v46 ev46 pv46 qv46 => ?_)
        have zv46 := ev46.trans (rfl : h7 151 7 = h7 151 7)
        refine w_iconst gz_174_48 (by decide) ?_
        refine w_iadd gz_174_49 ⟨by omega, by omega⟩ ?_
        have hi47 : 0 ≤ (v46 + 1) := by have q := Tok_at Tok_h7t12; omega
        have hi48 : (v46 + 1) ≤ 1001 := by have q := Tok_at Tok_h7t12; omega
        refine v_putI (j := 7) gz_174_50 rfl is_151 rd_10 rfl (by omega) (by omega) rfl (fun h49 fh49 => ?_)
        have gh49 : my_fr [(10, 7), (10, 8), (10, 27), (10, 32), (10, 33), (64, -1), (65, -1), (73, -1), (74, -1), (75, -1), (76, -1), (77, -1), (78, -1), (79, -1)] h h49 := my_fr.up gh7 is_151 fh49 rfl
        have Mw_h49 : Mw h49 := Mw_ag (my_ag.up fh49 is_151 rfl) Mw_h7
        have Mw3_h49 : Mw3 h49 := Mw3_ag (my_ag.up fh49 is_151 rfl) Mw3_h7
        have Tok_h49t50 : Tok h49 := Tok_inc Tok_h7t12 (by omega) (by omega) fh49
        have k7 := my_up_self fh49
        refine w_aload_n gz_174_53 rfl ?_
        refine w_getX (v := 153) gz_174_54 is_151 rd_10 rfl (by decide) rfl ?_
        refine w_aload_n gz_174_57 rfl ?_
        refine v_getI (j := 7) gz_174_58 rfl is_151 rd_10 rfl (fun v52 ev52 pv52 qv52 => ?_)
        have zv52 := ev52.trans (my_up_self fh49)
        refine w_iald gz_174_61 is_153 rd_52 (by omega) (by omega) (fun v53 ev53 pv53 qv53 => ?_)
        refine w_iconst gz_174_62 (by decide) ?_
        refine w_iceq (t := 74) gz_174_63 rfl (fun u54 => ?_) (fun u54 => ?_)
        ·
          refine w_aload_n gz_174_74 rfl ?_
          refine w_getX (v := 155) gz_174_75 is_151 rd_10 rfl (by decide) rfl ?_
          refine w_aload_n gz_174_78 rfl ?_
          refine v_getI (j := 7) gz_174_79 rfl is_151 rd_10 rfl (fun v56 ev56 pv56 qv56 => ?_)
          have zv56 := ev56.trans ev52.symm
          refine w_lald gz_174_82 is_155 rd_54 (by omega) (by omega) (fun v57 ev57 pv57 => ?_)
          refine w_iload_n gz_174_83 rfl ?_
          refine w_ifeq (t := 91) gz_174_84 rfl (fun u58 => ?_) (fun u58 => by exfalso; omega)
          refine w_iload_n gz_174_91 rfl ?_
          refine w_iconst gz_174_92 (by decide) ?_
          refine w_isub gz_174_93 ⟨by omega, by omega⟩ ?_
          refine w_i2l gz_174_94 ?_
          refine w_lcmpE gz_174_95 (fun v59 pv59 qv59 xv59 => ?_)
          refine w_ifle (t := 107) gz_174_96 rfl (fun u60 => ?_) (fun u60 => ?_)
          ·
            refine w_iload_n gz_174_107 rfl ?_
            refine w_ifeq (t := 132) gz_174_108 rfl (fun u61 => ?_) (fun u61 => by exfalso; omega)
            refine w_aload_n gz_174_132 rfl ?_
            refine w_getX (v := 164) gz_174_133 is_151 rd_10 rfl (by decide) rfl ?_
            refine w_aload_n gz_174_136 rfl ?_
            refine w_getX (v := 155) gz_174_137 is_151 rd_10 rfl (by decide) rfl ?_
            refine w_aload_n gz_174_140 rfl ?_
            refine v_getI (j := 7) gz_174_141 rfl is_151 rd_10 rfl (fun v64 ev64 pv64 qv64 => ?_)
            have zv64 := ev64.trans ev56.symm
            refine w_lald gz_174_144 is_155 rd_54 (by omega) (by omega) (fun v65 ev65 pv65 => ?_)
            have tb : 0 ≤ v65 ∧ v65 ≤ 999 := by
              have q := Tok_at Tok_h49t50
              subst_vars
              omega
            refine w_l2iE gz_174_145 (fun v66 pv66 qv66 xv66 => ?_)
            have f155 : ∀ j : Int, h49 155 j = h 155 j := fun j => ((my_up_role fh49 is_155 is_151 rfl).trans ((my_fr.at frh7 is_155 rfl).trans (rfl : h 155 j = h 155 j)))
            have f153 : ∀ j : Int, h49 153 j = h 153 j := fun j => ((my_up_role fh49 is_153 is_151 rfl).trans ((my_fr.at frh7 is_153 rfl).trans (rfl : h 153 j = h 153 j)))
            obtain ⟨va, ea⟩ : ∃ va : Int, va = h49 151 7 := ⟨_, rfl⟩
            have z155 : v66 = h 155 va := by rw [ea, ← f155]; subst_vars; omega
            have s153 : h 153 va = 2 := by rw [ea, ← f153]; subst_vars; omega
            have zw : v66 < x1 := by subst_vars; omega
            have hi67 : 0 ≤ v66 := by subst_vars; omega
            have hi68 : v66 ≤ 5 := by subst_vars; omega
            refine w_bald gz_174_146 is_164 rd_63 (by omega) (by omega) (fun v69 ev69 pv69 qv69 => ?_)
            have f164 : ∀ j : Int, h49 164 j = h 164 j := fun j => ((my_up_role fh49 is_164 is_151 rfl).trans ((my_fr.at frh7 is_164 rfl).trans (rfl : h 164 j = h 164 j)))
            have cw : v69 = h 164 (h 155 va) := by rw [← z155, ← f164]; omega
            refine w_ifne (t := 155) gz_174_147 rfl (fun u70 => ?_) (fun u70 => ?_)
            ·
              refine w_aload_n gz_174_155 rfl ?_
              refine v_getI (j := 8) gz_174_156 rfl is_151 rd_10 rfl (fun v71 ev71 pv71 qv71 => ?_)
              have zv71 := ev71.trans ((my_up_fld fh49 (by decide)).trans ev44.symm)
              refine w_ifle (t := 163) gz_174_159 rfl (fun u72 => ?_) (fun u72 => by exfalso; omega)
              refine w_aload_n gz_174_163 rfl ?_
              refine w_getX (v := 165) gz_174_164 is_151 rd_10 rfl (by decide) rfl ?_
              refine w_bipush gz_174_167 (by decide) ?_
              refine w_iload_n gz_174_169 rfl ?_
              have n165 : ∀ j : Int, h49 165 j = h 165 j := fun j => ((my_up_role fh49 is_165 is_151 rfl).trans ((my_fr.at frh7 is_165 rfl).trans (rfl : h 165 j = h 165 j)))
              refine w_bast gz_174_170 is_165 rd_64 (by omega) (by omega) (by omega) (by omega) (fun h74 fh74 => ?_)
              have gh74 : my_fr [(10, 7), (10, 8), (10, 27), (10, 32), (10, 33), (64, -1), (65, -1), (73, -1), (74, -1), (75, -1), (76, -1), (77, -1), (78, -1), (79, -1)] h h74 := my_fr.up gh49 is_165 fh74 rfl
              have Tok_h74 : Tok h74 := Tok_ag (my_ag.up fh74 is_165 rfl) Tok_h49t50
              have Mw_h74t75 : Mw h74 := (Mw3_6 (by decide) fh74 Mw3_h49).mw
              have Mw3_h74t76 : Mw3 h74 := Mw3_6 (by decide) fh74 Mw3_h49
              have k165 := my_up_self fh74
              have u5 : ∀ k : Int, k ≤ 5 → h74 165 k = h 165 k := fun k a => by rw [my_up_ne fh74 (by omega)]; exact n165 k
              refine w_aload_n gz_174_171 rfl ?_
              refine w_getX (v := 166) gz_174_172 is_151 rd_10 rfl (by decide) rfl ?_
              refine w_bipush gz_174_175 (by decide) ?_
              refine w_aload_n gz_174_177 rfl ?_
              refine w_getX (v := 155) gz_174_178 is_151 rd_10 rfl (by decide) rfl ?_
              refine w_aload_n gz_174_181 rfl ?_
              refine v_getI (j := 7) gz_174_182 rfl is_151 rd_10 rfl (fun v79 ev79 pv79 qv79 => ?_)
              have zv79 := ev79.trans ((my_up_role fh74 is_151 is_165 rfl).trans ev64.symm)
              have ce80 : h74 151 7 = v79 := ev79.symm
              have i7 : v79 = va := by omega
              refine w_lald gz_174_185 is_155 rd_54 (by omega) (by omega) (fun v81 ev81 pv81 => ?_)
              have e155 : ∀ j : Int, h74 155 j = h 155 j := fun j => ((my_up_role fh74 is_155 is_165 rfl).trans ((my_up_role fh49 is_155 is_151 rfl).trans ((my_fr.at frh7 is_155 rfl).trans (rfl : h 155 j = h 155 j))))
              have zq : v81 = h 155 va := by rw [← i7, ← e155]; omega
              refine w_l2iE gz_174_186 (fun v82 pv82 qv82 xv82 => ?_)
              have n166 : ∀ j : Int, h74 166 j = h 166 j := fun j => ((my_up_role fh74 is_166 is_165 rfl).trans ((my_up_role fh49 is_166 is_151 rfl).trans ((my_fr.at frh7 is_166 rfl).trans (rfl : h 166 j = h 166 j))))
              have hi83 : 0 ≤ v82 := by omega
              have hi84 : v82 ≤ 5 := by omega
              refine w_iast gz_174_187 is_166 rd_65 (by omega) (by omega) (by omega) (by omega) (fun h85 fh85 => ?_)
              have gh85 : my_fr [(10, 7), (10, 8), (10, 27), (10, 32), (10, 33), (64, -1), (65, -1), (73, -1), (74, -1), (75, -1), (76, -1), (77, -1), (78, -1), (79, -1)] h h85 := my_fr.up gh74 is_166 fh85 rfl
              have Tok_h85 : Tok h85 := Tok_ag (my_ag.up fh85 is_166 rfl) Tok_h74
              have Mw_h85t86 : Mw h85 := (Mw3_6 (by decide) fh85 Mw3_h74t76).mw
              have Mw3_h85t87 : Mw3 h85 := Mw3_6 (by decide) fh85 Mw3_h74t76
              have k166 := my_up_self fh85
              have u6 : ∀ k : Int, k ≤ 5 → h85 166 k = h 166 k := fun k a => by rw [my_up_ne fh85 (by omega)]; exact n166 k
              refine w_aload_n gz_174_188 rfl ?_
              refine w_dup gz_174_189 rfl ?_
              refine v_getI (j := 7) gz_174_190 rfl is_151 rd_10 rfl (fun v88 ev88 pv88 qv88 => ?_)
              have zv88 := ev88.trans ((my_up_role fh85 is_151 is_166 rfl).trans ev79.symm)
              refine w_iconst gz_174_193 (by decide) ?_
              refine w_iadd gz_174_194 ⟨by omega, by omega⟩ ?_
              have ce89 : h85 151 7 = v88 := ev88.symm
              have g153 : ∀ j : Int, h85 153 j = h 153 j := fun j => ((my_up_role fh85 is_153 is_166 rfl).trans ((my_up_role fh74 is_153 is_165 rfl).trans ((my_up_role fh49 is_153 is_151 rfl).trans ((my_fr.at frh7 is_153 rfl).trans (rfl : h 153 j = h 153 j)))))
              have s2 : h85 153 (h85 151 7) = 2 := by rw [show h85 151 7 = va by omega, g153]; exact s153
              have hi90 : 0 ≤ (v88 + 1) := by have q := Tok_at Tok_h85; omega
              have hi91 : (v88 + 1) ≤ 1001 := by have q := Tok_at Tok_h85; omega
              refine v_putI (j := 7) gz_174_195 rfl is_151 rd_10 rfl (by omega) (by omega) rfl (fun h92 fh92 => ?_)
              have gh92 : my_fr [(10, 7), (10, 8), (10, 27), (10, 32), (10, 33), (64, -1), (65, -1), (73, -1), (74, -1), (75, -1), (76, -1), (77, -1), (78, -1), (79, -1)] h h92 := my_fr.up gh85 is_151 fh92 rfl
              have Mw_h92 : Mw h92 := Mw_ag (my_ag.up fh92 is_151 rfl) Mw_h85t86
              have Mw3_h92 : Mw3 h92 := Mw3_ag (my_ag.up fh92 is_151 rfl) Mw3_h85t87
              have Tok_h92t93 : Tok h92 := Tok_inc Tok_h85 (by omega) (by omega) fh92
              refine w_aload_n gz_174_198 rfl ?_
              refine w_bipush gz_174_199 (by decide) ?_
              have j165 : ∀ j : Int, h92 165 j = h74 165 j := fun j => ((my_up_role fh92 is_165 is_151 rfl).trans ((my_up_role fh85 is_165 is_166 rfl).trans (rfl : h74 165 j = h74 165 j)))
              have j166 : ∀ j : Int, h92 166 j = h85 166 j := fun j => ((my_up_role fh92 is_166 is_151 rfl).trans (rfl : h85 166 j = h85 166 j))
              have j157 : ∀ j : Int, h92 157 j = h 157 j := fun j => ((my_up_role fh92 is_157 is_151 rfl).trans ((my_up_role fh85 is_157 is_166 rfl).trans ((my_up_role fh74 is_157 is_165 rfl).trans ((my_up_role fh49 is_157 is_151 rfl).trans ((my_fr.at frh7 is_157 rfl).trans (rfl : h 157 j = h 157 j))))))
              have j164 : ∀ j : Int, h92 164 j = h 164 j := fun j => ((my_up_role fh92 is_164 is_151 rfl).trans ((my_up_role fh85 is_164 is_166 rfl).trans ((my_up_role fh74 is_164 is_165 rfl).trans ((my_up_role fh49 is_164 is_151 rfl).trans ((my_fr.at frh7 is_164 rfl).trans (rfl : h 164 j = h 164 j))))))
              have j167 : ∀ j : Int, h92 167 j = h 167 j := fun j => ((my_up_role fh92 is_167 is_151 rfl).trans ((my_up_role fh85 is_167 is_166 rfl).trans ((my_up_role fh74 is_167 is_165 rfl).trans ((my_up_role fh49 is_167 is_151 rfl).trans ((my_fr.at frh7 is_167 rfl).trans (rfl : h 167 j = h 167 j))))))
              have o5 : h92 165 6 = 0 := (j165 6).trans k165
              have o6 : h92 166 6 = h 155 va := (j166 6).trans (k166.trans (by omega))
              have o7 : h92 157 (h 155 va) = h 157 (h 155 va) := j157 _
              have o4 : h92 164 (h 155 va) = h 164 (h 155 va) := j164 _
              have o67 : h92 167 6 = 0 := by rw [j167]; exact h6
              have fo : (h92 165 6 = 0 ∨ h92 165 6 = 1) ∧ 0 ≤ h92 166 6 ∧ (h92 165 6 = 1 → h92 166 6 ≤ 2 ∧ 1 ≤ h92 157 (h92 166 6)) ∧ (h92 165 6 = 0 → h92 166 6 < x1 ∧ h92 164 (h92 166 6) = 1) := by rw [o5, o6, o7, o4]; omega
              have t67 : ∀ k : Int, 0 ≤ k → k ≤ 6 → 0 ≤ h92 167 k ∧ h92 167 k ≤ 6 := fun k a b => by rw [j167]; exact a167 k a (by omega)
              have m3 := Mw3_h92
              refine w_inv (k := 2) (as := [(0, 6)]) (r := []) (x := 151) (ls0 := [(2, 151), (0, 6), (9, 0), (9, 0)]) gz_174_201 gm_179 rfl is_151 rd_10 rfl rfl rfl rfl rfl (c_Model_findColumns_f0 (d := (d + 1)) (x1 := 6) (by omega) (by omega) (((my_up_fld fh92 (by decide)).trans ((my_up_role fh85 is_151 is_166 rfl).trans ((my_up_role fh74 is_151 is_165 rfl).trans ev71.symm))).trans (by omega)) Mw_h92 (Fp6 fo (by omega)) (fun _ => o67) (fun h94 frh94 w95 xp96 xp97 xp98 => ?_))
              have gh94 : my_fr [(10, 7), (10, 8), (10, 27), (10, 32), (10, 33), (64, -1), (65, -1), (73, -1), (74, -1), (75, -1), (76, -1), (77, -1), (78, -1), (79, -1)] h h94 := my_fr.tr gh92 (frh94.mo rfl)
              have Mw_h94 : Mw h94 := Mw_ag (my_ag.fr frh94 rfl) Mw_h92
              have Mw3_h94 : Mw3 h94 := Mw3_ag (my_ag.fr frh94 rfl) Mw3_h92
              have Tok_h94 : Tok h94 := Tok_ag (my_ag.fr frh94 rfl) Tok_h92t93
              show wp l rho (d + 3) 174 204 [(2, 151), (0, x1), (0, 0)] [] h94 Q
              have mr := Mq_new (w := x1) m3 xp96 (my_ag.fr frh94 rfl) fo o67 (by omega) t67
              refine w_aload_n gz_174_204 rfl ?_
              refine w_bipush gz_174_205 (by decide) ?_
              have ce99 : h94 151 7 = (v88 + 1) := ((my_fr.at frh94 is_151 rfl).trans (my_up_self fh92))
              refine w_inv (k := 0) (as := [(0, 59)]) (r := []) (x := 151) (ls0 := [(2, 151), (0, 59)]) gz_174_207 gm_183 rfl is_151 rd_10 rfl rfl rfl rfl rfl (c_Model_takeSign_f0 (d := (d + 1))  (((my_fr.at frh94 is_151 rfl).trans ((my_up_fld fh92 (by decide)).trans ((my_up_role fh85 is_151 is_166 rfl).trans ((my_up_role fh74 is_151 is_165 rfl).trans ev71.symm)))).trans (by omega)) Tok_h94 (fun h100 frh100 w101 w102 xp103 Tok_h100t104 => ?_) (fun h105 frh105 w106 w107 w108 xp109 Tok_h105t110 => ?_))
              ·
                have gh100 : my_fr [(10, 7), (10, 8), (10, 27), (10, 32), (10, 33), (64, -1), (65, -1), (73, -1), (74, -1), (75, -1), (76, -1), (77, -1), (78, -1), (79, -1)] h h100 := my_fr.tr gh94 (frh100.mo rfl)
                have Mw_h100 : Mw h100 := Mw_ag (my_ag.fr frh100 rfl) Mw_h94
                have Mw3_h100 : Mw3 h100 := Mw3_ag (my_ag.fr frh100 rfl) Mw3_h94
                show wp l rho (d + 3) 174 210 [(2, 151), (0, x1), (0, 0)] [] h100 Q
                have mr2 : Mq h100 x1 := Mq_ag (my_ag.fr frh100 rfl) mr
                have r165 : ∀ j : Int, h100 165 j = h74 165 j := fun j => ((my_fr.at frh100 is_165 rfl).trans ((my_fr.at frh94 is_165 rfl).trans ((my_up_role fh92 is_165 is_151 rfl).trans ((my_up_role fh85 is_165 is_166 rfl).trans (rfl : h74 165 j = h74 165 j)))))
                have r166 : ∀ j : Int, h100 166 j = h85 166 j := fun j => ((my_fr.at frh100 is_166 rfl).trans ((my_fr.at frh94 is_166 rfl).trans ((my_up_role fh92 is_166 is_151 rfl).trans (rfl : h85 166 j = h85 166 j))))
                have c111 := (rfl : h100 151 8 = h100 151 8)
                exact w_vret gz_174_210 gm_174 (k0 h100 (gh100) (by omega) (by omega) Tok_h100t104 Mw_h100 Mw3_h100)
              ·
                have gh105 : my_fr [(10, 7), (10, 8), (10, 27), (10, 32), (10, 33), (64, -1), (65, -1), (73, -1), (74, -1), (75, -1), (76, -1), (77, -1), (78, -1), (79, -1)] h h105 := my_fr.tr gh94 (frh105.mo rfl)
                have Mw_h105 : Mw h105 := Mw_ag (my_ag.fr frh105 rfl) Mw_h94
                have Mw3_h105 : Mw3 h105 := Mw3_ag (my_ag.fr frh105 rfl) Mw3_h94
                show wp l rho (d + 3) 174 210 [(2, 151), (0, x1), (0, 0)] [] h105 Q
                have mr2 : Mq h105 x1 := Mq_ag (my_ag.fr frh105 rfl) mr
                have r165 : ∀ j : Int, h105 165 j = h74 165 j := fun j => ((my_fr.at frh105 is_165 rfl).trans ((my_fr.at frh94 is_165 rfl).trans ((my_up_role fh92 is_165 is_151 rfl).trans ((my_up_role fh85 is_165 is_166 rfl).trans (rfl : h74 165 j = h74 165 j)))))
                have r166 : ∀ j : Int, h105 166 j = h85 166 j := fun j => ((my_fr.at frh105 is_166 rfl).trans ((my_fr.at frh94 is_166 rfl).trans ((my_up_role fh92 is_166 is_151 rfl).trans (rfl : h85 166 j = h85 166 j))))
                have c112 := (rfl : h105 151 7 = h105 151 7)
                have c113 := w108
                exact w_vret gz_174_210 gm_174 (k1 h105 (gh105) (by omega) (by omega) (by omega) (by first | exact mr2 | exact (fun k a => ⟨(r165 k).trans (u5 k a), (r166 k).trans (u6 k a)⟩) | omega) (by first | exact mr2 | exact (fun k a => ⟨(r165 k).trans (u5 k a), (r166 k).trans (u6 k a)⟩) | omega) Tok_h105t110 Mw_h105 Mw3_h105)
            ·
              refine w_aload_n gz_174_150 rfl ?_
              refine w_iconst gz_174_151 (by decide) ?_
              refine w_inv (k := 0) (as := [(0, 2)]) (r := []) (x := 151) (ls0 := [(2, 151), (0, 2)]) gz_174_152 gm_178 rfl is_151 rd_10 rfl rfl rfl rfl rfl ?_
              refine w_aload_n gz_178_0 rfl ?_
              refine v_getI (j := 8) gz_178_1 rfl is_151 rd_10 rfl (fun v114 ev114 pv114 qv114 => ?_)
              have zv114 := ev114.trans ((my_up_fld fh49 (by decide)).trans ev44.symm)
              refine w_ifne (t := 25) gz_178_4 rfl (fun u115 => by exfalso; omega) (fun u115 => ?_)
              refine w_aload_n gz_178_7 rfl ?_
              refine w_iload_n gz_178_8 rfl ?_
              refine w_bipush gz_178_9 (by decide) ?_
              refine w_aload_n gz_178_11 rfl ?_
              refine w_getX (v := 154) gz_178_12 is_151 rd_10 rfl (by decide) rfl ?_
              refine w_aload_n gz_178_15 rfl ?_
              refine v_getI (j := 7) gz_178_16 rfl is_151 rd_10 rfl (fun v117 ev117 pv117 qv117 => ?_)
              have zv117 := ev117.trans ev64.symm
              refine w_iald gz_178_19 is_154 rd_53 (by omega) (by omega) (fun v118 ev118 pv118 qv118 => ?_)
              refine w_imul gz_178_20 ⟨by omega, by omega⟩ ?_
              refine w_iadd gz_178_21 ⟨by omega, by omega⟩ ?_
              refine v_putI (j := 8) gz_178_22 rfl is_151 rd_10 rfl (by omega) (by omega) rfl (fun h119 fh119 => ?_)
              have gh119 : my_fr [(10, 7), (10, 8), (10, 27), (10, 32), (10, 33), (64, -1), (65, -1), (73, -1), (74, -1), (75, -1), (76, -1), (77, -1), (78, -1), (79, -1)] h h119 := my_fr.up gh49 is_151 fh119 rfl
              have Mw_h119 : Mw h119 := Mw_ag (my_ag.up fh119 is_151 rfl) Mw_h49
              have Mw3_h119 : Mw3 h119 := Mw3_ag (my_ag.up fh119 is_151 rfl) Mw3_h49
              have Tok_h119 : Tok h119 := Tok_ag (my_ag.up fh119 is_151 rfl) Tok_h49t50
              refine w_vret gz_178_25 gm_178 ?_
              show wp l rho (d + 3) 174 155 [(2, 151), (0, x1), (0, 0)] [] h119 Q
              refine w_aload_n gz_174_155 rfl ?_
              refine v_getI (j := 8) gz_174_156 rfl is_151 rd_10 rfl (fun v120 ev120 pv120 qv120 => ?_)
              have zv120 := ev120.trans (my_up_self fh119)
              refine w_ifle (t := 163) gz_174_159 rfl (fun u121 => by exfalso; omega) (fun u121 => ?_)
              have r165 : ∀ j : Int, h119 165 j = h 165 j := fun j => ((my_up_role fh119 is_165 is_151 rfl).trans ((my_up_role fh49 is_165 is_151 rfl).trans ((my_fr.at frh7 is_165 rfl).trans (rfl : h 165 j = h 165 j))))
              have r166 : ∀ j : Int, h119 166 j = h 166 j := fun j => ((my_up_role fh119 is_166 is_151 rfl).trans ((my_up_role fh49 is_166 is_151 rfl).trans ((my_fr.at frh7 is_166 rfl).trans (rfl : h 166 j = h 166 j))))
              have c122 := ev120.symm
              exact w_vret gz_174_162 gm_174 (k0 h119 (gh119) (by omega) (by omega) Tok_h119 Mw_h119 Mw3_h119)
          ·
            refine w_aload_n gz_174_99 rfl ?_
            refine w_iconst gz_174_100 (by decide) ?_
            refine w_inv (k := 0) (as := [(0, 4)]) (r := []) (x := 151) (ls0 := [(2, 151), (0, 4)]) gz_174_101 gm_178 rfl is_151 rd_10 rfl rfl rfl rfl rfl ?_
            refine w_aload_n gz_178_0 rfl ?_
            refine v_getI (j := 8) gz_178_1 rfl is_151 rd_10 rfl (fun v123 ev123 pv123 qv123 => ?_)
            have zv123 := ev123.trans ((my_up_fld fh49 (by decide)).trans ev44.symm)
            refine w_ifne (t := 25) gz_178_4 rfl (fun u124 => by exfalso; omega) (fun u124 => ?_)
            refine w_aload_n gz_178_7 rfl ?_
            refine w_iload_n gz_178_8 rfl ?_
            refine w_bipush gz_178_9 (by decide) ?_
            refine w_aload_n gz_178_11 rfl ?_
            refine w_getX (v := 154) gz_178_12 is_151 rd_10 rfl (by decide) rfl ?_
            refine w_aload_n gz_178_15 rfl ?_
            refine v_getI (j := 7) gz_178_16 rfl is_151 rd_10 rfl (fun v126 ev126 pv126 qv126 => ?_)
            have zv126 := ev126.trans ev56.symm
            refine w_iald gz_178_19 is_154 rd_53 (by omega) (by omega) (fun v127 ev127 pv127 qv127 => ?_)
            refine w_imul gz_178_20 ⟨by omega, by omega⟩ ?_
            refine w_iadd gz_178_21 ⟨by omega, by omega⟩ ?_
            refine v_putI (j := 8) gz_178_22 rfl is_151 rd_10 rfl (by omega) (by omega) rfl (fun h128 fh128 => ?_)
            have gh128 : my_fr [(10, 7), (10, 8), (10, 27), (10, 32), (10, 33), (64, -1), (65, -1), (73, -1), (74, -1), (75, -1), (76, -1), (77, -1), (78, -1), (79, -1)] h h128 := my_fr.up gh49 is_151 fh128 rfl
            have Mw_h128 : Mw h128 := Mw_ag (my_ag.up fh128 is_151 rfl) Mw_h49
            have Mw3_h128 : Mw3 h128 := Mw3_ag (my_ag.up fh128 is_151 rfl) Mw3_h49
            have Tok_h128 : Tok h128 := Tok_ag (my_ag.up fh128 is_151 rfl) Tok_h49t50
            refine w_vret gz_178_25 gm_178 ?_
            show wp l rho (d + 3) 174 104 [(2, 151), (0, x1), (0, 0)] [] h128 Q
            refine w_goto (t := 155) gz_174_104 rfl ?_
            refine w_aload_n gz_174_155 rfl ?_
            refine v_getI (j := 8) gz_174_156 rfl is_151 rd_10 rfl (fun v129 ev129 pv129 qv129 => ?_)
            have zv129 := ev129.trans (my_up_self fh128)
            refine w_ifle (t := 163) gz_174_159 rfl (fun u130 => by exfalso; omega) (fun u130 => ?_)
            have r165 : ∀ j : Int, h128 165 j = h 165 j := fun j => ((my_up_role fh128 is_165 is_151 rfl).trans ((my_up_role fh49 is_165 is_151 rfl).trans ((my_fr.at frh7 is_165 rfl).trans (rfl : h 165 j = h 165 j))))
            have r166 : ∀ j : Int, h128 166 j = h 166 j := fun j => ((my_up_role fh128 is_166 is_151 rfl).trans ((my_up_role fh49 is_166 is_151 rfl).trans ((my_fr.at frh7 is_166 rfl).trans (rfl : h 166 j = h 166 j))))
            have c131 := ev129.symm
            exact w_vret gz_174_162 gm_174 (k0 h128 (gh128) (by omega) (by omega) Tok_h128 Mw_h128 Mw3_h128)
        ·
          refine w_aload_n gz_174_66 rfl ?_
          refine w_iconst gz_174_67 (by decide) ?_
          refine w_inv (k := 0) (as := [(0, 1)]) (r := []) (x := 151) (ls0 := [(2, 151), (0, 1)]) gz_174_68 gm_178 rfl is_151 rd_10 rfl rfl rfl rfl rfl ?_
          refine w_aload_n gz_178_0 rfl ?_
          refine v_getI (j := 8) gz_178_1 rfl is_151 rd_10 rfl (fun v132 ev132 pv132 qv132 => ?_)
          have zv132 := ev132.trans ((my_up_fld fh49 (by decide)).trans ev44.symm)
          refine w_ifne (t := 25) gz_178_4 rfl (fun u133 => by exfalso; omega) (fun u133 => ?_)
          refine w_aload_n gz_178_7 rfl ?_
          refine w_iload_n gz_178_8 rfl ?_
          refine w_bipush gz_178_9 (by decide) ?_
          refine w_aload_n gz_178_11 rfl ?_
          refine w_getX (v := 154) gz_178_12 is_151 rd_10 rfl (by decide) rfl ?_
          refine w_aload_n gz_178_15 rfl ?_
          refine v_getI (j := 7) gz_178_16 rfl is_151 rd_10 rfl (fun v135 ev135 pv135 qv135 => ?_)
          have zv135 := ev135.trans ev52.symm
          refine w_iald gz_178_19 is_154 rd_53 (by omega) (by omega) (fun v136 ev136 pv136 qv136 => ?_)
          refine w_imul gz_178_20 ⟨by omega, by omega⟩ ?_
          refine w_iadd gz_178_21 ⟨by omega, by omega⟩ ?_
          refine v_putI (j := 8) gz_178_22 rfl is_151 rd_10 rfl (by omega) (by omega) rfl (fun h137 fh137 => ?_)
          have gh137 : my_fr [(10, 7), (10, 8), (10, 27), (10, 32), (10, 33), (64, -1), (65, -1), (73, -1), (74, -1), (75, -1), (76, -1), (77, -1), (78, -1), (79, -1)] h h137 := my_fr.up gh49 is_151 fh137 rfl
          have Mw_h137 : Mw h137 := Mw_ag (my_ag.up fh137 is_151 rfl) Mw_h49
          have Mw3_h137 : Mw3 h137 := Mw3_ag (my_ag.up fh137 is_151 rfl) Mw3_h49
          have Tok_h137 : Tok h137 := Tok_ag (my_ag.up fh137 is_151 rfl) Tok_h49t50
          refine w_vret gz_178_25 gm_178 ?_
          show wp l rho (d + 3) 174 71 [(2, 151), (0, x1), (0, 0)] [] h137 Q
          refine w_goto (t := 155) gz_174_71 rfl ?_
          refine w_aload_n gz_174_155 rfl ?_
          refine v_getI (j := 8) gz_174_156 rfl is_151 rd_10 rfl (fun v138 ev138 pv138 qv138 => ?_)
          have zv138 := ev138.trans (my_up_self fh137)
          refine w_ifle (t := 163) gz_174_159 rfl (fun u139 => by exfalso; omega) (fun u139 => ?_)
          have r165 : ∀ j : Int, h137 165 j = h 165 j := fun j => ((my_up_role fh137 is_165 is_151 rfl).trans ((my_up_role fh49 is_165 is_151 rfl).trans ((my_fr.at frh7 is_165 rfl).trans (rfl : h 165 j = h 165 j))))
          have r166 : ∀ j : Int, h137 166 j = h 166 j := fun j => ((my_up_role fh137 is_166 is_151 rfl).trans ((my_up_role fh49 is_166 is_151 rfl).trans ((my_fr.at frh7 is_166 rfl).trans (rfl : h 166 j = h 166 j))))
          have c140 := ev138.symm
          exact w_vret gz_174_162 gm_174 (k0 h137 (gh137) (by omega) (by omega) Tok_h137 Mw_h137 Mw3_h137)
    ·
      show wp l rho (d + 3) 174 10 [(2, 151), (0, x1), (9, 0)] [(0, 1)] h7 Q
      refine w_istore_n (ls' := [(2, 151), (0, x1), (0, 1)]) gz_174_10 gm_174 rfl rfl rfl ?_
      refine w_aload_n gz_174_11 rfl ?_
      refine v_getI (j := 8) gz_174_12 rfl is_151 rd_10 rfl (fun v141 ev141 pv141 qv141 => ?_)
      have zv141 := ev141.trans w10
      refine w_ifne (t := 35) gz_174_15 rfl (fun u142 => by exfalso; omega) (fun u142 => ?_)
      refine w_iload_n gz_174_18 rfl ?_
      refine w_ifne (t := 35) gz_174_19 rfl (fun u143 => ?_) (fun u143 => by exfalso; omega)
      refine w_aload_n gz_174_35 rfl ?_
      refine v_getI (j := 8) gz_174_36 rfl is_151 rd_10 rfl (fun v144 ev144 pv144 qv144 => ?_)
      have zv144 := ev144.trans ev141.symm
      refine w_ifle (t := 43) gz_174_39 rfl (fun u145 => ?_) (fun u145 => by exfalso; omega)
      refine w_aload_n gz_174_43 rfl ?_
      refine w_dup gz_174_44 rfl ?_
      refine v_getI (j := 7) gz_174_45 rfl is_151 rd_10 rfl (fun v146 ev146 pv146 qv146 => ?_)
      have zv146 := ev146.trans (rfl : h7 151 7 = h7 151 7)
      refine w_iconst gz_174_48 (by decide) ?_
      refine w_iadd gz_174_49 ⟨by omega, by omega⟩ ?_
      have hi147 : 0 ≤ (v146 + 1) := by have q := Tok_at Tok_h7t12; omega
      have hi148 : (v146 + 1) ≤ 1001 := by have q := Tok_at Tok_h7t12; omega
      refine v_putI (j := 7) gz_174_50 rfl is_151 rd_10 rfl (by omega) (by omega) rfl (fun h149 fh149 => ?_)
      have gh149 : my_fr [(10, 7), (10, 8), (10, 27), (10, 32), (10, 33), (64, -1), (65, -1), (73, -1), (74, -1), (75, -1), (76, -1), (77, -1), (78, -1), (79, -1)] h h149 := my_fr.up gh7 is_151 fh149 rfl
      have Mw_h149 : Mw h149 := Mw_ag (my_ag.up fh149 is_151 rfl) Mw_h7
      have Mw3_h149 : Mw3 h149 := Mw3_ag (my_ag.up fh149 is_151 rfl) Mw3_h7
      have Tok_h149t150 : Tok h149 := Tok_inc Tok_h7t12 (by omega) (by omega) fh149
      have k7 := my_up_self fh149
      refine w_aload_n gz_174_53 rfl ?_
      refine w_getX (v := 153) gz_174_54 is_151 rd_10 rfl (by decide) rfl ?_
      refine w_aload_n gz_174_57 rfl ?_
      refine v_getI (j := 7) gz_174_58 rfl is_151 rd_10 rfl (fun v152 ev152 pv152 qv152 => ?_)
      have zv152 := ev152.trans (my_up_self fh149)
      refine w_iald gz_174_61 is_153 rd_52 (by omega) (by omega) (fun v153 ev153 pv153 qv153 => ?_)
      refine w_iconst gz_174_62 (by decide) ?_
      refine w_iceq (t := 74) gz_174_63 rfl (fun u154 => ?_) (fun u154 => ?_)
      ·
        refine w_aload_n gz_174_74 rfl ?_
        refine w_getX (v := 155) gz_174_75 is_151 rd_10 rfl (by decide) rfl ?_
        refine w_aload_n gz_174_78 rfl ?_
        refine v_getI (j := 7) gz_174_79 rfl is_151 rd_10 rfl (fun v156 ev156 pv156 qv156 => ?_)
        have zv156 := ev156.trans ev152.symm
        refine w_lald gz_174_82 is_155 rd_54 (by omega) (by omega) (fun v157 ev157 pv157 => ?_)
        refine w_iload_n gz_174_83 rfl ?_
        refine w_ifeq (t := 91) gz_174_84 rfl (fun u158 => by exfalso; omega) (fun u158 => ?_)
        refine w_iconst gz_174_87 (by decide) ?_
        refine w_goto (t := 94) gz_174_88 rfl ?_
        refine w_i2l gz_174_94 ?_
        refine w_lcmpE gz_174_95 (fun v159 pv159 qv159 xv159 => ?_)
        refine w_ifle (t := 107) gz_174_96 rfl (fun u160 => ?_) (fun u160 => ?_)
        ·
          refine w_iload_n gz_174_107 rfl ?_
          refine w_ifeq (t := 132) gz_174_108 rfl (fun u161 => by exfalso; omega) (fun u161 => ?_)
          refine w_aload_n gz_174_111 rfl ?_
          refine w_getX (v := 157) gz_174_112 is_151 rd_10 rfl (by decide) rfl ?_
          refine w_aload_n gz_174_115 rfl ?_
          refine w_getX (v := 155) gz_174_116 is_151 rd_10 rfl (by decide) rfl ?_
          refine w_aload_n gz_174_119 rfl ?_
          refine v_getI (j := 7) gz_174_120 rfl is_151 rd_10 rfl (fun v164 ev164 pv164 qv164 => ?_)
          have zv164 := ev164.trans ev156.symm
          refine w_lald gz_174_123 is_155 rd_54 (by omega) (by omega) (fun v165 ev165 pv165 => ?_)
          have tb : 0 ≤ v165 ∧ v165 ≤ 999 := by
            have q := Tok_at Tok_h149t150
            subst_vars
            omega
          refine w_l2iE gz_174_124 (fun v166 pv166 qv166 xv166 => ?_)
          have f155 : ∀ j : Int, h149 155 j = h 155 j := fun j => ((my_up_role fh149 is_155 is_151 rfl).trans ((my_fr.at frh7 is_155 rfl).trans (rfl : h 155 j = h 155 j)))
          have f153 : ∀ j : Int, h149 153 j = h 153 j := fun j => ((my_up_role fh149 is_153 is_151 rfl).trans ((my_fr.at frh7 is_153 rfl).trans (rfl : h 153 j = h 153 j)))
          obtain ⟨va, ea⟩ : ∃ va : Int, va = h149 151 7 := ⟨_, rfl⟩
          have z155 : v166 = h 155 va := by rw [ea, ← f155]; subst_vars; omega
          have s153 : h 153 va = 2 := by rw [ea, ← f153]; subst_vars; omega
          have hi167 : 0 ≤ v166 := by subst_vars; omega
          have hi168 : v166 ≤ 2 := by subst_vars; omega
          refine w_iald gz_174_125 is_157 rd_56 (by omega) (by omega) (fun v169 ev169 pv169 qv169 => ?_)
          have f157 : ∀ j : Int, h149 157 j = h 157 j := fun j => ((my_up_role fh149 is_157 is_151 rfl).trans ((my_fr.at frh7 is_157 rfl).trans (rfl : h 157 j = h 157 j)))
          have cw : v169 = h 157 (h 155 va) := by rw [← z155, ← f157]; omega
          refine w_ifne (t := 155) gz_174_126 rfl (fun u170 => ?_) (fun u170 => ?_)
          ·
            refine w_aload_n gz_174_155 rfl ?_
            refine v_getI (j := 8) gz_174_156 rfl is_151 rd_10 rfl (fun v171 ev171 pv171 qv171 => ?_)
            have zv171 := ev171.trans ((my_up_fld fh149 (by decide)).trans ev144.symm)
            refine w_ifle (t := 163) gz_174_159 rfl (fun u172 => ?_) (fun u172 => by exfalso; omega)
            refine w_aload_n gz_174_163 rfl ?_
            refine w_getX (v := 165) gz_174_164 is_151 rd_10 rfl (by decide) rfl ?_
            refine w_bipush gz_174_167 (by decide) ?_
            refine w_iload_n gz_174_169 rfl ?_
            have n165 : ∀ j : Int, h149 165 j = h 165 j := fun j => ((my_up_role fh149 is_165 is_151 rfl).trans ((my_fr.at frh7 is_165 rfl).trans (rfl : h 165 j = h 165 j)))
            refine w_bast gz_174_170 is_165 rd_64 (by omega) (by omega) (by omega) (by omega) (fun h174 fh174 => ?_)
            have gh174 : my_fr [(10, 7), (10, 8), (10, 27), (10, 32), (10, 33), (64, -1), (65, -1), (73, -1), (74, -1), (75, -1), (76, -1), (77, -1), (78, -1), (79, -1)] h h174 := my_fr.up gh149 is_165 fh174 rfl
            have Tok_h174 : Tok h174 := Tok_ag (my_ag.up fh174 is_165 rfl) Tok_h149t150
            have Mw_h174t175 : Mw h174 := (Mw3_6 (by decide) fh174 Mw3_h149).mw
            have Mw3_h174t176 : Mw3 h174 := Mw3_6 (by decide) fh174 Mw3_h149
            have k165 := my_up_self fh174
            have u5 : ∀ k : Int, k ≤ 5 → h174 165 k = h 165 k := fun k a => by rw [my_up_ne fh174 (by omega)]; exact n165 k
            refine w_aload_n gz_174_171 rfl ?_
            refine w_getX (v := 166) gz_174_172 is_151 rd_10 rfl (by decide) rfl ?_
            refine w_bipush gz_174_175 (by decide) ?_
            refine w_aload_n gz_174_177 rfl ?_
            refine w_getX (v := 155) gz_174_178 is_151 rd_10 rfl (by decide) rfl ?_
            refine w_aload_n gz_174_181 rfl ?_
            refine v_getI (j := 7) gz_174_182 rfl is_151 rd_10 rfl (fun v179 ev179 pv179 qv179 => ?_)
            have zv179 := ev179.trans ((my_up_role fh174 is_151 is_165 rfl).trans ev164.symm)
            have ce180 : h174 151 7 = v179 := ev179.symm
            have i7 : v179 = va := by omega
            refine w_lald gz_174_185 is_155 rd_54 (by omega) (by omega) (fun v181 ev181 pv181 => ?_)
            have e155 : ∀ j : Int, h174 155 j = h 155 j := fun j => ((my_up_role fh174 is_155 is_165 rfl).trans ((my_up_role fh149 is_155 is_151 rfl).trans ((my_fr.at frh7 is_155 rfl).trans (rfl : h 155 j = h 155 j))))
            have zq : v181 = h 155 va := by rw [← i7, ← e155]; omega
            refine w_l2iE gz_174_186 (fun v182 pv182 qv182 xv182 => ?_)
            have n166 : ∀ j : Int, h174 166 j = h 166 j := fun j => ((my_up_role fh174 is_166 is_165 rfl).trans ((my_up_role fh149 is_166 is_151 rfl).trans ((my_fr.at frh7 is_166 rfl).trans (rfl : h 166 j = h 166 j))))
            have hi183 : 0 ≤ v182 := by omega
            have hi184 : v182 ≤ 5 := by omega
            refine w_iast gz_174_187 is_166 rd_65 (by omega) (by omega) (by omega) (by omega) (fun h185 fh185 => ?_)
            have gh185 : my_fr [(10, 7), (10, 8), (10, 27), (10, 32), (10, 33), (64, -1), (65, -1), (73, -1), (74, -1), (75, -1), (76, -1), (77, -1), (78, -1), (79, -1)] h h185 := my_fr.up gh174 is_166 fh185 rfl
            have Tok_h185 : Tok h185 := Tok_ag (my_ag.up fh185 is_166 rfl) Tok_h174
            have Mw_h185t186 : Mw h185 := (Mw3_6 (by decide) fh185 Mw3_h174t176).mw
            have Mw3_h185t187 : Mw3 h185 := Mw3_6 (by decide) fh185 Mw3_h174t176
            have k166 := my_up_self fh185
            have u6 : ∀ k : Int, k ≤ 5 → h185 166 k = h 166 k := fun k a => by rw [my_up_ne fh185 (by omega)]; exact n166 k
            refine w_aload_n gz_174_188 rfl ?_
            refine w_dup gz_174_189 rfl ?_
            refine v_getI (j := 7) gz_174_190 rfl is_151 rd_10 rfl (fun v188 ev188 pv188 qv188 => ?_)
            have zv188 := ev188.trans ((my_up_role fh185 is_151 is_166 rfl).trans ev179.symm)
            refine w_iconst gz_174_193 (by decide) ?_
            refine w_iadd gz_174_194 ⟨by omega, by omega⟩ ?_
            have ce189 : h185 151 7 = v188 := ev188.symm
            have g153 : ∀ j : Int, h185 153 j = h 153 j := fun j => ((my_up_role fh185 is_153 is_166 rfl).trans ((my_up_role fh174 is_153 is_165 rfl).trans ((my_up_role fh149 is_153 is_151 rfl).trans ((my_fr.at frh7 is_153 rfl).trans (rfl : h 153 j = h 153 j)))))
            have s2 : h185 153 (h185 151 7) = 2 := by rw [show h185 151 7 = va by omega, g153]; exact s153
            have hi190 : 0 ≤ (v188 + 1) := by have q := Tok_at Tok_h185; omega
            have hi191 : (v188 + 1) ≤ 1001 := by have q := Tok_at Tok_h185; omega
            refine v_putI (j := 7) gz_174_195 rfl is_151 rd_10 rfl (by omega) (by omega) rfl (fun h192 fh192 => ?_)
            have gh192 : my_fr [(10, 7), (10, 8), (10, 27), (10, 32), (10, 33), (64, -1), (65, -1), (73, -1), (74, -1), (75, -1), (76, -1), (77, -1), (78, -1), (79, -1)] h h192 := my_fr.up gh185 is_151 fh192 rfl
            have Mw_h192 : Mw h192 := Mw_ag (my_ag.up fh192 is_151 rfl) Mw_h185t186
            have Mw3_h192 : Mw3 h192 := Mw3_ag (my_ag.up fh192 is_151 rfl) Mw3_h185t187
            have Tok_h192t193 : Tok h192 := Tok_inc Tok_h185 (by omega) (by omega) fh192
            refine w_aload_n gz_174_198 rfl ?_
            refine w_bipush gz_174_199 (by decide) ?_
            have j165 : ∀ j : Int, h192 165 j = h174 165 j := fun j => ((my_up_role fh192 is_165 is_151 rfl).trans ((my_up_role fh185 is_165 is_166 rfl).trans (rfl : h174 165 j = h174 165 j)))
            have j166 : ∀ j : Int, h192 166 j = h185 166 j := fun j => ((my_up_role fh192 is_166 is_151 rfl).trans (rfl : h185 166 j = h185 166 j))
            have j157 : ∀ j : Int, h192 157 j = h 157 j := fun j => ((my_up_role fh192 is_157 is_151 rfl).trans ((my_up_role fh185 is_157 is_166 rfl).trans ((my_up_role fh174 is_157 is_165 rfl).trans ((my_up_role fh149 is_157 is_151 rfl).trans ((my_fr.at frh7 is_157 rfl).trans (rfl : h 157 j = h 157 j))))))
            have j164 : ∀ j : Int, h192 164 j = h 164 j := fun j => ((my_up_role fh192 is_164 is_151 rfl).trans ((my_up_role fh185 is_164 is_166 rfl).trans ((my_up_role fh174 is_164 is_165 rfl).trans ((my_up_role fh149 is_164 is_151 rfl).trans ((my_fr.at frh7 is_164 rfl).trans (rfl : h 164 j = h 164 j))))))
            have j167 : ∀ j : Int, h192 167 j = h 167 j := fun j => ((my_up_role fh192 is_167 is_151 rfl).trans ((my_up_role fh185 is_167 is_166 rfl).trans ((my_up_role fh174 is_167 is_165 rfl).trans ((my_up_role fh149 is_167 is_151 rfl).trans ((my_fr.at frh7 is_167 rfl).trans (rfl : h 167 j = h 167 j))))))
            have o5 : h192 165 6 = 1 := (j165 6).trans k165
            have o6 : h192 166 6 = h 155 va := (j166 6).trans (k166.trans (by omega))
            have o7 : h192 157 (h 155 va) = h 157 (h 155 va) := j157 _
            have o4 : h192 164 (h 155 va) = h 164 (h 155 va) := j164 _
            have o67 : h192 167 6 = 0 := by rw [j167]; exact h6
            have fo : (h192 165 6 = 0 ∨ h192 165 6 = 1) ∧ 0 ≤ h192 166 6 ∧ (h192 165 6 = 1 → h192 166 6 ≤ 2 ∧ 1 ≤ h192 157 (h192 166 6)) ∧ (h192 165 6 = 0 → h192 166 6 < x1 ∧ h192 164 (h192 166 6) = 1) := by rw [o5, o6, o7, o4]; omega
            have t67 : ∀ k : Int, 0 ≤ k → k ≤ 6 → 0 ≤ h192 167 k ∧ h192 167 k ≤ 6 := fun k a b => by rw [j167]; exact a167 k a (by omega)
            have m3 := Mw3_h192
            refine w_inv (k := 2) (as := [(0, 6)]) (r := []) (x := 151) (ls0 := [(2, 151), (0, 6), (9, 0), (9, 0)]) gz_174_201 gm_179 rfl is_151 rd_10 rfl rfl rfl rfl rfl (c_Model_findColumns_f0 (d := (d + 1)) (x1 := 6) (by omega) (by omega) (((my_up_fld fh192 (by decide)).trans ((my_up_role fh185 is_151 is_166 rfl).trans ((my_up_role fh174 is_151 is_165 rfl).trans ev171.symm))).trans (by omega)) Mw_h192 (Fp6 fo (by omega)) (fun _ => o67) (fun h194 frh194 w195 xp196 xp197 xp198 => ?_))
            have gh194 : my_fr [(10, 7), (10, 8), (10, 27), (10, 32), (10, 33), (64, -1), (65, -1), (73, -1), (74, -1), (75, -1), (76, -1), (77, -1), (78, -1), (79, -1)] h h194 := my_fr.tr gh192 (frh194.mo rfl)
            have Mw_h194 : Mw h194 := Mw_ag (my_ag.fr frh194 rfl) Mw_h192
            have Mw3_h194 : Mw3 h194 := Mw3_ag (my_ag.fr frh194 rfl) Mw3_h192
            have Tok_h194 : Tok h194 := Tok_ag (my_ag.fr frh194 rfl) Tok_h192t193
            show wp l rho (d + 3) 174 204 [(2, 151), (0, x1), (0, 1)] [] h194 Q
            have mr := Mq_new (w := x1) m3 xp196 (my_ag.fr frh194 rfl) fo o67 (by omega) t67
            refine w_aload_n gz_174_204 rfl ?_
            refine w_bipush gz_174_205 (by decide) ?_
            have ce199 : h194 151 7 = (v188 + 1) := ((my_fr.at frh194 is_151 rfl).trans (my_up_self fh192))
            refine w_inv (k := 0) (as := [(0, 59)]) (r := []) (x := 151) (ls0 := [(2, 151), (0, 59)]) gz_174_207 gm_183 rfl is_151 rd_10 rfl rfl rfl rfl rfl (c_Model_takeSign_f0 (d := (d + 1))  (((my_fr.at frh194 is_151 rfl).trans ((my_up_fld fh192 (by decide)).trans ((my_up_role fh185 is_151 is_166 rfl).trans ((my_up_role fh174 is_151 is_165 rfl).trans ev171.symm)))).trans (by omega)) Tok_h194 (fun h200 frh200 w201 w202 xp203 Tok_h200t204 => ?_) (fun h205 frh205 w206 w207 w208 xp209 Tok_h205t210 => ?_))
            ·
              have gh200 : my_fr [(10, 7), (10, 8), (10, 27), (10, 32), (10, 33), (64, -1), (65, -1), (73, -1), (74, -1), (75, -1), (76, -1), (77, -1), (78, -1), (79, -1)] h h200 := my_fr.tr gh194 (frh200.mo rfl)
              have Mw_h200 : Mw h200 := Mw_ag (my_ag.fr frh200 rfl) Mw_h194
              have Mw3_h200 : Mw3 h200 := Mw3_ag (my_ag.fr frh200 rfl) Mw3_h194
              show wp l rho (d + 3) 174 210 [(2, 151), (0, x1), (0, 1)] [] h200 Q
              have mr2 : Mq h200 x1 := Mq_ag (my_ag.fr frh200 rfl) mr
              have r165 : ∀ j : Int, h200 165 j = h174 165 j := fun j => ((my_fr.at frh200 is_165 rfl).trans ((my_fr.at frh194 is_165 rfl).trans ((my_up_role fh192 is_165 is_151 rfl).trans ((my_up_role fh185 is_165 is_166 rfl).trans (rfl : h174 165 j = h174 165 j)))))
              have r166 : ∀ j : Int, h200 166 j = h185 166 j := fun j => ((my_fr.at frh200 is_166 rfl).trans ((my_fr.at frh194 is_166 rfl).trans ((my_up_role fh192 is_166 is_151 rfl).trans (rfl : h185 166 j = h185 166 j))))
              have c211 := (rfl : h200 151 8 = h200 151 8)
              exact w_vret gz_174_210 gm_174 (k0 h200 (gh200) (by omega) (by omega) Tok_h200t204 Mw_h200 Mw3_h200)
            ·
              have gh205 : my_fr [(10, 7), (10, 8), (10, 27), (10, 32), (10, 33), (64, -1), (65, -1), (73, -1), (74, -1), (75, -1), (76, -1), (77, -1), (78, -1), (79, -1)] h h205 := my_fr.tr gh194 (frh205.mo rfl)
              have Mw_h205 : Mw h205 := Mw_ag (my_ag.fr frh205 rfl) Mw_h194
              have Mw3_h205 : Mw3 h205 := Mw3_ag (my_ag.fr frh205 rfl) Mw3_h194
              show wp l rho (d + 3) 174 210 [(2, 151), (0, x1), (0, 1)] [] h205 Q
              have mr2 : Mq h205 x1 := Mq_ag (my_ag.fr frh205 rfl) mr
              have r165 : ∀ j : Int, h205 165 j = h174 165 j := fun j => ((my_fr.at frh205 is_165 rfl).trans ((my_fr.at frh194 is_165 rfl).trans ((my_up_role fh192 is_165 is_151 rfl).trans ((my_up_role fh185 is_165 is_166 rfl).trans (rfl : h174 165 j = h174 165 j)))))
              have r166 : ∀ j : Int, h205 166 j = h185 166 j := fun j => ((my_fr.at frh205 is_166 rfl).trans ((my_fr.at frh194 is_166 rfl).trans ((my_up_role fh192 is_166 is_151 rfl).trans (rfl : h185 166 j = h185 166 j))))
              have c212 := (rfl : h205 151 7 = h205 151 7)
              have c213 := w208
              exact w_vret gz_174_210 gm_174 (k1 h205 (gh205) (by omega) (by omega) (by omega) (by first | exact mr2 | exact (fun k a => ⟨(r165 k).trans (u5 k a), (r166 k).trans (u6 k a)⟩) | omega) (by first | exact mr2 | exact (fun k a => ⟨(r165 k).trans (u5 k a), (r166 k).trans (u6 k a)⟩) | omega) Tok_h205t210 Mw_h205 Mw3_h205)
          ·
            refine w_goto (t := 150) gz_174_129 rfl ?_
            refine w_aload_n gz_174_150 rfl ?_
            refine w_iconst gz_174_151 (by decide) ?_
            refine w_inv (k := 0) (as := [(0, 2)]) (r := []) (x := 151) (ls0 := [(2, 151), (0, 2)]) gz_174_152 gm_178 rfl is_151 rd_10 rfl rfl rfl rfl rfl ?_
            refine w_aload_n gz_178_0 rfl ?_
            refine v_getI (j := 8) gz_178_1 rfl is_151 rd_10 rfl (fun v214 ev214 pv214 qv214 => ?_)
            have zv214 := ev214.trans ((my_up_fld fh149 (by decide)).trans ev144.symm)
            refine w_ifne (t := 25) gz_178_4 rfl (fun u215 => by exfalso; omega) (fun u215 => ?_)
            refine w_aload_n gz_178_7 rfl ?_
            refine w_iload_n gz_178_8 rfl ?_
            refine w_bipush gz_178_9 (by decide) ?_
            refine w_aload_n gz_178_11 rfl ?_
            refine w_getX (v := 154) gz_178_12 is_151 rd_10 rfl (by decide) rfl ?_
            refine w_aload_n gz_178_15 rfl ?_
            refine v_getI (j := 7) gz_178_16 rfl is_151 rd_10 rfl (fun v217 ev217 pv217 qv217 => ?_)
            have zv217 := ev217.trans ev164.symm
            refine w_iald gz_178_19 is_154 rd_53 (by omega) (by omega) (fun v218 ev218 pv218 qv218 => ?_)
            refine w_imul gz_178_20 ⟨by omega, by omega⟩ ?_
            refine w_iadd gz_178_21 ⟨by omega, by omega⟩ ?_
            refine v_putI (j := 8) gz_178_22 rfl is_151 rd_10 rfl (by omega) (by omega) rfl (fun h219 fh219 => ?_)
            have gh219 : my_fr [(10, 7), (10, 8), (10, 27), (10, 32), (10, 33), (64, -1), (65, -1), (73, -1), (74, -1), (75, -1), (76, -1), (77, -1), (78, -1), (79, -1)] h h219 := my_fr.up gh149 is_151 fh219 rfl
            have Mw_h219 : Mw h219 := Mw_ag (my_ag.up fh219 is_151 rfl) Mw_h149
            have Mw3_h219 : Mw3 h219 := Mw3_ag (my_ag.up fh219 is_151 rfl) Mw3_h149
            have Tok_h219 : Tok h219 := Tok_ag (my_ag.up fh219 is_151 rfl) Tok_h149t150
            refine w_vret gz_178_25 gm_178 ?_
            show wp l rho (d + 3) 174 155 [(2, 151), (0, x1), (0, 1)] [] h219 Q
            refine w_aload_n gz_174_155 rfl ?_
            refine v_getI (j := 8) gz_174_156 rfl is_151 rd_10 rfl (fun v220 ev220 pv220 qv220 => ?_)
            have zv220 := ev220.trans (my_up_self fh219)
            refine w_ifle (t := 163) gz_174_159 rfl (fun u221 => by exfalso; omega) (fun u221 => ?_)
            have r165 : ∀ j : Int, h219 165 j = h 165 j := fun j => ((my_up_role fh219 is_165 is_151 rfl).trans ((my_up_role fh149 is_165 is_151 rfl).trans ((my_fr.at frh7 is_165 rfl).trans (rfl : h 165 j = h 165 j))))
            have r166 : ∀ j : Int, h219 166 j = h 166 j := fun j => ((my_up_role fh219 is_166 is_151 rfl).trans ((my_up_role fh149 is_166 is_151 rfl).trans ((my_fr.at frh7 is_166 rfl).trans (rfl : h 166 j = h 166 j))))
            have c222 := ev220.symm
            exact w_vret gz_174_162 gm_174 (k0 h219 (gh219) (by omega) (by omega) Tok_h219 Mw_h219 Mw3_h219)
        ·
          refine w_aload_n gz_174_99 rfl ?_
          refine w_iconst gz_174_100 (by decide) ?_
          refine w_inv (k := 0) (as := [(0, 4)]) (r := []) (x := 151) (ls0 := [(2, 151), (0, 4)]) gz_174_101 gm_178 rfl is_151 rd_10 rfl rfl rfl rfl rfl ?_
          refine w_aload_n gz_178_0 rfl ?_
          refine v_getI (j := 8) gz_178_1 rfl is_151 rd_10 rfl (fun v223 ev223 pv223 qv223 => ?_)
          have zv223 := ev223.trans ((my_up_fld fh149 (by decide)).trans ev144.symm)
          refine w_ifne (t := 25) gz_178_4 rfl (fun u224 => by exfalso; omega) (fun u224 => ?_)
          refine w_aload_n gz_178_7 rfl ?_
          refine w_iload_n gz_178_8 rfl ?_
          refine w_bipush gz_178_9 (by decide) ?_
          refine w_aload_n gz_178_11 rfl ?_
          refine w_getX (v := 154) gz_178_12 is_151 rd_10 rfl (by decide) rfl ?_
          refine w_aload_n gz_178_15 rfl ?_
          refine v_getI (j := 7) gz_178_16 rfl is_151 rd_10 rfl (fun v226 ev226 pv226 qv226 => ?_)
          have zv226 := ev226.trans ev156.symm
          refine w_iald gz_178_19 is_154 rd_53 (by omega) (by omega) (fun v227 ev227 pv227 qv227 => ?_)
          refine w_imul gz_178_20 ⟨by omega, by omega⟩ ?_
          refine w_iadd gz_178_21 ⟨by omega, by omega⟩ ?_
          refine v_putI (j := 8) gz_178_22 rfl is_151 rd_10 rfl (by omega) (by omega) rfl (fun h228 fh228 => ?_)
          have gh228 : my_fr [(10, 7), (10, 8), (10, 27), (10, 32), (10, 33), (64, -1), (65, -1), (73, -1), (74, -1), (75, -1), (76, -1), (77, -1), (78, -1), (79, -1)] h h228 := my_fr.up gh149 is_151 fh228 rfl
          have Mw_h228 : Mw h228 := Mw_ag (my_ag.up fh228 is_151 rfl) Mw_h149
          have Mw3_h228 : Mw3 h228 := Mw3_ag (my_ag.up fh228 is_151 rfl) Mw3_h149
          have Tok_h228 : Tok h228 := Tok_ag (my_ag.up fh228 is_151 rfl) Tok_h149t150
          refine w_vret gz_178_25 gm_178 ?_
          show wp l rho (d + 3) 174 104 [(2, 151), (0, x1), (0, 1)] [] h228 Q
          refine w_goto (t := 155) gz_174_104 rfl ?_
          refine w_aload_n gz_174_155 rfl ?_
          refine v_getI (j := 8) gz_174_156 rfl is_151 rd_10 rfl (fun v229 ev229 pv229 qv229 => ?_)
          have zv229 := ev229.trans (my_up_self fh228)
          refine w_ifle (t := 163) gz_174_159 rfl (fun u230 => by exfalso; omega) (fun u230 => ?_)
          have r165 : ∀ j : Int, h228 165 j = h 165 j := fun j => ((my_up_role fh228 is_165 is_151 rfl).trans ((my_up_role fh149 is_165 is_151 rfl).trans ((my_fr.at frh7 is_165 rfl).trans (rfl : h 165 j = h 165 j))))
          have r166 : ∀ j : Int, h228 166 j = h 166 j := fun j => ((my_up_role fh228 is_166 is_151 rfl).trans ((my_up_role fh149 is_166 is_151 rfl).trans ((my_fr.at frh7 is_166 rfl).trans (rfl : h 166 j = h 166 j))))
          have c231 := ev229.symm
          exact w_vret gz_174_162 gm_174 (k0 h228 (gh228) (by omega) (by omega) Tok_h228 Mw_h228 Mw3_h228)
      ·
        refine w_aload_n gz_174_66 rfl ?_
        refine w_iconst gz_174_67 (by decide) ?_
        refine w_inv (k := 0) (as := [(0, 1)]) (r := []) (x := 151) (ls0 := [(2, 151), (0, 1)]) gz_174_68 gm_178 rfl is_151 rd_10 rfl rfl rfl rfl rfl ?_
        refine w_aload_n gz_178_0 rfl ?_
        refine v_getI (j := 8) gz_178_1 rfl is_151 rd_10 rfl (fun v232 ev232 pv232 qv232 => ?_)
        have zv232 := ev232.trans ((my_up_fld fh149 (by decide)).trans ev144.symm)
        refine w_ifne (t := 25) gz_178_4 rfl (fun u233 => by exfalso; omega) (fun u233 => ?_)
        refine w_aload_n gz_178_7 rfl ?_
        refine w_iload_n gz_178_8 rfl ?_
        refine w_bipush gz_178_9 (by decide) ?_
        refine w_aload_n gz_178_11 rfl ?_
        refine w_getX (v := 154) gz_178_12 is_151 rd_10 rfl (by decide) rfl ?_
        refine w_aload_n gz_178_15 rfl ?_
        refine v_getI (j := 7) gz_178_16 rfl is_151 rd_10 rfl (fun v235 ev235 pv235 qv235 => ?_)
        have zv235 := ev235.trans ev152.symm
        refine w_iald gz_178_19 is_154 rd_53 (by omega) (by omega) (fun v236 ev236 pv236 qv236 => ?_)
        refine w_imul gz_178_20 ⟨by omega, by omega⟩ ?_
        refine w_iadd gz_178_21 ⟨by omega, by omega⟩ ?_
        refine v_putI (j := 8) gz_178_22 rfl is_151 rd_10 rfl (by omega) (by omega) rfl (fun h237 fh237 => ?_)
        have gh237 : my_fr [(10, 7), (10, 8), (10, 27), (10, 32), (10, 33), (64, -1), (65, -1), (73, -1), (74, -1), (75, -1), (76, -1), (77, -1), (78, -1), (79, -1)] h h237 := my_fr.up gh149 is_151 fh237 rfl
        have Mw_h237 : Mw h237 := Mw_ag (my_ag.up fh237 is_151 rfl) Mw_h149
        have Mw3_h237 : Mw3 h237 := Mw3_ag (my_ag.up fh237 is_151 rfl) Mw3_h149
        have Tok_h237 : Tok h237 := Tok_ag (my_ag.up fh237 is_151 rfl) Tok_h149t150
        refine w_vret gz_178_25 gm_178 ?_
        show wp l rho (d + 3) 174 71 [(2, 151), (0, x1), (0, 1)] [] h237 Q
        refine w_goto (t := 155) gz_174_71 rfl ?_
        refine w_aload_n gz_174_155 rfl ?_
        refine v_getI (j := 8) gz_174_156 rfl is_151 rd_10 rfl (fun v238 ev238 pv238 qv238 => ?_)
        have zv238 := ev238.trans (my_up_self fh237)
        refine w_ifle (t := 163) gz_174_159 rfl (fun u239 => by exfalso; omega) (fun u239 => ?_)
        have r165 : ∀ j : Int, h237 165 j = h 165 j := fun j => ((my_up_role fh237 is_165 is_151 rfl).trans ((my_up_role fh149 is_165 is_151 rfl).trans ((my_fr.at frh7 is_165 rfl).trans (rfl : h 165 j = h 165 j))))
        have r166 : ∀ j : Int, h237 166 j = h 166 j := fun j => ((my_up_role fh237 is_166 is_151 rfl).trans ((my_up_role fh149 is_166 is_151 rfl).trans ((my_fr.at frh7 is_166 rfl).trans (rfl : h 166 j = h 166 j))))
        have c240 := ev238.symm
        exact w_vret gz_174_162 gm_174 (k0 h237 (gh237) (by omega) (by omega) Tok_h237 Mw_h237 Mw3_h237)
theorem c_Model_readPane_f0 {l : Launch} {rho : Nat → Int32} {d : Nat} {h : my_H} {Q : my_H → my_V → Prop} {wv : Int} (cf : h 151 8 = 0) (hwv : wv ≤ 5) (hwv0 : 0 ≤ wv) (n_Tok : Tok h) (n_Mq : Mq h wv) (n_Wrd : Wrd h) (k0 : ∀ (h' : my_H), my_fr [(10, 7), (10, 8), (10, 27), (66, -1), (67, -1), (68, -1), (69, -1), (70, -1), (71, -1), (72, -1), (73, -1), (74, -1), (75, -1), (77, -1), (78, -1), (79, -1)] h h' → 1 ≤ h' 151 8 → h' 151 8 ≤ 16005 → h 151 7 ≤ h' 151 7 → Tok h' → Mq h' wv → Wrd h' → Q h' (9, 0)) (k1 : ∀ (h' : my_H), my_fr [(10, 7), (10, 8), (10, 27), (66, -1), (67, -1), (68, -1), (69, -1), (70, -1), (71, -1), (72, -1), (73, -1), (74, -1), (75, -1), (77, -1), (78, -1), (79, -1)] h h' → 1 ≤ h' 151 7 → h' 151 7 ≤ 1001 → h' 151 8 = 0 → h 151 7 < h' 151 7 → Tok h' → Mq h' wv → Wrd h' → Q h' (9, 0)) : wp l rho (d + 4) 185 0 [(2, 151), (9, 0), (9, 0), (9, 0), (9, 0), (9, 0), (9, 0), (9, 0)] [] h Q := by
  refine v_know (x := 151) (j := 7) (b := 7) rfl is_151 rd_10 rfl (fun k151_7 ek151_7 pk151_7 qk151_7 => ?_)
  have J88_0 : ∀ (p88_0 p88_1 p88_2 p88_3 p88_4 : Int) (h88_0 : my_H), my_fr [(10, 7), (10, 8), (10, 27), (66, -1), (67, -1), (68, -1), (69, -1), (70, -1), (71, -1), (72, -1), (73, -1), (74, -1), (75, -1), (77, -1), (78, -1), (79, -1)] h h88_0 → 0 ≤ p88_0 → p88_0 ≤ 1 → 0 ≤ p88_1 → p88_1 ≤ 1 → 0 ≤ p88_2 → p88_2 ≤ 1 → 0 ≤ p88_3 → p88_3 ≤ 1 → 0 ≤ p88_4 → p88_4 ≤ 16005 → h88_0 151 7 = k151_7 → h88_0 151 8 = p88_4 → Tok h88_0 → Mq h88_0 wv → Wrd h88_0 → (h88_0 151 8 = 0 → h88_0 153 (h88_0 151 7) = 1) → (h88_0 151 8 = 0 → (p88_0 = 1 ∨ p88_1 = 1 ∨ p88_2 = 1 ∨ p88_3 = 1) → h88_0 167 6 ≤ 5) → h88_0 151 7 = h 151 7 → wp l rho (d + 4) 185 88 [(2, 151), (0, p88_0), (0, p88_1), (0, p88_2), (0, p88_3), (9, 0), (9, 0), (9, 0)] [] h88_0 Q := by
    intro p88_0 p88_1 p88_2 p88_3 p88_4 h88_0 gh_88_0 q0_88_0 q1_88_0 q2_88_0 q3_88_0 q4_88_0 q5_88_0 q6_88_0 q7_88_0 q8_88_0 q9_88_0 c151_7_88_0 c151_8_88_0 n_Tok_88_0 n_Mq_88_0 n_Wrd_88_0 wd_88_0 pn_88_0 am_88_0
    refine w_aload_n gz_185_88 rfl ?_
    refine v_getI (j := 8) gz_185_89 rfl is_151 rd_10 rfl (fun v1 ev1 pv1 qv1 => ?_)
    have zv1 := ev1.trans c151_8_88_0
    refine w_ifle (t := 96) gz_185_92 rfl (fun u2 => ?_) (fun u2 => ?_)
    ·
      refine w_aload_n gz_185_96 rfl ?_
      refine w_dup gz_185_97 rfl ?_
      refine v_getI (j := 7) gz_185_98 rfl is_151 rd_10 rfl (fun v3 ev3 pv3 qv3 => ?_)
      have zv3 := ev3.trans c151_7_88_0
      refine w_iconst gz_185_101 (by decide) ?_
      refine w_iadd gz_185_102 ⟨by omega, by omega⟩ ?_
      have w1 := wd_88_0 (by omega)
      have hi4 : 0 ≤ (v3 + 1) := by have q := Tok_at n_Tok_88_0; omega
      have hi5 : (v3 + 1) ≤ 1001 := by have q := Tok_at n_Tok_88_0; omega
      refine v_putI (j := 7) gz_185_103 rfl is_151 rd_10 rfl (by omega) (by omega) rfl (fun h6 fh6 => ?_)
      have gh6 : my_fr [(10, 7), (10, 8), (10, 27), (66, -1), (67, -1), (68, -1), (69, -1), (70, -1), (71, -1), (72, -1), (73, -1), (74, -1), (75, -1), (77, -1), (78, -1), (79, -1)] h h6 := my_fr.up gh_88_0 is_151 fh6 rfl
      have Mq_h6 : Mq h6 wv := Mq_ag (my_ag.up fh6 is_151 rfl) n_Mq_88_0
      have Wrd_h6 : Wrd h6 := Wrd_ag (my_ag.up fh6 is_151 rfl) n_Wrd_88_0
      have Tok_h6t7 : Tok h6 := Tok_inc n_Tok_88_0 (by omega) (by omega) fh6
      have k7 := my_up_self fh6
      refine w_bipush gz_185_106 (by decide) ?_
      refine w_aload_n gz_185_108 rfl ?_
      refine w_getX (v := 167) gz_185_109 is_151 rd_10 rfl (by decide) rfl ?_
      refine w_bipush gz_185_112 (by decide) ?_
      refine w_iald gz_185_114 is_167 rd_66 (by omega) (by omega) (fun v9 ev9 pv9 qv9 => ?_)
      have b167 : ∀ j : Int, h6 167 j = h88_0 167 j := fun j => ((my_up_role fh6 is_167 is_151 rfl).trans (rfl : h88_0 167 j = h88_0 167 j))
      have p5 := pn_88_0 (by omega)
      have q6 := b167 6
      refine w_iadd gz_185_115 ⟨by omega, by omega⟩ ?_
      refine w_istore (ls' := [(2, 151), (0, p88_0), (0, p88_1), (0, p88_2), (0, p88_3), (0, (36 + v9)), (9, 0), (9, 0)]) gz_185_116 gm_185 rfl rfl rfl ?_
      refine w_iload_n gz_185_118 rfl ?_
      refine w_ifeq (t := 131) gz_185_119 rfl (fun u10 => ?_) (fun u10 => ?_)
      ·
        refine w_iload_n gz_185_131 rfl ?_
        refine w_ifeq (t := 144) gz_185_132 rfl (fun u11 => ?_) (fun u11 => ?_)
        ·
          refine w_iload_n gz_185_144 rfl ?_
          refine w_ifeq (t := 157) gz_185_145 rfl (fun u12 => ?_) (fun u12 => ?_)
          ·
            refine w_iload gz_185_157 rfl ?_
            refine w_ifeq (t := 171) gz_185_159 rfl (fun u13 => ?_) (fun u13 => ?_)
            ·
              refine w_aload_n gz_185_171 rfl ?_
              refine w_aload_n gz_185_172 rfl ?_
              refine w_getX (v := 157) gz_185_173 is_151 rd_10 rfl (by decide) rfl ?_
              refine w_aload_n gz_185_176 rfl ?_
              refine v_getI (j := 33) gz_185_177 rfl is_151 rd_10 rfl (fun v15 ev15 pv15 qv15 => ?_)
              refine w_iald gz_185_180 is_157 rd_56 (by omega) (by omega) (fun v16 ev16 pv16 qv16 => ?_)
              refine w_iconst gz_185_181 (by decide) ?_
              refine w_isub gz_185_182 ⟨by omega, by omega⟩ ?_
              have ce17 : h6 151 7 = (v3 + 1) := (my_up_self fh6)
              refine w_inv (k := 0) (as := [(0, (v16 - 1))]) (r := []) (x := 151) (ls0 := [(2, 151), (0, (v16 - 1))]) gz_185_183 gm_187 rfl is_151 rd_10 rfl rfl rfl rfl rfl (c_Model_takeNumber2_f0 (d := (d + 2)) (x1 := (v16 - 1)) (by omega) (by omega) (((my_up_fld fh6 (by decide)).trans ev1.symm).trans (by omega)) Tok_h6t7 (fun h18 frh18 w19 w20 xp21 Tok_h18t22 => ?_) (fun h23 v24 frh23 w25 w26 w27 w28 w29 xp30 xp31 xp32 xp33 xp34 Tok_h23t35 => ?_))
              ·
                have gh18 : my_fr [(10, 7), (10, 8), (10, 27), (66, -1), (67, -1), (68, -1), (69, -1), (70, -1), (71, -1), (72, -1), (73, -1), (74, -1), (75, -1), (77, -1), (78, -1), (79, -1)] h h18 := my_fr.tr gh6 (frh18.mo rfl)
                have Mq_h18 : Mq h18 wv := Mq_ag (my_ag.fr frh18 rfl) Mq_h6
                have Wrd_h18 : Wrd h18 := Wrd_ag (my_ag.fr frh18 rfl) Wrd_h6
                show wp l rho (d + 4) 185 186 [(2, 151), (0, p88_0), (0, p88_1), (0, p88_2), (0, p88_3), (0, (36 + v9)), (9, 0), (9, 0)] [(0, 0)] h18 Q
                refine w_istore (ls' := [(2, 151), (0, p88_0), (0, p88_1), (0, p88_2), (0, p88_3), (0, (36 + v9)), (0, 0), (9, 0)]) gz_185_186 gm_185 rfl rfl rfl ?_
                refine w_aload_n gz_185_188 rfl ?_
                refine w_bipush gz_185_189 (by decide) ?_
                refine w_inv (k := 0) (as := [(0, 19)]) (r := []) (x := 151) (ls0 := [(2, 151), (0, 19)]) gz_185_191 gm_187 rfl is_151 rd_10 rfl rfl rfl rfl rfl (c_Model_takeNumber2_f1 (d := (d + 2)) (x1 := 19) (by omega) (by omega) ((h18 151 8)) ((rfl : h18 151 8 = h18 151 8)) (by omega) (by omega) Tok_h18t22 (fun w36 w37 xp38 Tok_h18t39 => ?_))
                show wp l rho (d + 4) 185 194 [(2, 151), (0, p88_0), (0, p88_1), (0, p88_2), (0, p88_3), (0, (36 + v9)), (0, 0), (9, 0)] [(0, 0)] h18 Q
                refine w_istore (ls' := [(2, 151), (0, p88_0), (0, p88_1), (0, p88_2), (0, p88_3), (0, (36 + v9)), (0, 0), (0, 0)]) gz_185_194 gm_185 rfl rfl rfl ?_
                refine w_aload_n gz_185_196 rfl ?_
                refine w_getX (v := 173) gz_185_197 is_151 rd_10 rfl (by decide) rfl ?_
                refine w_bipush gz_185_200 (by decide) ?_
                refine w_iload gz_185_202 rfl ?_
                refine w_iadd gz_185_204 ⟨by omega, by omega⟩ ?_
                refine w_aload_n gz_185_205 rfl ?_
                refine v_getI (j := 8) gz_185_206 rfl is_151 rd_10 rfl (fun v41 ev41 pv41 qv41 => ?_)
                have zv41 := ev41.trans (rfl : h18 151 8 = h18 151 8)
                refine w_ifne (t := 217) gz_185_209 rfl (fun u42 => ?_) (fun u42 => by exfalso; omega)
                refine w_aload_n gz_185_217 rfl ?_
                refine w_getX (v := 173) gz_185_218 is_151 rd_10 rfl (by decide) rfl ?_
                refine w_bipush gz_185_221 (by decide) ?_
                refine w_iload gz_185_223 rfl ?_
                refine w_iadd gz_185_225 ⟨by omega, by omega⟩ ?_
                have hi44 : 0 ≤ (24 + 0) := by omega
                have hi45 : (24 + 0) ≤ 27 := by omega
                refine w_iald gz_185_226 is_173 rd_72 (by omega) (by omega) (fun v46 ev46 pv46 qv46 => ?_)
                have hi47 : (-1) ≤ v46 := by omega
                have hi48 : v46 ≤ 19 := by omega
                have hi49 : 0 ≤ (24 + 0) := by omega
                have hi50 : (24 + 0) ≤ 27 := by omega
                refine w_iast gz_185_227 is_173 rd_72 (by omega) (by omega) (by omega) (by omega) (fun h51 fh51 => ?_)
                have gh51 : my_fr [(10, 7), (10, 8), (10, 27), (66, -1), (67, -1), (68, -1), (69, -1), (70, -1), (71, -1), (72, -1), (73, -1), (74, -1), (75, -1), (77, -1), (78, -1), (79, -1)] h h51 := my_fr.up gh18 is_173 fh51 rfl
                have Mq_h51 : Mq h51 wv := Mq_ag (my_ag.up fh51 is_173 rfl) Mq_h18
                have Wrd_h51 : Wrd h51 := Wrd_ag (my_ag.up fh51 is_173 rfl) Wrd_h18
                have Tok_h51 : Tok h51 := Tok_ag (my_ag.up fh51 is_173 rfl) Tok_h18t39
                refine w_aload_n gz_185_228 rfl ?_
                refine v_getI (j := 8) gz_185_229 rfl is_151 rd_10 rfl (fun v52 ev52 pv52 qv52 => ?_)
                have zv52 := ev52.trans ((my_up_role fh51 is_151 is_173 rfl).trans ev41.symm)
                refine w_ifne (t := 269) gz_185_232 rfl (fun u53 => ?_) (fun u53 => by exfalso; omega)
                refine w_aload_n gz_185_269 rfl ?_
                refine w_bipush gz_185_270 (by decide) ?_
                have ce54 : h51 151 7 = h18 151 7 := ((my_up_role fh51 is_151 is_173 rfl).trans (rfl : h18 151 7 = h18 151 7))
                refine w_inv (k := 0) (as := [(0, 59)]) (r := []) (x := 151) (ls0 := [(2, 151), (0, 59)]) gz_185_272 gm_183 rfl is_151 rd_10 rfl rfl rfl rfl rfl (c_Model_takeSign_f1 (d := (d + 2))  (v52) (ev52.symm) (by omega) (by omega) Tok_h51 (fun w55 w56 xp57 Tok_h51t58 => ?_))
                show wp l rho (d + 4) 185 275 [(2, 151), (0, p88_0), (0, p88_1), (0, p88_2), (0, p88_3), (0, (36 + v9)), (0, 0), (0, 0)] [] h51 Q
                have ce59 : h51 151 7 = h18 151 7 := ((my_up_role fh51 is_151 is_173 rfl).trans (rfl : h18 151 7 = h18 151 7))
                have c60 := ev52.symm
                exact w_vret gz_185_275 gm_185 (k0 h51 (gh51) (by omega) (by omega) (by first | assumption | omega | (subst_vars; omega) | omega) Tok_h51t58 Mq_h51 Wrd_h51)
              ·
                have gh23 : my_fr [(10, 7), (10, 8), (10, 27), (66, -1), (67, -1), (68, -1), (69, -1), (70, -1), (71, -1), (72, -1), (73, -1), (74, -1), (75, -1), (77, -1), (78, -1), (79, -1)] h h23 := my_fr.tr gh6 (frh23.mo rfl)
                have Mq_h23 : Mq h23 wv := Mq_ag (my_ag.fr frh23 rfl) Mq_h6
                have Wrd_h23 : Wrd h23 := Wrd_ag (my_ag.fr frh23 rfl) Wrd_h6
                show wp l rho (d + 4) 185 186 [(2, 151), (0, p88_0), (0, p88_1), (0, p88_2), (0, p88_3), (0, (36 + v9)), (9, 0), (9, 0)] [(0, v24)] h23 Q
                refine w_istore (ls' := [(2, 151), (0, p88_0), (0, p88_1), (0, p88_2), (0, p88_3), (0, (36 + v9)), (0, v24), (9, 0)]) gz_185_186 gm_185 rfl rfl rfl ?_
                refine w_aload_n gz_185_188 rfl ?_
                refine w_bipush gz_185_189 (by decide) ?_
                have ce61 : h23 151 7 = (h23 151 7) := (rfl : h23 151 7 = h23 151 7)
                refine w_inv (k := 0) (as := [(0, 19)]) (r := []) (x := 151) (ls0 := [(2, 151), (0, 19)]) gz_185_191 gm_187 rfl is_151 rd_10 rfl rfl rfl rfl rfl (c_Model_takeNumber2_f0 (d := (d + 2)) (x1 := 19) (by omega) (by omega) (w29.trans (by omega)) Tok_h23t35 (fun h62 frh62 w63 w64 xp65 Tok_h62t66 => ?_) (fun h67 v68 frh67 w69 w70 w71 w72 w73 xp74 xp75 xp76 xp77 xp78 Tok_h67t79 => ?_))
                ·
                  have gh62 : my_fr [(10, 7), (10, 8), (10, 27), (66, -1), (67, -1), (68, -1), (69, -1), (70, -1), (71, -1), (72, -1), (73, -1), (74, -1), (75, -1), (77, -1), (78, -1), (79, -1)] h h62 := my_fr.tr gh23 (frh62.mo rfl)
                  have Mq_h62 : Mq h62 wv := Mq_ag (my_ag.fr frh62 rfl) Mq_h23
                  have Wrd_h62 : Wrd h62 := Wrd_ag (my_ag.fr frh62 rfl) Wrd_h23
                  show wp l rho (d + 4) 185 194 [(2, 151), (0, p88_0), (0, p88_1), (0, p88_2), (0, p88_3), (0, (36 + v9)), (0, v24), (9, 0)] [(0, 0)] h62 Q
                  refine w_istore (ls' := [(2, 151), (0, p88_0), (0, p88_1), (0, p88_2), (0, p88_3), (0, (36 + v9)), (0, v24), (0, 0)]) gz_185_194 gm_185 rfl rfl rfl ?_
                  refine w_aload_n gz_185_196 rfl ?_
                  refine w_getX (v := 173) gz_185_197 is_151 rd_10 rfl (by decide) rfl ?_
                  refine w_bipush gz_185_200 (by decide) ?_
                  refine w_iload gz_185_202 rfl ?_
                  refine w_iadd gz_185_204 ⟨by omega, by omega⟩ ?_
                  refine w_aload_n gz_185_205 rfl ?_
                  refine v_getI (j := 8) gz_185_206 rfl is_151 rd_10 rfl (fun v81 ev81 pv81 qv81 => ?_)
                  have zv81 := ev81.trans (rfl : h62 151 8 = h62 151 8)
                  refine w_ifne (t := 217) gz_185_209 rfl (fun u82 => ?_) (fun u82 => by exfalso; omega)
                  refine w_aload_n gz_185_217 rfl ?_
                  refine w_getX (v := 173) gz_185_218 is_151 rd_10 rfl (by decide) rfl ?_
                  refine w_bipush gz_185_221 (by decide) ?_
                  refine w_iload gz_185_223 rfl ?_
                  refine w_iadd gz_185_225 ⟨by omega, by omega⟩ ?_
                  have hi84 : 0 ≤ (24 + v24) := by omega
                  have hi85 : (24 + v24) ≤ 27 := by omega
                  refine w_iald gz_185_226 is_173 rd_72 (by omega) (by omega) (fun v86 ev86 pv86 qv86 => ?_)
                  have hi87 : (-1) ≤ v86 := by omega
                  have hi88 : v86 ≤ 19 := by omega
                  have hi89 : 0 ≤ (24 + v24) := by omega
                  have hi90 : (24 + v24) ≤ 27 := by omega
                  refine w_iast gz_185_227 is_173 rd_72 (by omega) (by omega) (by omega) (by omega) (fun h91 fh91 => ?_)
                  have gh91 : my_fr [(10, 7), (10, 8), (10, 27), (66, -1), (67, -1), (68, -1), (69, -1), (70, -1), (71, -1), (72, -1), (73, -1), (74, -1), (75, -1), (77, -1), (78, -1), (79, -1)] h h91 := my_fr.up gh62 is_173 fh91 rfl
                  have Mq_h91 : Mq h91 wv := Mq_ag (my_ag.up fh91 is_173 rfl) Mq_h62
                  have Wrd_h91 : Wrd h91 := Wrd_ag (my_ag.up fh91 is_173 rfl) Wrd_h62
                  have Tok_h91 : Tok h91 := Tok_ag (my_ag.up fh91 is_173 rfl) Tok_h62t66
                  refine w_aload_n gz_185_228 rfl ?_
                  refine v_getI (j := 8) gz_185_229 rfl is_151 rd_10 rfl (fun v92 ev92 pv92 qv92 => ?_)
                  have zv92 := ev92.trans ((my_up_role fh91 is_151 is_173 rfl).trans ev81.symm)
                  refine w_ifne (t := 269) gz_185_232 rfl (fun u93 => ?_) (fun u93 => by exfalso; omega)
                  refine w_aload_n gz_185_269 rfl ?_
                  refine w_bipush gz_185_270 (by decide) ?_
                  have ce94 : h91 151 7 = h62 151 7 := ((my_up_role fh91 is_151 is_173 rfl).trans (rfl : h62 151 7 = h62 151 7))
                  refine w_inv (k := 0) (as := [(0, 59)]) (r := []) (x := 151) (ls0 := [(2, 151), (0, 59)]) gz_185_272 gm_183 rfl is_151 rd_10 rfl rfl rfl rfl rfl (c_Model_takeSign_f1 (d := (d + 2))  (v92) (ev92.symm) (by omega) (by omega) Tok_h91 (fun w95 w96 xp97 Tok_h91t98 => ?_))
                  show wp l rho (d + 4) 185 275 [(2, 151), (0, p88_0), (0, p88_1), (0, p88_2), (0, p88_3), (0, (36 + v9)), (0, v24), (0, 0)] [] h91 Q
                  have ce99 : h91 151 7 = h62 151 7 := ((my_up_role fh91 is_151 is_173 rfl).trans (rfl : h62 151 7 = h62 151 7))
                  have c100 := ev92.symm
                  exact w_vret gz_185_275 gm_185 (k0 h91 (gh91) (by omega) (by omega) (by first | assumption | omega | (subst_vars; omega) | omega) Tok_h91t98 Mq_h91 Wrd_h91)
                ·
                  have gh67 : my_fr [(10, 7), (10, 8), (10, 27), (66, -1), (67, -1), (68, -1), (69, -1), (70, -1), (71, -1), (72, -1), (73, -1), (74, -1), (75, -1), (77, -1), (78, -1), (79, -1)] h h67 := my_fr.tr gh23 (frh67.mo rfl)
                  have Mq_h67 : Mq h67 wv := Mq_ag (my_ag.fr frh67 rfl) Mq_h23
                  have Wrd_h67 : Wrd h67 := Wrd_ag (my_ag.fr frh67 rfl) Wrd_h23
                  show wp l rho (d + 4) 185 194 [(2, 151), (0, p88_0), (0, p88_1), (0, p88_2), (0, p88_3), (0, (36 + v9)), (0, v24), (9, 0)] [(0, v68)] h67 Q
                  refine w_istore (ls' := [(2, 151), (0, p88_0), (0, p88_1), (0, p88_2), (0, p88_3), (0, (36 + v9)), (0, v24), (0, v68)]) gz_185_194 gm_185 rfl rfl rfl ?_
                  refine w_aload_n gz_185_196 rfl ?_
                  refine w_getX (v := 173) gz_185_197 is_151 rd_10 rfl (by decide) rfl ?_
                  refine w_bipush gz_185_200 (by decide) ?_
                  refine w_iload gz_185_202 rfl ?_
                  refine w_iadd gz_185_204 ⟨by omega, by omega⟩ ?_
                  refine w_aload_n gz_185_205 rfl ?_
                  refine v_getI (j := 8) gz_185_206 rfl is_151 rd_10 rfl (fun v102 ev102 pv102 qv102 => ?_)
                  have zv102 := ev102.trans w73
                  refine w_ifne (t := 217) gz_185_209 rfl (fun u103 => by exfalso; omega) (fun u103 => ?_)
                  refine w_iload gz_185_212 rfl ?_
                  refine w_goto (t := 227) gz_185_214 rfl ?_
                  have hi104 : (-1) ≤ v68 := by omega
                  have hi105 : v68 ≤ 19 := by omega
                  have hi106 : 0 ≤ (24 + v24) := by omega
                  have hi107 : (24 + v24) ≤ 27 := by omega
                  refine w_iast gz_185_227 is_173 rd_72 (by omega) (by omega) (by omega) (by omega) (fun h108 fh108 => ?_)
                  have gh108 : my_fr [(10, 7), (10, 8), (10, 27), (66, -1), (67, -1), (68, -1), (69, -1), (70, -1), (71, -1), (72, -1), (73, -1), (74, -1), (75, -1), (77, -1), (78, -1), (79, -1)] h h108 := my_fr.up gh67 is_173 fh108 rfl
                  have Mq_h108 : Mq h108 wv := Mq_ag (my_ag.up fh108 is_173 rfl) Mq_h67
                  have Wrd_h108 : Wrd h108 := Wrd_ag (my_ag.up fh108 is_173 rfl) Wrd_h67
                  have Tok_h108 : Tok h108 := Tok_ag (my_ag.up fh108 is_173 rfl) Tok_h67t79
                  refine w_aload_n gz_185_228 rfl ?_
                  refine v_getI (j := 8) gz_185_229 rfl is_151 rd_10 rfl (fun v109 ev109 pv109 qv109 => ?_)
                  have zv109 := ev109.trans ((my_up_role fh108 is_151 is_173 rfl).trans ev102.symm)
                  refine w_ifne (t := 269) gz_185_232 rfl (fun u110 => by exfalso; omega) (fun u110 => ?_)
                  refine w_iload_n gz_185_235 rfl ?_
                  refine w_ifne (t := 252) gz_185_236 rfl (fun u111 => by exfalso; omega) (fun u111 => ?_)
                  refine w_iload_n gz_185_239 rfl ?_
                  refine w_ifne (t := 252) gz_185_240 rfl (fun u112 => by exfalso; omega) (fun u112 => ?_)
                  refine w_iload_n gz_185_243 rfl ?_
                  refine w_ifne (t := 252) gz_185_244 rfl (fun u113 => by exfalso; omega) (fun u113 => ?_)
                  refine w_iload gz_185_247 rfl ?_
                  refine w_ifeq (t := 269) gz_185_249 rfl (fun u114 => ?_) (fun u114 => by exfalso; omega)
                  refine w_aload_n gz_185_269 rfl ?_
                  refine w_bipush gz_185_270 (by decide) ?_
                  have ce115 : h108 151 7 = (h67 151 7) := ((my_up_role fh108 is_151 is_173 rfl).trans (rfl : h67 151 7 = h67 151 7))
                  refine w_inv (k := 0) (as := [(0, 59)]) (r := []) (x := 151) (ls0 := [(2, 151), (0, 59)]) gz_185_272 gm_183 rfl is_151 rd_10 rfl rfl rfl rfl rfl (c_Model_takeSign_f0 (d := (d + 2))  (ev109.symm.trans (by omega)) Tok_h108 (fun h116 frh116 w117 w118 xp119 Tok_h116t120 => ?_) (fun h121 frh121 w122 w123 w124 xp125 Tok_h121t126 => ?_))
                  ·
                    have gh116 : my_fr [(10, 7), (10, 8), (10, 27), (66, -1), (67, -1), (68, -1), (69, -1), (70, -1), (71, -1), (72, -1), (73, -1), (74, -1), (75, -1), (77, -1), (78, -1), (79, -1)] h h116 := my_fr.tr gh108 (frh116.mo rfl)
                    have Mq_h116 : Mq h116 wv := Mq_ag (my_ag.fr frh116 rfl) Mq_h108
                    have Wrd_h116 : Wrd h116 := Wrd_ag (my_ag.fr frh116 rfl) Wrd_h108
                    show wp l rho (d + 4) 185 275 [(2, 151), (0, p88_0), (0, p88_1), (0, p88_2), (0, p88_3), (0, (36 + v9)), (0, v24), (0, v68)] [] h116 Q
                    have c127 := (rfl : h116 151 8 = h116 151 8)
                    exact w_vret gz_185_275 gm_185 (k0 h116 (gh116) (by omega) (by omega) (by first | assumption | omega | (subst_vars; omega) | omega) Tok_h116t120 Mq_h116 Wrd_h116)
                  ·
                    have gh121 : my_fr [(10, 7), (10, 8), (10, 27), (66, -1), (67, -1), (68, -1), (69, -1), (70, -1), (71, -1), (72, -1), (73, -1), (74, -1), (75, -1), (77, -1), (78, -1), (79, -1)] h h121 := my_fr.tr gh108 (frh121.mo rfl)
                    have Mq_h121 : Mq h121 wv := Mq_ag (my_ag.fr frh121 rfl) Mq_h108
                    have Wrd_h121 : Wrd h121 := Wrd_ag (my_ag.fr frh121 rfl) Wrd_h108
                    show wp l rho (d + 4) 185 275 [(2, 151), (0, p88_0), (0, p88_1), (0, p88_2), (0, p88_3), (0, (36 + v9)), (0, v24), (0, v68)] [] h121 Q
                    have ce128 : h121 151 7 = (h121 151 7) := (rfl : h121 151 7 = h121 151 7)
                    have c129 := (rfl : h121 151 7 = h121 151 7)
                    have c130 := w124
                    exact w_vret gz_185_275 gm_185 (k1 h121 (gh121) (by omega) (by omega) (by omega) (by first | assumption | omega | (subst_vars; omega) | omega) Tok_h121t126 Mq_h121 Wrd_h121)
            ·
              refine w_aload_n gz_185_162 rfl ?_
              refine w_iload gz_185_163 rfl ?_
              have ce131 : h6 151 7 = (v3 + 1) := (my_up_self fh6)
              have hi132 : 36 ≤ (36 + v9) := by omega
              have hi133 : (36 + v9) ≤ 41 := by omega
              refine w_inv (k := 0) (as := [(0, (36 + v9))]) (r := []) (x := 151) (ls0 := [(2, 151), (0, (36 + v9))]) gz_185_165 gm_190 rfl is_151 rd_10 rfl rfl rfl rfl rfl (c_Model_readSum2_f0 (d := d) (x1 := (36 + v9)) (wv := wv) (by omega) (by omega) (((my_up_fld fh6 (by decide)).trans ev1.symm).trans (by omega)) (by first | assumption | omega) (by first | assumption | omega) Tok_h6t7 Mq_h6 (by first | assumption | omega | (subst_vars; omega) | omega) (fun h134 frh134 w135 w136 xp137 Tok_h134t138 Mq_h134t139 => ?_) (fun h140 frh140 w141 w142 w143 xp144 xp145 xp146 Tok_h140t147 Mq_h140t148 => ?_))
              ·
                have gh134 : my_fr [(10, 7), (10, 8), (10, 27), (66, -1), (67, -1), (68, -1), (69, -1), (70, -1), (71, -1), (72, -1), (73, -1), (74, -1), (75, -1), (77, -1), (78, -1), (79, -1)] h h134 := my_fr.tr gh6 (frh134.mo rfl)
                have Wrd_h134 : Wrd h134 := Wrd_ag (my_ag.fr frh134 rfl) Wrd_h6
                show wp l rho (d + 4) 185 168 [(2, 151), (0, p88_0), (0, p88_1), (0, p88_2), (0, p88_3), (0, (36 + v9)), (9, 0), (9, 0)] [] h134 Q
                have pk := xp137
                refine w_goto (t := 228) gz_185_168 rfl ?_
                refine w_aload_n gz_185_228 rfl ?_
                refine v_getI (j := 8) gz_185_229 rfl is_151 rd_10 rfl (fun v149 ev149 pv149 qv149 => ?_)
                have zv149 := ev149.trans (rfl : h134 151 8 = h134 151 8)
                refine w_ifne (t := 269) gz_185_232 rfl (fun u150 => ?_) (fun u150 => by exfalso; omega)
                refine w_aload_n gz_185_269 rfl ?_
                refine w_bipush gz_185_270 (by decide) ?_
                refine w_inv (k := 0) (as := [(0, 59)]) (r := []) (x := 151) (ls0 := [(2, 151), (0, 59)]) gz_185_272 gm_183 rfl is_151 rd_10 rfl rfl rfl rfl rfl (c_Model_takeSign_f1 (d := (d + 2))  (v149) (ev149.symm) (by omega) (by omega) Tok_h134t138 (fun w151 w152 xp153 Tok_h134t154 => ?_))
                show wp l rho (d + 4) 185 275 [(2, 151), (0, p88_0), (0, p88_1), (0, p88_2), (0, p88_3), (0, (36 + v9)), (9, 0), (9, 0)] [] h134 Q
                have c155 := ev149.symm
                exact w_vret gz_185_275 gm_185 (k0 h134 (gh134) (by omega) (by omega) (by first | assumption | omega | (subst_vars; omega) | omega) Tok_h134t154 Mq_h134t139 Wrd_h134)
              ·
                have gh140 : my_fr [(10, 7), (10, 8), (10, 27), (66, -1), (67, -1), (68, -1), (69, -1), (70, -1), (71, -1), (72, -1), (73, -1), (74, -1), (75, -1), (77, -1), (78, -1), (79, -1)] h h140 := my_fr.tr gh6 (frh140.mo rfl)
                have Wrd_h140 : Wrd h140 := Wrd_ag (my_ag.fr frh140 rfl) Wrd_h6
                show wp l rho (d + 4) 185 168 [(2, 151), (0, p88_0), (0, p88_1), (0, p88_2), (0, p88_3), (0, (36 + v9)), (9, 0), (9, 0)] [] h140 Q
                have pk := xp144
                have pk3 := xp145
                refine w_goto (t := 228) gz_185_168 rfl ?_
                refine w_aload_n gz_185_228 rfl ?_
                refine v_getI (j := 8) gz_185_229 rfl is_151 rd_10 rfl (fun v156 ev156 pv156 qv156 => ?_)
                have zv156 := ev156.trans w143
                refine w_ifne (t := 269) gz_185_232 rfl (fun u157 => by exfalso; omega) (fun u157 => ?_)
                refine w_iload_n gz_185_235 rfl ?_
                refine w_ifne (t := 252) gz_185_236 rfl (fun u158 => by exfalso; omega) (fun u158 => ?_)
                refine w_iload_n gz_185_239 rfl ?_
                refine w_ifne (t := 252) gz_185_240 rfl (fun u159 => by exfalso; omega) (fun u159 => ?_)
                refine w_iload_n gz_185_243 rfl ?_
                refine w_ifne (t := 252) gz_185_244 rfl (fun u160 => by exfalso; omega) (fun u160 => ?_)
                refine w_iload gz_185_247 rfl ?_
                refine w_ifeq (t := 269) gz_185_249 rfl (fun u161 => by exfalso; omega) (fun u161 => ?_)
                refine w_aload_n gz_185_252 rfl ?_
                refine w_iload gz_185_253 rfl ?_
                have d167 : ∀ j : Int, h140 167 j = h88_0 167 j := fun j => ((my_fr.at frh140 is_167 rfl).trans ((my_up_role fh6 is_167 is_151 rfl).trans (rfl : h88_0 167 j = h88_0 167 j)))
                have d6 := d167 6
                have mr0 := Mq_h140t148
                refine w_inv (k := 1) (as := [(0, (36 + v9))]) (r := []) (x := 151) (ls0 := [(2, 151), (0, (36 + v9)), (9, 0)]) gz_185_255 gm_182 rfl is_151 rd_10 rfl rfl rfl rfl rfl (c_Model_pane2_f0 (d := (d + 3)) (x1 := (36 + v9)) (by omega) (by omega) (ev156.symm.trans (by omega)) (pk.1) (fun h162 frh162 w163 xp164 xp165 => ?_))
                have gh162 : my_fr [(10, 7), (10, 8), (10, 27), (66, -1), (67, -1), (68, -1), (69, -1), (70, -1), (71, -1), (72, -1), (73, -1), (74, -1), (75, -1), (77, -1), (78, -1), (79, -1)] h h162 := my_fr.tr gh140 (frh162.mo rfl)
                have Wrd_h162 : Wrd h162 := Wrd_ag (my_ag.fr frh162 rfl) Wrd_h140
                have Tok_h162 : Tok h162 := Tok_ag (my_ag.fr frh162 rfl) Tok_h140t147
                show wp l rho (d + 4) 185 258 [(2, 151), (0, p88_0), (0, p88_1), (0, p88_2), (0, p88_3), (0, (36 + v9)), (9, 0), (9, 0)] [] h162 Q
                have ag0 : my_ag M3F h140 h162 := my_ag.fr frh162 rfl
                have e27 := xp164
                have e67 : h162 167 6 = h140 167 6 := ag0.at mis_167 rfl
                refine w_aload_n gz_185_258 rfl ?_
                refine w_getX (v := 167) gz_185_259 is_151 rd_10 rfl (by decide) rfl ?_
                refine w_bipush gz_185_262 (by decide) ?_
                refine w_dup2 gz_185_264 rfl rfl ?_
                refine w_iald gz_185_265 is_167 rd_66 (by omega) (by omega) (fun v167 ev167 pv167 qv167 => ?_)
                have zv167 := ev167.trans ((my_fr.at frh162 is_167 rfl).trans ((my_fr.at frh140 is_167 rfl).trans ev9.symm))
                refine w_iconst gz_185_266 (by decide) ?_
                refine w_iadd gz_185_267 ⟨by omega, by omega⟩ ?_
                have hi168 : 0 ≤ (v167 + 1) := by omega
                have hi169 : (v167 + 1) ≤ 6 := by omega
                refine w_iast gz_185_268 is_167 rd_66 (by omega) (by omega) (by omega) (by omega) (fun h170 fh170 => ?_)
                have gh170 : my_fr [(10, 7), (10, 8), (10, 27), (66, -1), (67, -1), (68, -1), (69, -1), (70, -1), (71, -1), (72, -1), (73, -1), (74, -1), (75, -1), (77, -1), (78, -1), (79, -1)] h h170 := my_fr.up gh162 is_167 fh170 rfl
                have Wrd_h170 : Wrd h170 := Wrd_ag (my_ag.up fh170 is_167 rfl) Wrd_h162
                have Tok_h170 : Tok h170 := Tok_ag (my_ag.up fh170 is_167 rfl) Tok_h162
                have Mq_h170t171 : Mq h170 wv := Mq_add mr0 (by omega) pk pk3 ag0 e27 fh170 (by omega) (by omega)
                refine w_aload_n gz_185_269 rfl ?_
                refine w_bipush gz_185_270 (by decide) ?_
                have ce172 : h170 151 7 = (h140 151 7) := ((my_up_role fh170 is_151 is_167 rfl).trans ((my_fr.at frh162 is_151 rfl).trans (rfl : h140 151 7 = h140 151 7)))
                refine w_inv (k := 0) (as := [(0, 59)]) (r := []) (x := 151) (ls0 := [(2, 151), (0, 59)]) gz_185_272 gm_183 rfl is_151 rd_10 rfl rfl rfl rfl rfl (c_Model_takeSign_f0 (d := (d + 2))  (((my_up_role fh170 is_151 is_167 rfl).trans ((my_fr.at frh162 is_151 rfl).trans ev156.symm)).trans (by omega)) Tok_h170 (fun h173 frh173 w174 w175 xp176 Tok_h173t177 => ?_) (fun h178 frh178 w179 w180 w181 xp182 Tok_h178t183 => ?_))
                ·
                  have gh173 : my_fr [(10, 7), (10, 8), (10, 27), (66, -1), (67, -1), (68, -1), (69, -1), (70, -1), (71, -1), (72, -1), (73, -1), (74, -1), (75, -1), (77, -1), (78, -1), (79, -1)] h h173 := my_fr.tr gh170 (frh173.mo rfl)
                  have Wrd_h173 : Wrd h173 := Wrd_ag (my_ag.fr frh173 rfl) Wrd_h170
                  have Mq_h173 : Mq h173 wv := Mq_ag (my_ag.fr frh173 rfl) Mq_h170t171
                  show wp l rho (d + 4) 185 275 [(2, 151), (0, p88_0), (0, p88_1), (0, p88_2), (0, p88_3), (0, (36 + v9)), (9, 0), (9, 0)] [] h173 Q
                  have c184 := (rfl : h173 151 8 = h173 151 8)
                  exact w_vret gz_185_275 gm_185 (k0 h173 (gh173) (by omega) (by omega) (by first | assumption | omega | (subst_vars; omega) | omega) Tok_h173t177 Mq_h173 Wrd_h173)
                ·
                  have gh178 : my_fr [(10, 7), (10, 8), (10, 27), (66, -1), (67, -1), (68, -1), (69, -1), (70, -1), (71, -1), (72, -1), (73, -1), (74, -1), (75, -1), (77, -1), (78, -1), (79, -1)] h h178 := my_fr.tr gh170 (frh178.mo rfl)
                  have Wrd_h178 : Wrd h178 := Wrd_ag (my_ag.fr frh178 rfl) Wrd_h170
                  have Mq_h178 : Mq h178 wv := Mq_ag (my_ag.fr frh178 rfl) Mq_h170t171
                  show wp l rho (d + 4) 185 275 [(2, 151), (0, p88_0), (0, p88_1), (0, p88_2), (0, p88_3), (0, (36 + v9)), (9, 0), (9, 0)] [] h178 Q
                  have ce185 : h178 151 7 = (h178 151 7) := (rfl : h178 151 7 = h178 151 7)
                  have c186 := (rfl : h178 151 7 = h178 151 7)
                  have c187 := w181
                  exact w_vret gz_185_275 gm_185 (k1 h178 (gh178) (by omega) (by omega) (by omega) (by first | assumption | omega | (subst_vars; omega) | omega) Tok_h178t183 Mq_h178 Wrd_h178)
          ·
            refine w_aload_n gz_185_148 rfl ?_
            refine w_iload gz_185_149 rfl ?_
            have ce188 : h6 151 7 = (v3 + 1) := (my_up_self fh6)
            have hi189 : 36 ≤ (36 + v9) := by omega
            have hi190 : (36 + v9) ≤ 41 := by omega
            refine w_inv (k := 1) (as := [(0, (36 + v9))]) (r := []) (x := 151) (ls0 := [(2, 151), (0, (36 + v9)), (9, 0)]) gz_185_151 gm_189 rfl is_151 rd_10 rfl rfl rfl rfl rfl (c_Model_readJoin_f0 (d := d) (x1 := (36 + v9)) (wv := wv) (by omega) (by omega) (((my_up_fld fh6 (by decide)).trans ev1.symm).trans (by omega)) (by first | assumption | omega) (by first | assumption | omega) Tok_h6t7 Mq_h6 (by first | assumption | omega | (subst_vars; omega) | omega) (fun h191 frh191 w192 w193 xp194 Tok_h191t195 Mq_h191t196 => ?_) (fun h197 frh197 w198 w199 w200 xp201 xp202 xp203 Tok_h197t204 Mq_h197t205 => ?_))
            ·
              have gh191 : my_fr [(10, 7), (10, 8), (10, 27), (66, -1), (67, -1), (68, -1), (69, -1), (70, -1), (71, -1), (72, -1), (73, -1), (74, -1), (75, -1), (77, -1), (78, -1), (79, -1)] h h191 := my_fr.tr gh6 (frh191.mo rfl)
              have Wrd_h191 : Wrd h191 := Wrd_ag (my_ag.fr frh191 rfl) Wrd_h6
              show wp l rho (d + 4) 185 154 [(2, 151), (0, p88_0), (0, p88_1), (0, p88_2), (0, p88_3), (0, (36 + v9)), (9, 0), (9, 0)] [] h191 Q
              have pk := xp194
              refine w_goto (t := 228) gz_185_154 rfl ?_
              refine w_aload_n gz_185_228 rfl ?_
              refine v_getI (j := 8) gz_185_229 rfl is_151 rd_10 rfl (fun v206 ev206 pv206 qv206 => ?_)
              have zv206 := ev206.trans (rfl : h191 151 8 = h191 151 8)
              refine w_ifne (t := 269) gz_185_232 rfl (fun u207 => ?_) (fun u207 => by exfalso; omega)
              refine w_aload_n gz_185_269 rfl ?_
              refine w_bipush gz_185_270 (by decide) ?_
              refine w_inv (k := 0) (as := [(0, 59)]) (r := []) (x := 151) (ls0 := [(2, 151), (0, 59)]) gz_185_272 gm_183 rfl is_151 rd_10 rfl rfl rfl rfl rfl (c_Model_takeSign_f1 (d := (d + 2))  (v206) (ev206.symm) (by omega) (by omega) Tok_h191t195 (fun w208 w209 xp210 Tok_h191t211 => ?_))
              show wp l rho (d + 4) 185 275 [(2, 151), (0, p88_0), (0, p88_1), (0, p88_2), (0, p88_3), (0, (36 + v9)), (9, 0), (9, 0)] [] h191 Q
              have c212 := ev206.symm
              exact w_vret gz_185_275 gm_185 (k0 h191 (gh191) (by omega) (by omega) (by first | assumption | omega | (subst_vars; omega) | omega) Tok_h191t211 Mq_h191t196 Wrd_h191)
            ·
              have gh197 : my_fr [(10, 7), (10, 8), (10, 27), (66, -1), (67, -1), (68, -1), (69, -1), (70, -1), (71, -1), (72, -1), (73, -1), (74, -1), (75, -1), (77, -1), (78, -1), (79, -1)] h h197 := my_fr.tr gh6 (frh197.mo rfl)
              have Wrd_h197 : Wrd h197 := Wrd_ag (my_ag.fr frh197 rfl) Wrd_h6
              show wp l rho (d + 4) 185 154 [(2, 151), (0, p88_0), (0, p88_1), (0, p88_2), (0, p88_3), (0, (36 + v9)), (9, 0), (9, 0)] [] h197 Q
              have pk := xp201
              have pk3 := xp202
              refine w_goto (t := 228) gz_185_154 rfl ?_
              refine w_aload_n gz_185_228 rfl ?_
              refine v_getI (j := 8) gz_185_229 rfl is_151 rd_10 rfl (fun v213 ev213 pv213 qv213 => ?_)
              have zv213 := ev213.trans w200
              refine w_ifne (t := 269) gz_185_232 rfl (fun u214 => by exfalso; omega) (fun u214 => ?_)
              refine w_iload_n gz_185_235 rfl ?_
              refine w_ifne (t := 252) gz_185_236 rfl (fun u215 => by exfalso; omega) (fun u215 => ?_)
              refine w_iload_n gz_185_239 rfl ?_
              refine w_ifne (t := 252) gz_185_240 rfl (fun u216 => by exfalso; omega) (fun u216 => ?_)
              refine w_iload_n gz_185_243 rfl ?_
              refine w_ifne (t := 252) gz_185_244 rfl (fun u217 => ?_) (fun u217 => by exfalso; omega)
              refine w_aload_n gz_185_252 rfl ?_
              refine w_iload gz_185_253 rfl ?_
              have d167 : ∀ j : Int, h197 167 j = h88_0 167 j := fun j => ((my_fr.at frh197 is_167 rfl).trans ((my_up_role fh6 is_167 is_151 rfl).trans (rfl : h88_0 167 j = h88_0 167 j)))
              have d6 := d167 6
              have mr0 := Mq_h197t205
              refine w_inv (k := 1) (as := [(0, (36 + v9))]) (r := []) (x := 151) (ls0 := [(2, 151), (0, (36 + v9)), (9, 0)]) gz_185_255 gm_182 rfl is_151 rd_10 rfl rfl rfl rfl rfl (c_Model_pane2_f0 (d := (d + 3)) (x1 := (36 + v9)) (by omega) (by omega) (ev213.symm.trans (by omega)) (pk.1) (fun h218 frh218 w219 xp220 xp221 => ?_))
              have gh218 : my_fr [(10, 7), (10, 8), (10, 27), (66, -1), (67, -1), (68, -1), (69, -1), (70, -1), (71, -1), (72, -1), (73, -1), (74, -1), (75, -1), (77, -1), (78, -1), (79, -1)] h h218 := my_fr.tr gh197 (frh218.mo rfl)
              have Wrd_h218 : Wrd h218 := Wrd_ag (my_ag.fr frh218 rfl) Wrd_h197
              have Tok_h218 : Tok h218 := Tok_ag (my_ag.fr frh218 rfl) Tok_h197t204
              show wp l rho (d + 4) 185 258 [(2, 151), (0, p88_0), (0, p88_1), (0, p88_2), (0, p88_3), (0, (36 + v9)), (9, 0), (9, 0)] [] h218 Q
              have ag0 : my_ag M3F h197 h218 := my_ag.fr frh218 rfl
              have e27 := xp220
              have e67 : h218 167 6 = h197 167 6 := ag0.at mis_167 rfl
              refine w_aload_n gz_185_258 rfl ?_
              refine w_getX (v := 167) gz_185_259 is_151 rd_10 rfl (by decide) rfl ?_
              refine w_bipush gz_185_262 (by decide) ?_
              refine w_dup2 gz_185_264 rfl rfl ?_
              refine w_iald gz_185_265 is_167 rd_66 (by omega) (by omega) (fun v223 ev223 pv223 qv223 => ?_)
              have zv223 := ev223.trans ((my_fr.at frh218 is_167 rfl).trans ((my_fr.at frh197 is_167 rfl).trans ev9.symm))
              refine w_iconst gz_185_266 (by decide) ?_
              refine w_iadd gz_185_267 ⟨by omega, by omega⟩ ?_
              have hi224 : 0 ≤ (v223 + 1) := by omega
              have hi225 : (v223 + 1) ≤ 6 := by omega
              refine w_iast gz_185_268 is_167 rd_66 (by omega) (by omega) (by omega) (by omega) (fun h226 fh226 => ?_)
              have gh226 : my_fr [(10, 7), (10, 8), (10, 27), (66, -1), (67, -1), (68, -1), (69, -1), (70, -1), (71, -1), (72, -1), (73, -1), (74, -1), (75, -1), (77, -1), (78, -1), (79, -1)] h h226 := my_fr.up gh218 is_167 fh226 rfl
              have Wrd_h226 : Wrd h226 := Wrd_ag (my_ag.up fh226 is_167 rfl) Wrd_h218
              have Tok_h226 : Tok h226 := Tok_ag (my_ag.up fh226 is_167 rfl) Tok_h218
              have Mq_h226t227 : Mq h226 wv := Mq_add mr0 (by omega) pk pk3 ag0 e27 fh226 (by omega) (by omega)
              refine w_aload_n gz_185_269 rfl ?_
              refine w_bipush gz_185_270 (by decide) ?_
              have ce228 : h226 151 7 = (h197 151 7) := ((my_up_role fh226 is_151 is_167 rfl).trans ((my_fr.at frh218 is_151 rfl).trans (rfl : h197 151 7 = h197 151 7)))
              refine w_inv (k := 0) (as := [(0, 59)]) (r := []) (x := 151) (ls0 := [(2, 151), (0, 59)]) gz_185_272 gm_183 rfl is_151 rd_10 rfl rfl rfl rfl rfl (c_Model_takeSign_f0 (d := (d + 2))  (((my_up_role fh226 is_151 is_167 rfl).trans ((my_fr.at frh218 is_151 rfl).trans ev213.symm)).trans (by omega)) Tok_h226 (fun h229 frh229 w230 w231 xp232 Tok_h229t233 => ?_) (fun h234 frh234 w235 w236 w237 xp238 Tok_h234t239 => ?_))
              ·
                have gh229 : my_fr [(10, 7), (10, 8), (10, 27), (66, -1), (67, -1), (68, -1), (69, -1), (70, -1), (71, -1), (72, -1), (73, -1), (74, -1), (75, -1), (77, -1), (78, -1), (79, -1)] h h229 := my_fr.tr gh226 (frh229.mo rfl)
                have Wrd_h229 : Wrd h229 := Wrd_ag (my_ag.fr frh229 rfl) Wrd_h226
                have Mq_h229 : Mq h229 wv := Mq_ag (my_ag.fr frh229 rfl) Mq_h226t227
                show wp l rho (d + 4) 185 275 [(2, 151), (0, p88_0), (0, p88_1), (0, p88_2), (0, p88_3), (0, (36 + v9)), (9, 0), (9, 0)] [] h229 Q
                have c240 := (rfl : h229 151 8 = h229 151 8)
                exact w_vret gz_185_275 gm_185 (k0 h229 (gh229) (by omega) (by omega) (by first | assumption | omega | (subst_vars; omega) | omega) Tok_h229t233 Mq_h229 Wrd_h229)
              ·
                have gh234 : my_fr [(10, 7), (10, 8), (10, 27), (66, -1), (67, -1), (68, -1), (69, -1), (70, -1), (71, -1), (72, -1), (73, -1), (74, -1), (75, -1), (77, -1), (78, -1), (79, -1)] h h234 := my_fr.tr gh226 (frh234.mo rfl)
                have Wrd_h234 : Wrd h234 := Wrd_ag (my_ag.fr frh234 rfl) Wrd_h226
                have Mq_h234 : Mq h234 wv := Mq_ag (my_ag.fr frh234 rfl) Mq_h226t227
                show wp l rho (d + 4) 185 275 [(2, 151), (0, p88_0), (0, p88_1), (0, p88_2), (0, p88_3), (0, (36 + v9)), (9, 0), (9, 0)] [] h234 Q
                have ce241 : h234 151 7 = (h234 151 7) := (rfl : h234 151 7 = h234 151 7)
                have c242 := (rfl : h234 151 7 = h234 151 7)
                have c243 := w237
                exact w_vret gz_185_275 gm_185 (k1 h234 (gh234) (by omega) (by omega) (by omega) (by first | assumption | omega | (subst_vars; omega) | omega) Tok_h234t239 Mq_h234 Wrd_h234)
        ·
          refine w_aload_n gz_185_135 rfl ?_
          refine w_iload gz_185_136 rfl ?_
          have ce244 : h6 151 7 = (v3 + 1) := (my_up_self fh6)
          have hi245 : 36 ≤ (36 + v9) := by omega
          have hi246 : (36 + v9) ≤ 41 := by omega
          refine w_inv (k := 3) (as := [(0, (36 + v9))]) (r := []) (x := 151) (ls0 := [(2, 151), (0, (36 + v9)), (9, 0), (9, 0), (9, 0)]) gz_185_138 gm_188 rfl is_151 rd_10 rfl rfl rfl rfl rfl (c_Model_readFew_f0 (d := (d + 1)) (x1 := (36 + v9)) (wv := wv) (by omega) (by omega) (((my_up_fld fh6 (by decide)).trans ev1.symm).trans (by omega)) (by first | assumption | omega) (by first | assumption | omega) Tok_h6t7 Mq_h6 (by first | assumption | omega | (subst_vars; omega) | omega) (fun h247 frh247 xp248 xp249 xp250 Tok_h247t251 Mq_h247t252 => ?_))
          have gh247 : my_fr [(10, 7), (10, 8), (10, 27), (66, -1), (67, -1), (68, -1), (69, -1), (70, -1), (71, -1), (72, -1), (73, -1), (74, -1), (75, -1), (77, -1), (78, -1), (79, -1)] h h247 := my_fr.tr gh6 (frh247.mo rfl)
          have Wrd_h247 : Wrd h247 := Wrd_ag (my_ag.fr frh247 rfl) Wrd_h6
          show wp l rho (d + 4) 185 141 [(2, 151), (0, p88_0), (0, p88_1), (0, p88_2), (0, p88_3), (0, (36 + v9)), (9, 0), (9, 0)] [] h247 Q
          have pk := xp248
          have pk3 := xp249
          refine w_goto (t := 228) gz_185_141 rfl ?_
          refine w_aload_n gz_185_228 rfl ?_
          refine v_getI (j := 8) gz_185_229 rfl is_151 rd_10 rfl (fun v253 ev253 pv253 qv253 => ?_)
          refine w_ifne (t := 269) gz_185_232 rfl (fun u254 => ?_) (fun u254 => ?_)
          ·
            refine w_aload_n gz_185_269 rfl ?_
            refine w_bipush gz_185_270 (by decide) ?_
            refine w_inv (k := 0) (as := [(0, 59)]) (r := []) (x := 151) (ls0 := [(2, 151), (0, 59)]) gz_185_272 gm_183 rfl is_151 rd_10 rfl rfl rfl rfl rfl (c_Model_takeSign_f1 (d := (d + 2))  (v253) (ev253.symm) (by omega) (by omega) Tok_h247t251 (fun w255 w256 xp257 Tok_h247t258 => ?_))
            show wp l rho (d + 4) 185 275 [(2, 151), (0, p88_0), (0, p88_1), (0, p88_2), (0, p88_3), (0, (36 + v9)), (9, 0), (9, 0)] [] h247 Q
            have c259 := ev253.symm
            exact w_vret gz_185_275 gm_185 (k0 h247 (gh247) (by omega) (by omega) (by first | assumption | omega | (subst_vars; omega) | omega) Tok_h247t258 Mq_h247t252 Wrd_h247)
          ·
            refine w_iload_n gz_185_235 rfl ?_
            refine w_ifne (t := 252) gz_185_236 rfl (fun u260 => by exfalso; omega) (fun u260 => ?_)
            refine w_iload_n gz_185_239 rfl ?_
            refine w_ifne (t := 252) gz_185_240 rfl (fun u261 => ?_) (fun u261 => by exfalso; omega)
            refine w_aload_n gz_185_252 rfl ?_
            refine w_iload gz_185_253 rfl ?_
            have d167 : ∀ j : Int, h247 167 j = h88_0 167 j := fun j => ((my_fr.at frh247 is_167 rfl).trans ((my_up_role fh6 is_167 is_151 rfl).trans (rfl : h88_0 167 j = h88_0 167 j)))
            have d6 := d167 6
            have mr0 := Mq_h247t252
            refine w_inv (k := 1) (as := [(0, (36 + v9))]) (r := []) (x := 151) (ls0 := [(2, 151), (0, (36 + v9)), (9, 0)]) gz_185_255 gm_182 rfl is_151 rd_10 rfl rfl rfl rfl rfl (c_Model_pane2_f0 (d := (d + 3)) (x1 := (36 + v9)) (by omega) (by omega) (ev253.symm.trans (by omega)) (pk.1) (fun h262 frh262 w263 xp264 xp265 => ?_))
            have gh262 : my_fr [(10, 7), (10, 8), (10, 27), (66, -1), (67, -1), (68, -1), (69, -1), (70, -1), (71, -1), (72, -1), (73, -1), (74, -1), (75, -1), (77, -1), (78, -1), (79, -1)] h h262 := my_fr.tr gh247 (frh262.mo rfl)
            have Wrd_h262 : Wrd h262 := Wrd_ag (my_ag.fr frh262 rfl) Wrd_h247
            have Tok_h262 : Tok h262 := Tok_ag (my_ag.fr frh262 rfl) Tok_h247t251
            show wp l rho (d + 4) 185 258 [(2, 151), (0, p88_0), (0, p88_1), (0, p88_2), (0, p88_3), (0, (36 + v9)), (9, 0), (9, 0)] [] h262 Q
            have ag0 : my_ag M3F h247 h262 := my_ag.fr frh262 rfl
            have e27 := xp264
            have e67 : h262 167 6 = h247 167 6 := ag0.at mis_167 rfl
            refine w_aload_n gz_185_258 rfl ?_
            refine w_getX (v := 167) gz_185_259 is_151 rd_10 rfl (by decide) rfl ?_
            refine w_bipush gz_185_262 (by decide) ?_
            refine w_dup2 gz_185_264 rfl rfl ?_
            refine w_iald gz_185_265 is_167 rd_66 (by omega) (by omega) (fun v267 ev267 pv267 qv267 => ?_)
            have zv267 := ev267.trans ((my_fr.at frh262 is_167 rfl).trans ((my_fr.at frh247 is_167 rfl).trans ev9.symm))
            refine w_iconst gz_185_266 (by decide) ?_
            refine w_iadd gz_185_267 ⟨by omega, by omega⟩ ?_
            have hi268 : 0 ≤ (v267 + 1) := by omega
            have hi269 : (v267 + 1) ≤ 6 := by omega
            refine w_iast gz_185_268 is_167 rd_66 (by omega) (by omega) (by omega) (by omega) (fun h270 fh270 => ?_)
            have gh270 : my_fr [(10, 7), (10, 8), (10, 27), (66, -1), (67, -1), (68, -1), (69, -1), (70, -1), (71, -1), (72, -1), (73, -1), (74, -1), (75, -1), (77, -1), (78, -1), (79, -1)] h h270 := my_fr.up gh262 is_167 fh270 rfl
            have Wrd_h270 : Wrd h270 := Wrd_ag (my_ag.up fh270 is_167 rfl) Wrd_h262
            have Tok_h270 : Tok h270 := Tok_ag (my_ag.up fh270 is_167 rfl) Tok_h262
            have Mq_h270t271 : Mq h270 wv := Mq_add mr0 (by omega) pk pk3 ag0 e27 fh270 (by omega) (by omega)
            refine w_aload_n gz_185_269 rfl ?_
            refine w_bipush gz_185_270 (by decide) ?_
            have ce272 : h270 151 7 = h247 151 7 := ((my_up_role fh270 is_151 is_167 rfl).trans ((my_fr.at frh262 is_151 rfl).trans (rfl : h247 151 7 = h247 151 7)))
            refine w_inv (k := 0) (as := [(0, 59)]) (r := []) (x := 151) (ls0 := [(2, 151), (0, 59)]) gz_185_272 gm_183 rfl is_151 rd_10 rfl rfl rfl rfl rfl (c_Model_takeSign_f0 (d := (d + 2))  (((my_up_role fh270 is_151 is_167 rfl).trans ((my_fr.at frh262 is_151 rfl).trans ev253.symm)).trans (by omega)) Tok_h270 (fun h273 frh273 w274 w275 xp276 Tok_h273t277 => ?_) (fun h278 frh278 w279 w280 w281 xp282 Tok_h278t283 => ?_))
            ·
              have gh273 : my_fr [(10, 7), (10, 8), (10, 27), (66, -1), (67, -1), (68, -1), (69, -1), (70, -1), (71, -1), (72, -1), (73, -1), (74, -1), (75, -1), (77, -1), (78, -1), (79, -1)] h h273 := my_fr.tr gh270 (frh273.mo rfl)
              have Wrd_h273 : Wrd h273 := Wrd_ag (my_ag.fr frh273 rfl) Wrd_h270
              have Mq_h273 : Mq h273 wv := Mq_ag (my_ag.fr frh273 rfl) Mq_h270t271
              show wp l rho (d + 4) 185 275 [(2, 151), (0, p88_0), (0, p88_1), (0, p88_2), (0, p88_3), (0, (36 + v9)), (9, 0), (9, 0)] [] h273 Q
              have c284 := (rfl : h273 151 8 = h273 151 8)
              exact w_vret gz_185_275 gm_185 (k0 h273 (gh273) (by omega) (by omega) (by first | assumption | omega | (subst_vars; omega) | omega) Tok_h273t277 Mq_h273 Wrd_h273)
            ·
              have gh278 : my_fr [(10, 7), (10, 8), (10, 27), (66, -1), (67, -1), (68, -1), (69, -1), (70, -1), (71, -1), (72, -1), (73, -1), (74, -1), (75, -1), (77, -1), (78, -1), (79, -1)] h h278 := my_fr.tr gh270 (frh278.mo rfl)
              have Wrd_h278 : Wrd h278 := Wrd_ag (my_ag.fr frh278 rfl) Wrd_h270
              have Mq_h278 : Mq h278 wv := Mq_ag (my_ag.fr frh278 rfl) Mq_h270t271
              show wp l rho (d + 4) 185 275 [(2, 151), (0, p88_0), (0, p88_1), (0, p88_2), (0, p88_3), (0, (36 + v9)), (9, 0), (9, 0)] [] h278 Q
              have ce285 : h278 151 7 = (h278 151 7) := (rfl : h278 151 7 = h278 151 7)
              have c286 := (rfl : h278 151 7 = h278 151 7)
              have c287 := w281
              exact w_vret gz_185_275 gm_185 (k1 h278 (gh278) (by omega) (by omega) (by omega) (by first | assumption | omega | (subst_vars; omega) | omega) Tok_h278t283 Mq_h278 Wrd_h278)
      ·
        refine w_aload_n gz_185_122 rfl ?_
        refine w_iload gz_185_123 rfl ?_
        have ce288 : h6 151 7 = (v3 + 1) := (my_up_self fh6)
        have hi289 : 36 ≤ (36 + v9) := by omega
        have hi290 : (36 + v9) ≤ 41 := by omega
        refine w_inv (k := 2) (as := [(0, (36 + v9))]) (r := []) (x := 151) (ls0 := [(2, 151), (0, (36 + v9)), (9, 0), (9, 0)]) gz_185_125 gm_186 rfl is_151 rd_10 rfl rfl rfl rfl rfl (c_Model_readCut2_f0 (d := (d + 1)) (x1 := (36 + v9)) (wv := wv) (by omega) (by omega) (((my_up_fld fh6 (by decide)).trans ev1.symm).trans (by omega)) (by first | assumption | omega) (by first | assumption | omega) Tok_h6t7 Mq_h6 (by first | assumption | omega | (subst_vars; omega) | omega) (fun h291 frh291 w292 w293 xp294 Tok_h291t295 Mq_h291t296 => ?_) (fun h297 frh297 w298 w299 w300 xp301 xp302 xp303 Tok_h297t304 Mq_h297t305 => ?_))
        ·
          have gh291 : my_fr [(10, 7), (10, 8), (10, 27), (66, -1), (67, -1), (68, -1), (69, -1), (70, -1), (71, -1), (72, -1), (73, -1), (74, -1), (75, -1), (77, -1), (78, -1), (79, -1)] h h291 := my_fr.tr gh6 (frh291.mo rfl)
          have Wrd_h291 : Wrd h291 := Wrd_ag (my_ag.fr frh291 rfl) Wrd_h6
          show wp l rho (d + 4) 185 128 [(2, 151), (0, p88_0), (0, p88_1), (0, p88_2), (0, p88_3), (0, (36 + v9)), (9, 0), (9, 0)] [] h291 Q
          have pk := xp294
          refine w_goto (t := 228) gz_185_128 rfl ?_
          refine w_aload_n gz_185_228 rfl ?_
          refine v_getI (j := 8) gz_185_229 rfl is_151 rd_10 rfl (fun v306 ev306 pv306 qv306 => ?_)
          have zv306 := ev306.trans (rfl : h291 151 8 = h291 151 8)
          refine w_ifne (t := 269) gz_185_232 rfl (fun u307 => ?_) (fun u307 => by exfalso; omega)
          refine w_aload_n gz_185_269 rfl ?_
          refine w_bipush gz_185_270 (by decide) ?_
          refine w_inv (k := 0) (as := [(0, 59)]) (r := []) (x := 151) (ls0 := [(2, 151), (0, 59)]) gz_185_272 gm_183 rfl is_151 rd_10 rfl rfl rfl rfl rfl (c_Model_takeSign_f1 (d := (d + 2))  (v306) (ev306.symm) (by omega) (by omega) Tok_h291t295 (fun w308 w309 xp310 Tok_h291t311 => ?_))
          show wp l rho (d + 4) 185 275 [(2, 151), (0, p88_0), (0, p88_1), (0, p88_2), (0, p88_3), (0, (36 + v9)), (9, 0), (9, 0)] [] h291 Q
          have c312 := ev306.symm
          exact w_vret gz_185_275 gm_185 (k0 h291 (gh291) (by omega) (by omega) (by first | assumption | omega | (subst_vars; omega) | omega) Tok_h291t311 Mq_h291t296 Wrd_h291)
        ·
          have gh297 : my_fr [(10, 7), (10, 8), (10, 27), (66, -1), (67, -1), (68, -1), (69, -1), (70, -1), (71, -1), (72, -1), (73, -1), (74, -1), (75, -1), (77, -1), (78, -1), (79, -1)] h h297 := my_fr.tr gh6 (frh297.mo rfl)
          have Wrd_h297 : Wrd h297 := Wrd_ag (my_ag.fr frh297 rfl) Wrd_h6
          show wp l rho (d + 4) 185 128 [(2, 151), (0, p88_0), (0, p88_1), (0, p88_2), (0, p88_3), (0, (36 + v9)), (9, 0), (9, 0)] [] h297 Q
          have pk := xp301
          have pk3 := xp302
          refine w_goto (t := 228) gz_185_128 rfl ?_
          refine w_aload_n gz_185_228 rfl ?_
          refine v_getI (j := 8) gz_185_229 rfl is_151 rd_10 rfl (fun v313 ev313 pv313 qv313 => ?_)
          have zv313 := ev313.trans w300
          refine w_ifne (t := 269) gz_185_232 rfl (fun u314 => by exfalso; omega) (fun u314 => ?_)
          refine w_iload_n gz_185_235 rfl ?_
          refine w_ifne (t := 252) gz_185_236 rfl (fun u315 => ?_) (fun u315 => by exfalso; omega)
          refine w_aload_n gz_185_252 rfl ?_
          refine w_iload gz_185_253 rfl ?_
          have d167 : ∀ j : Int, h297 167 j = h88_0 167 j := fun j => ((my_fr.at frh297 is_167 rfl).trans ((my_up_role fh6 is_167 is_151 rfl).trans (rfl : h88_0 167 j = h88_0 167 j)))
          have d6 := d167 6
          have mr0 := Mq_h297t305
          refine w_inv (k := 1) (as := [(0, (36 + v9))]) (r := []) (x := 151) (ls0 := [(2, 151), (0, (36 + v9)), (9, 0)]) gz_185_255 gm_182 rfl is_151 rd_10 rfl rfl rfl rfl rfl (c_Model_pane2_f0 (d := (d + 3)) (x1 := (36 + v9)) (by omega) (by omega) (ev313.symm.trans (by omega)) (pk.1) (fun h316 frh316 w317 xp318 xp319 => ?_))
          have gh316 : my_fr [(10, 7), (10, 8), (10, 27), (66, -1), (67, -1), (68, -1), (69, -1), (70, -1), (71, -1), (72, -1), (73, -1), (74, -1), (75, -1), (77, -1), (78, -1), (79, -1)] h h316 := my_fr.tr gh297 (frh316.mo rfl)
          have Wrd_h316 : Wrd h316 := Wrd_ag (my_ag.fr frh316 rfl) Wrd_h297
          have Tok_h316 : Tok h316 := Tok_ag (my_ag.fr frh316 rfl) Tok_h297t304
          show wp l rho (d + 4) 185 258 [(2, 151), (0, p88_0), (0, p88_1), (0, p88_2), (0, p88_3), (0, (36 + v9)), (9, 0), (9, 0)] [] h316 Q
          have ag0 : my_ag M3F h297 h316 := my_ag.fr frh316 rfl
          have e27 := xp318
          have e67 : h316 167 6 = h297 167 6 := ag0.at mis_167 rfl
          refine w_aload_n gz_185_258 rfl ?_
          refine w_getX (v := 167) gz_185_259 is_151 rd_10 rfl (by decide) rfl ?_
          refine w_bipush gz_185_262 (by decide) ?_
          refine w_dup2 gz_185_264 rfl rfl ?_
          refine w_iald gz_185_265 is_167 rd_66 (by omega) (by omega) (fun v321 ev321 pv321 qv321 => ?_)
          have zv321 := ev321.trans ((my_fr.at frh316 is_167 rfl).trans ((my_fr.at frh297 is_167 rfl).trans ev9.symm))
          refine w_iconst gz_185_266 (by decide) ?_
          refine w_iadd gz_185_267 ⟨by omega, by omega⟩ ?_
          have hi322 : 0 ≤ (v321 + 1) := by omega
          have hi323 : (v321 + 1) ≤ 6 := by omega
          refine w_iast gz_185_268 is_167 rd_66 (by omega) (by omega) (by omega) (by omega) (fun h324 fh324 => ?_)
          have gh324 : my_fr [(10, 7), (10, 8), (10, 27), (66, -1), (67, -1), (68, -1), (69, -1), (70, -1), (71, -1), (72, -1), (73, -1), (74, -1), (75, -1), (77, -1), (78, -1), (79, -1)] h h324 := my_fr.up gh316 is_167 fh324 rfl
          have Wrd_h324 : Wrd h324 := Wrd_ag (my_ag.up fh324 is_167 rfl) Wrd_h316
          have Tok_h324 : Tok h324 := Tok_ag (my_ag.up fh324 is_167 rfl) Tok_h316
          have Mq_h324t325 : Mq h324 wv := Mq_add mr0 (by omega) pk pk3 ag0 e27 fh324 (by omega) (by omega)
          refine w_aload_n gz_185_269 rfl ?_
          refine w_bipush gz_185_270 (by decide) ?_
          have ce326 : h324 151 7 = (h297 151 7) := ((my_up_role fh324 is_151 is_167 rfl).trans ((my_fr.at frh316 is_151 rfl).trans (rfl : h297 151 7 = h297 151 7)))
          refine w_inv (k := 0) (as := [(0, 59)]) (r := []) (x := 151) (ls0 := [(2, 151), (0, 59)]) gz_185_272 gm_183 rfl is_151 rd_10 rfl rfl rfl rfl rfl (c_Model_takeSign_f0 (d := (d + 2))  (((my_up_role fh324 is_151 is_167 rfl).trans ((my_fr.at frh316 is_151 rfl).trans ev313.symm)).trans (by omega)) Tok_h324 (fun h327 frh327 w328 w329 xp330 Tok_h327t331 => ?_) (fun h332 frh332 w333 w334 w335 xp336 Tok_h332t337 => ?_))
          ·
            have gh327 : my_fr [(10, 7), (10, 8), (10, 27), (66, -1), (67, -1), (68, -1), (69, -1), (70, -1), (71, -1), (72, -1), (73, -1), (74, -1), (75, -1), (77, -1), (78, -1), (79, -1)] h h327 := my_fr.tr gh324 (frh327.mo rfl)
            have Wrd_h327 : Wrd h327 := Wrd_ag (my_ag.fr frh327 rfl) Wrd_h324
            have Mq_h327 : Mq h327 wv := Mq_ag (my_ag.fr frh327 rfl) Mq_h324t325
            show wp l rho (d + 4) 185 275 [(2, 151), (0, p88_0), (0, p88_1), (0, p88_2), (0, p88_3), (0, (36 + v9)), (9, 0), (9, 0)] [] h327 Q
            have c338 := (rfl : h327 151 8 = h327 151 8)
            exact w_vret gz_185_275 gm_185 (k0 h327 (gh327) (by omega) (by omega) (by first | assumption | omega | (subst_vars; omega) | omega) Tok_h327t331 Mq_h327 Wrd_h327)
          ·
            have gh332 : my_fr [(10, 7), (10, 8), (10, 27), (66, -1), (67, -1), (68, -1), (69, -1), (70, -1), (71, -1), (72, -1), (73, -1), (74, -1), (75, -1), (77, -1), (78, -1), (79, -1)] h h332 := my_fr.tr gh324 (frh332.mo rfl)
            have Wrd_h332 : Wrd h332 := Wrd_ag (my_ag.fr frh332 rfl) Wrd_h324
            have Mq_h332 : Mq h332 wv := Mq_ag (my_ag.fr frh332 rfl) Mq_h324t325
            show wp l rho (d + 4) 185 275 [(2, 151), (0, p88_0), (0, p88_1), (0, p88_2), (0, p88_3), (0, (36 + v9)), (9, 0), (9, 0)] [] h332 Q
            have ce339 : h332 151 7 = (h332 151 7) := (rfl : h332 151 7 = h332 151 7)
            have c340 := (rfl : h332 151 7 = h332 151 7)
            have c341 := w335
            exact w_vret gz_185_275 gm_185 (k1 h332 (gh332) (by omega) (by omega) (by omega) (by first | assumption | omega | (subst_vars; omega) | omega) Tok_h332t337 Mq_h332 Wrd_h332)
    ·
      have ce342 : h88_0 151 7 = k151_7 := c151_7_88_0
      have c343 := ev1.symm
      exact w_vret gz_185_95 gm_185 (k0 h88_0 (gh_88_0) (by omega) (by omega) (by first | assumption | omega | (subst_vars; omega) | omega) n_Tok_88_0 n_Mq_88_0 n_Wrd_88_0)
  refine w_aload_n gz_185_0 rfl ?_
  refine w_iconst gz_185_1 (by decide) ?_
  refine w_inv (k := 0) (as := [(0, 3)]) (r := []) (x := 151) (ls0 := [(2, 151), (0, 3)]) gz_185_2 gm_177 rfl is_151 rd_10 rfl rfl rfl rfl rfl (c_Model_isWord_f0 (d := (d + 3)) (x1 := 3) (by omega) (by omega) (cf.trans (by omega)) (fun w344 => ?_) (fun w345 xp346 xp347 xp348 => ?_))
  ·
    show wp l rho (d + 4) 185 5 [(2, 151), (9, 0), (9, 0), (9, 0), (9, 0), (9, 0), (9, 0), (9, 0)] [(0, 0)] h Q
    refine w_istore_n (ls' := [(2, 151), (0, 0), (9, 0), (9, 0), (9, 0), (9, 0), (9, 0), (9, 0)]) gz_185_5 gm_185 rfl rfl rfl ?_
    refine w_aload_n gz_185_6 rfl ?_
    refine w_bipush gz_185_7 (by decide) ?_
    refine w_inv (k := 0) (as := [(0, 7)]) (r := []) (x := 151) (ls0 := [(2, 151), (0, 7)]) gz_185_9 gm_177 rfl is_151 rd_10 rfl rfl rfl rfl rfl (c_Model_isWord_f0 (d := (d + 3)) (x1 := 7) (by omega) (by omega) (cf.trans (by omega)) (fun w349 => ?_) (fun w350 xp351 xp352 xp353 => ?_))
    ·
      show wp l rho (d + 4) 185 12 [(2, 151), (0, 0), (9, 0), (9, 0), (9, 0), (9, 0), (9, 0), (9, 0)] [(0, 0)] h Q
      refine w_istore_n (ls' := [(2, 151), (0, 0), (0, 0), (9, 0), (9, 0), (9, 0), (9, 0), (9, 0)]) gz_185_12 gm_185 rfl rfl rfl ?_
      refine w_aload_n gz_185_13 rfl ?_
      refine w_bipush gz_185_14 (by decide) ?_
      refine w_inv (k := 0) (as := [(0, 8)]) (r := []) (x := 151) (ls0 := [(2, 151), (0, 8)]) gz_185_16 gm_177 rfl is_151 rd_10 rfl rfl rfl rfl rfl (c_Model_isWord_f0 (d := (d + 3)) (x1 := 8) (by omega) (by omega) (cf.trans (by omega)) (fun w354 => ?_) (fun w355 xp356 xp357 xp358 => ?_))
      ·
        show wp l rho (d + 4) 185 19 [(2, 151), (0, 0), (0, 0), (9, 0), (9, 0), (9, 0), (9, 0), (9, 0)] [(0, 0)] h Q
        refine w_istore_n (ls' := [(2, 151), (0, 0), (0, 0), (0, 0), (9, 0), (9, 0), (9, 0), (9, 0)]) gz_185_19 gm_185 rfl rfl rfl ?_
        refine w_aload_n gz_185_20 rfl ?_
        refine w_bipush gz_185_21 (by decide) ?_
        refine w_inv (k := 0) (as := [(0, 11)]) (r := []) (x := 151) (ls0 := [(2, 151), (0, 11)]) gz_185_23 gm_177 rfl is_151 rd_10 rfl rfl rfl rfl rfl (c_Model_isWord_f0 (d := (d + 3)) (x1 := 11) (by omega) (by omega) (cf.trans (by omega)) (fun w359 => ?_) (fun w360 xp361 xp362 xp363 => ?_))
        ·
          show wp l rho (d + 4) 185 26 [(2, 151), (0, 0), (0, 0), (0, 0), (9, 0), (9, 0), (9, 0), (9, 0)] [(0, 0)] h Q
          refine w_istore (ls' := [(2, 151), (0, 0), (0, 0), (0, 0), (0, 0), (9, 0), (9, 0), (9, 0)]) gz_185_26 gm_185 rfl rfl rfl ?_
          refine w_iload_n gz_185_28 rfl ?_
          refine w_ifne (t := 62) gz_185_29 rfl (fun u364 => by exfalso; omega) (fun u364 => ?_)
          refine w_iload_n gz_185_32 rfl ?_
          refine w_ifne (t := 62) gz_185_33 rfl (fun u365 => by exfalso; omega) (fun u365 => ?_)
          refine w_iload_n gz_185_36 rfl ?_
          refine w_ifne (t := 62) gz_185_37 rfl (fun u366 => by exfalso; omega) (fun u366 => ?_)
          refine w_iload gz_185_40 rfl ?_
          refine w_ifne (t := 62) gz_185_42 rfl (fun u367 => by exfalso; omega) (fun u367 => ?_)
          refine w_aload_n gz_185_45 rfl ?_
          refine w_bipush gz_185_46 (by decide) ?_
          refine w_inv (k := 0) (as := [(0, 10)]) (r := []) (x := 151) (ls0 := [(2, 151), (0, 10)]) gz_185_48 gm_177 rfl is_151 rd_10 rfl rfl rfl rfl rfl (c_Model_isWord_f0 (d := (d + 3)) (x1 := 10) (by omega) (by omega) (cf.trans (by omega)) (fun w368 => ?_) (fun w369 xp370 xp371 xp372 => ?_))
          ·
            show wp l rho (d + 4) 185 51 [(2, 151), (0, 0), (0, 0), (0, 0), (0, 0), (9, 0), (9, 0), (9, 0)] [(0, 0)] h Q
            refine w_ifne (t := 62) gz_185_51 rfl (fun u373 => by exfalso; omega) (fun u373 => ?_)
            refine w_aload_n gz_185_54 rfl ?_
            refine w_iconst gz_185_55 (by decide) ?_
            refine w_inv (k := 0) (as := [(0, 1)]) (r := []) (x := 151) (ls0 := [(2, 151), (0, 1)]) gz_185_56 gm_178 rfl is_151 rd_10 rfl rfl rfl rfl rfl ?_
            refine w_aload_n gz_178_0 rfl ?_
            refine v_getI (j := 8) gz_178_1 rfl is_151 rd_10 rfl (fun v374 ev374 pv374 qv374 => ?_)
            have zv374 := ev374.trans cf
            refine w_ifne (t := 25) gz_178_4 rfl (fun u375 => by exfalso; omega) (fun u375 => ?_)
            refine w_aload_n gz_178_7 rfl ?_
            refine w_iload_n gz_178_8 rfl ?_
            refine w_bipush gz_178_9 (by decide) ?_
            refine w_aload_n gz_178_11 rfl ?_
            refine w_getX (v := 154) gz_178_12 is_151 rd_10 rfl (by decide) rfl ?_
            refine w_aload_n gz_178_15 rfl ?_
            refine v_getI (j := 7) gz_178_16 rfl is_151 rd_10 rfl (fun v377 ev377 pv377 qv377 => ?_)
            have zv377 := ev377.trans ek151_7.symm
            refine w_iald gz_178_19 is_154 rd_53 (by omega) (by omega) (fun v378 ev378 pv378 qv378 => ?_)
            refine w_imul gz_178_20 ⟨by omega, by omega⟩ ?_
            refine w_iadd gz_178_21 ⟨by omega, by omega⟩ ?_
            refine v_putI (j := 8) gz_178_22 rfl is_151 rd_10 rfl (by omega) (by omega) rfl (fun h379 fh379 => ?_)
            have gh379 : my_fr [(10, 7), (10, 8), (10, 27), (66, -1), (67, -1), (68, -1), (69, -1), (70, -1), (71, -1), (72, -1), (73, -1), (74, -1), (75, -1), (77, -1), (78, -1), (79, -1)] h h379 := my_fr.up my_fr.rf is_151 fh379 rfl
            have Tok_h379 : Tok h379 := Tok_ag (my_ag.up fh379 is_151 rfl) n_Tok
            have Mq_h379 : Mq h379 wv := Mq_ag (my_ag.up fh379 is_151 rfl) n_Mq
            have Wrd_h379 : Wrd h379 := Wrd_ag (my_ag.up fh379 is_151 rfl) n_Wrd
            refine w_vret gz_178_25 gm_178 ?_
            show wp l rho (d + 4) 185 59 [(2, 151), (0, 0), (0, 0), (0, 0), (0, 0), (9, 0), (9, 0), (9, 0)] [] h379 Q
            refine w_goto (t := 88) gz_185_59 rfl ?_
            have ce380 : h379 151 7 = v377 := ((my_up_fld fh379 (by decide)).trans ev377.symm)
            have ce381 : h379 151 8 = (1 + (16 * v378)) := (my_up_self fh379)
            exact J88_0 (0) (0) (0) (0) ((1 + (16 * v378))) h379 (gh379) (by omega) (by omega) (by omega) (by omega) (by omega) (by omega) (by omega) (by omega) (by omega) (by omega) (((my_up_fld fh379 (by decide)).trans ev377.symm).trans (by omega)) ((my_up_self fh379).trans (by omega)) Tok_h379 Mq_h379 Wrd_h379 (by first | (intro q; exfalso; omega) | (intro _; assumption) | omega) (by first | (intro q; exfalso; omega) | (intro _ q; omega) | (intro _ q; exfalso; have w := Wrd_h379; unfold Wrd at w; omega) | omega) (by omega)
          ·
            show wp l rho (d + 4) 185 51 [(2, 151), (0, 0), (0, 0), (0, 0), (0, 0), (9, 0), (9, 0), (9, 0)] [(0, 1)] h Q
            refine w_ifne (t := 62) gz_185_51 rfl (fun u382 => ?_) (fun u382 => by exfalso; omega)
            refine w_aload_n gz_185_62 rfl ?_
            refine w_bipush gz_185_63 (by decide) ?_
            refine w_inv (k := 0) (as := [(0, 10)]) (r := []) (x := 151) (ls0 := [(2, 151), (0, 10)]) gz_185_65 gm_177 rfl is_151 rd_10 rfl rfl rfl rfl rfl (c_Model_isWord_f0 (d := (d + 3)) (x1 := 10) (by omega) (by omega) (cf.trans (by omega)) (fun w383 => ?_) (fun w384 xp385 xp386 xp387 => ?_))
            ·
              show wp l rho (d + 4) 185 68 [(2, 151), (0, 0), (0, 0), (0, 0), (0, 0), (9, 0), (9, 0), (9, 0)] [(0, 0)] h Q
              refine w_ifne (t := 88) gz_185_68 rfl (fun u388 => by exfalso; omega) (fun u388 => ?_)
              refine w_aload_n gz_185_71 rfl ?_
              refine w_getX (v := 167) gz_185_72 is_151 rd_10 rfl (by decide) rfl ?_
              refine w_bipush gz_185_75 (by decide) ?_
              refine w_iald gz_185_77 is_167 rd_66 (by omega) (by omega) (fun v390 ev390 pv390 qv390 => ?_)
              refine w_bipush gz_185_78 (by decide) ?_
              refine w_icne (t := 88) gz_185_80 rfl (fun u391 => ?_) (fun u391 => ?_)
              ·
                have ce392 : h 151 7 = k151_7 := ek151_7.symm
                have ce393 : h 151 8 = 0 := cf
                exact J88_0 (0) (0) (0) (0) (0) h (my_fr.rf) (by omega) (by omega) (by omega) (by omega) (by omega) (by omega) (by omega) (by omega) (by omega) (by omega) (ek151_7.symm.trans (by omega)) (cf.trans (by omega)) n_Tok n_Mq n_Wrd (by first | (intro q; exfalso; omega) | (intro _; assumption) | omega) (by first | (intro q; exfalso; omega) | (intro _ q; omega) | (intro _ q; exfalso; have w := n_Wrd; unfold Wrd at w; omega) | omega) (by omega)
              ·
                refine w_aload_n gz_185_83 rfl ?_
                refine w_iconst gz_185_84 (by decide) ?_
                refine w_inv (k := 0) (as := [(0, 5)]) (r := []) (x := 151) (ls0 := [(2, 151), (0, 5)]) gz_185_85 gm_178 rfl is_151 rd_10 rfl rfl rfl rfl rfl ?_
                refine w_aload_n gz_178_0 rfl ?_
                refine v_getI (j := 8) gz_178_1 rfl is_151 rd_10 rfl (fun v394 ev394 pv394 qv394 => ?_)
                have zv394 := ev394.trans cf
                refine w_ifne (t := 25) gz_178_4 rfl (fun u395 => by exfalso; omega) (fun u395 => ?_)
                refine w_aload_n gz_178_7 rfl ?_
                refine w_iload_n gz_178_8 rfl ?_
                refine w_bipush gz_178_9 (by decide) ?_
                refine w_aload_n gz_178_11 rfl ?_
                refine w_getX (v := 154) gz_178_12 is_151 rd_10 rfl (by decide) rfl ?_
                refine w_aload_n gz_178_15 rfl ?_
                refine v_getI (j := 7) gz_178_16 rfl is_151 rd_10 rfl (fun v397 ev397 pv397 qv397 => ?_)
                have zv397 := ev397.trans ek151_7.symm
                refine w_iald gz_178_19 is_154 rd_53 (by omega) (by omega) (fun v398 ev398 pv398 qv398 => ?_)
                refine w_imul gz_178_20 ⟨by omega, by omega⟩ ?_
                refine w_iadd gz_178_21 ⟨by omega, by omega⟩ ?_
                refine v_putI (j := 8) gz_178_22 rfl is_151 rd_10 rfl (by omega) (by omega) rfl (fun h399 fh399 => ?_)
                have gh399 : my_fr [(10, 7), (10, 8), (10, 27), (66, -1), (67, -1), (68, -1), (69, -1), (70, -1), (71, -1), (72, -1), (73, -1), (74, -1), (75, -1), (77, -1), (78, -1), (79, -1)] h h399 := my_fr.up my_fr.rf is_151 fh399 rfl
                have Tok_h399 : Tok h399 := Tok_ag (my_ag.up fh399 is_151 rfl) n_Tok
                have Mq_h399 : Mq h399 wv := Mq_ag (my_ag.up fh399 is_151 rfl) n_Mq
                have Wrd_h399 : Wrd h399 := Wrd_ag (my_ag.up fh399 is_151 rfl) n_Wrd
                refine w_vret gz_178_25 gm_178 ?_
                show wp l rho (d + 4) 185 88 [(2, 151), (0, 0), (0, 0), (0, 0), (0, 0), (9, 0), (9, 0), (9, 0)] [] h399 Q
                have ce400 : h399 151 7 = v397 := ((my_up_fld fh399 (by decide)).trans ev397.symm)
                have ce401 : h399 151 8 = (5 + (16 * v398)) := (my_up_self fh399)
                exact J88_0 (0) (0) (0) (0) ((5 + (16 * v398))) h399 (gh399) (by omega) (by omega) (by omega) (by omega) (by omega) (by omega) (by omega) (by omega) (by omega) (by omega) (((my_up_fld fh399 (by decide)).trans ev397.symm).trans (by omega)) ((my_up_self fh399).trans (by omega)) Tok_h399 Mq_h399 Wrd_h399 (by first | (intro q; exfalso; omega) | (intro _; assumption) | omega) (by first | (intro q; exfalso; omega) | (intro _ q; omega) | (intro _ q; exfalso; have w := Wrd_h399; unfold Wrd at w; omega) | omega) (by omega)
            ·
              show wp l rho (d + 4) 185 68 [(2, 151), (0, 0), (0, 0), (0, 0), (0, 0), (9, 0), (9, 0), (9, 0)] [(0, 1)] h Q
              refine w_ifne (t := 88) gz_185_68 rfl (fun u402 => ?_) (fun u402 => by exfalso; omega)
              have ce403 : h 151 7 = k151_7 := ek151_7.symm
              have ce404 : h 151 8 = 0 := cf
              exact J88_0 (0) (0) (0) (0) (0) h (my_fr.rf) (by omega) (by omega) (by omega) (by omega) (by omega) (by omega) (by omega) (by omega) (by omega) (by omega) (ek151_7.symm.trans (by omega)) (cf.trans (by omega)) n_Tok n_Mq n_Wrd (by first | (intro q; exfalso; omega) | (intro _; assumption) | omega) (by first | (intro q; exfalso; omega) | (intro _ q; omega) | (intro _ q; exfalso; have w := n_Wrd; unfold Wrd at w; omega) | omega) (by omega)
        ·
          show wp l rho (d + 4) 185 26 [(2, 151), (0, 0), (0, 0), (0, 0), (9, 0), (9, 0), (9, 0), (9, 0)] [(0, 1)] h Q
          refine w_istore (ls' := [(2, 151), (0, 0), (0, 0), (0, 0), (0, 1), (9, 0), (9, 0), (9, 0)]) gz_185_26 gm_185 rfl rfl rfl ?_
          refine w_iload_n gz_185_28 rfl ?_
          refine w_ifne (t := 62) gz_185_29 rfl (fun u405 => by exfalso; omega) (fun u405 => ?_)
          refine w_iload_n gz_185_32 rfl ?_
          refine w_ifne (t := 62) gz_185_33 rfl (fun u406 => by exfalso; omega) (fun u406 => ?_)
          refine w_iload_n gz_185_36 rfl ?_
          refine w_ifne (t := 62) gz_185_37 rfl (fun u407 => by exfalso; omega) (fun u407 => ?_)
          refine w_iload gz_185_40 rfl ?_
          refine w_ifne (t := 62) gz_185_42 rfl (fun u408 => ?_) (fun u408 => by exfalso; omega)
          refine w_aload_n gz_185_62 rfl ?_
          refine w_bipush gz_185_63 (by decide) ?_
          refine w_inv (k := 0) (as := [(0, 10)]) (r := []) (x := 151) (ls0 := [(2, 151), (0, 10)]) gz_185_65 gm_177 rfl is_151 rd_10 rfl rfl rfl rfl rfl (c_Model_isWord_f0 (d := (d + 3)) (x1 := 10) (by omega) (by omega) (cf.trans (by omega)) (fun w409 => ?_) (fun w410 xp411 xp412 xp413 => ?_))
          ·
            show wp l rho (d + 4) 185 68 [(2, 151), (0, 0), (0, 0), (0, 0), (0, 1), (9, 0), (9, 0), (9, 0)] [(0, 0)] h Q
            refine w_ifne (t := 88) gz_185_68 rfl (fun u414 => by exfalso; omega) (fun u414 => ?_)
            refine w_aload_n gz_185_71 rfl ?_
            refine w_getX (v := 167) gz_185_72 is_151 rd_10 rfl (by decide) rfl ?_
            refine w_bipush gz_185_75 (by decide) ?_
            refine w_iald gz_185_77 is_167 rd_66 (by omega) (by omega) (fun v416 ev416 pv416 qv416 => ?_)
            refine w_bipush gz_185_78 (by decide) ?_
            refine w_icne (t := 88) gz_185_80 rfl (fun u417 => ?_) (fun u417 => ?_)
            ·
              have ce418 : h 151 7 = k151_7 := ek151_7.symm
              have ce419 : h 151 8 = 0 := cf
              exact J88_0 (0) (0) (0) (1) (0) h (my_fr.rf) (by omega) (by omega) (by omega) (by omega) (by omega) (by omega) (by omega) (by omega) (by omega) (by omega) (ek151_7.symm.trans (by omega)) (cf.trans (by omega)) n_Tok n_Mq n_Wrd (by first | (intro q; exfalso; omega) | (intro _; assumption) | omega) (by first | (intro q; exfalso; omega) | (intro _ q; omega) | (intro _ q; exfalso; have w := n_Wrd; unfold Wrd at w; omega) | omega) (by omega)
            ·
              refine w_aload_n gz_185_83 rfl ?_
              refine w_iconst gz_185_84 (by decide) ?_
              refine w_inv (k := 0) (as := [(0, 5)]) (r := []) (x := 151) (ls0 := [(2, 151), (0, 5)]) gz_185_85 gm_178 rfl is_151 rd_10 rfl rfl rfl rfl rfl ?_
              refine w_aload_n gz_178_0 rfl ?_
              refine v_getI (j := 8) gz_178_1 rfl is_151 rd_10 rfl (fun v420 ev420 pv420 qv420 => ?_)
              have zv420 := ev420.trans cf
              refine w_ifne (t := 25) gz_178_4 rfl (fun u421 => by exfalso; omega) (fun u421 => ?_)
              refine w_aload_n gz_178_7 rfl ?_
              refine w_iload_n gz_178_8 rfl ?_
              refine w_bipush gz_178_9 (by decide) ?_
              refine w_aload_n gz_178_11 rfl ?_
              refine w_getX (v := 154) gz_178_12 is_151 rd_10 rfl (by decide) rfl ?_
              refine w_aload_n gz_178_15 rfl ?_
              refine v_getI (j := 7) gz_178_16 rfl is_151 rd_10 rfl (fun v423 ev423 pv423 qv423 => ?_)
              have zv423 := ev423.trans ek151_7.symm
              refine w_iald gz_178_19 is_154 rd_53 (by omega) (by omega) (fun v424 ev424 pv424 qv424 => ?_)
              refine w_imul gz_178_20 ⟨by omega, by omega⟩ ?_
              refine w_iadd gz_178_21 ⟨by omega, by omega⟩ ?_
              refine v_putI (j := 8) gz_178_22 rfl is_151 rd_10 rfl (by omega) (by omega) rfl (fun h425 fh425 => ?_)
              have gh425 : my_fr [(10, 7), (10, 8), (10, 27), (66, -1), (67, -1), (68, -1), (69, -1), (70, -1), (71, -1), (72, -1), (73, -1), (74, -1), (75, -1), (77, -1), (78, -1), (79, -1)] h h425 := my_fr.up my_fr.rf is_151 fh425 rfl
              have Tok_h425 : Tok h425 := Tok_ag (my_ag.up fh425 is_151 rfl) n_Tok
              have Mq_h425 : Mq h425 wv := Mq_ag (my_ag.up fh425 is_151 rfl) n_Mq
              have Wrd_h425 : Wrd h425 := Wrd_ag (my_ag.up fh425 is_151 rfl) n_Wrd
              refine w_vret gz_178_25 gm_178 ?_
              show wp l rho (d + 4) 185 88 [(2, 151), (0, 0), (0, 0), (0, 0), (0, 1), (9, 0), (9, 0), (9, 0)] [] h425 Q
              have ce426 : h425 151 7 = v423 := ((my_up_fld fh425 (by decide)).trans ev423.symm)
              have ce427 : h425 151 8 = (5 + (16 * v424)) := (my_up_self fh425)
              exact J88_0 (0) (0) (0) (1) ((5 + (16 * v424))) h425 (gh425) (by omega) (by omega) (by omega) (by omega) (by omega) (by omega) (by omega) (by omega) (by omega) (by omega) (((my_up_fld fh425 (by decide)).trans ev423.symm).trans (by omega)) ((my_up_self fh425).trans (by omega)) Tok_h425 Mq_h425 Wrd_h425 (by first | (intro q; exfalso; omega) | (intro _; assumption) | omega) (by first | (intro q; exfalso; omega) | (intro _ q; omega) | (intro _ q; exfalso; have w := Wrd_h425; unfold Wrd at w; omega) | omega) (by omega)
          ·
            show wp l rho (d + 4) 185 68 [(2, 151), (0, 0), (0, 0), (0, 0), (0, 1), (9, 0), (9, 0), (9, 0)] [(0, 1)] h Q
            refine w_ifne (t := 88) gz_185_68 rfl (fun u428 => ?_) (fun u428 => by exfalso; omega)
            have ce429 : h 151 7 = k151_7 := ek151_7.symm
            have ce430 : h 151 8 = 0 := cf
            exact J88_0 (0) (0) (0) (1) (0) h (my_fr.rf) (by omega) (by omega) (by omega) (by omega) (by omega) (by omega) (by omega) (by omega) (by omega) (by omega) (ek151_7.symm.trans (by omega)) (cf.trans (by omega)) n_Tok n_Mq n_Wrd (by first | (intro q; exfalso; omega) | (intro _; assumption) | omega) (by first | (intro q; exfalso; omega) | (intro _ q; omega) | (intro _ q; exfalso; have w := n_Wrd; unfold Wrd at w; omega) | omega) (by omega)
      ·
        show wp l rho (d + 4) 185 19 [(2, 151), (0, 0), (0, 0), (9, 0), (9, 0), (9, 0), (9, 0), (9, 0)] [(0, 1)] h Q
        refine w_istore_n (ls' := [(2, 151), (0, 0), (0, 0), (0, 1), (9, 0), (9, 0), (9, 0), (9, 0)]) gz_185_19 gm_185 rfl rfl rfl ?_
        refine w_aload_n gz_185_20 rfl ?_
        refine w_bipush gz_185_21 (by decide) ?_
        refine w_inv (k := 0) (as := [(0, 11)]) (r := []) (x := 151) (ls0 := [(2, 151), (0, 11)]) gz_185_23 gm_177 rfl is_151 rd_10 rfl rfl rfl rfl rfl (c_Model_isWord_f0 (d := (d + 3)) (x1 := 11) (by omega) (by omega) (cf.trans (by omega)) (fun w431 => ?_) (fun w432 xp433 xp434 xp435 => ?_))
        ·
          show wp l rho (d + 4) 185 26 [(2, 151), (0, 0), (0, 0), (0, 1), (9, 0), (9, 0), (9, 0), (9, 0)] [(0, 0)] h Q
          refine w_istore (ls' := [(2, 151), (0, 0), (0, 0), (0, 1), (0, 0), (9, 0), (9, 0), (9, 0)]) gz_185_26 gm_185 rfl rfl rfl ?_
          refine w_iload_n gz_185_28 rfl ?_
          refine w_ifne (t := 62) gz_185_29 rfl (fun u436 => by exfalso; omega) (fun u436 => ?_)
          refine w_iload_n gz_185_32 rfl ?_
          refine w_ifne (t := 62) gz_185_33 rfl (fun u437 => by exfalso; omega) (fun u437 => ?_)
          refine w_iload_n gz_185_36 rfl ?_
          refine w_ifne (t := 62) gz_185_37 rfl (fun u438 => ?_) (fun u438 => by exfalso; omega)
          refine w_aload_n gz_185_62 rfl ?_
          refine w_bipush gz_185_63 (by decide) ?_
          refine w_inv (k := 0) (as := [(0, 10)]) (r := []) (x := 151) (ls0 := [(2, 151), (0, 10)]) gz_185_65 gm_177 rfl is_151 rd_10 rfl rfl rfl rfl rfl (c_Model_isWord_f0 (d := (d + 3)) (x1 := 10) (by omega) (by omega) (cf.trans (by omega)) (fun w439 => ?_) (fun w440 xp441 xp442 xp443 => ?_))
          ·
            show wp l rho (d + 4) 185 68 [(2, 151), (0, 0), (0, 0), (0, 1), (0, 0), (9, 0), (9, 0), (9, 0)] [(0, 0)] h Q
            refine w_ifne (t := 88) gz_185_68 rfl (fun u444 => by exfalso; omega) (fun u444 => ?_)
            refine w_aload_n gz_185_71 rfl ?_
            refine w_getX (v := 167) gz_185_72 is_151 rd_10 rfl (by decide) rfl ?_
            refine w_bipush gz_185_75 (by decide) ?_
            refine w_iald gz_185_77 is_167 rd_66 (by omega) (by omega) (fun v446 ev446 pv446 qv446 => ?_)
            refine w_bipush gz_185_78 (by decide) ?_
            refine w_icne (t := 88) gz_185_80 rfl (fun u447 => ?_) (fun u447 => ?_)
            ·
              have ce448 : h 151 7 = k151_7 := ek151_7.symm
              have ce449 : h 151 8 = 0 := cf
              exact J88_0 (0) (0) (1) (0) (0) h (my_fr.rf) (by omega) (by omega) (by omega) (by omega) (by omega) (by omega) (by omega) (by omega) (by omega) (by omega) (ek151_7.symm.trans (by omega)) (cf.trans (by omega)) n_Tok n_Mq n_Wrd (by first | (intro q; exfalso; omega) | (intro _; assumption) | omega) (by first | (intro q; exfalso; omega) | (intro _ q; omega) | (intro _ q; exfalso; have w := n_Wrd; unfold Wrd at w; omega) | omega) (by omega)
            ·
              refine w_aload_n gz_185_83 rfl ?_
              refine w_iconst gz_185_84 (by decide) ?_
              refine w_inv (k := 0) (as := [(0, 5)]) (r := []) (x := 151) (ls0 := [(2, 151), (0, 5)]) gz_185_85 gm_178 rfl is_151 rd_10 rfl rfl rfl rfl rfl ?_
              refine w_aload_n gz_178_0 rfl ?_
              refine v_getI (j := 8) gz_178_1 rfl is_151 rd_10 rfl (fun v450 ev450 pv450 qv450 => ?_)
              have zv450 := ev450.trans cf
              refine w_ifne (t := 25) gz_178_4 rfl (fun u451 => by exfalso; omega) (fun u451 => ?_)
              refine w_aload_n gz_178_7 rfl ?_
              refine w_iload_n gz_178_8 rfl ?_
              refine w_bipush gz_178_9 (by decide) ?_
              refine w_aload_n gz_178_11 rfl ?_
              refine w_getX (v := 154) gz_178_12 is_151 rd_10 rfl (by decide) rfl ?_
              refine w_aload_n gz_178_15 rfl ?_
              refine v_getI (j := 7) gz_178_16 rfl is_151 rd_10 rfl (fun v453 ev453 pv453 qv453 => ?_)
              have zv453 := ev453.trans ek151_7.symm
              refine w_iald gz_178_19 is_154 rd_53 (by omega) (by omega) (fun v454 ev454 pv454 qv454 => ?_)
              refine w_imul gz_178_20 ⟨by omega, by omega⟩ ?_
              refine w_iadd gz_178_21 ⟨by omega, by omega⟩ ?_
              refine v_putI (j := 8) gz_178_22 rfl is_151 rd_10 rfl (by omega) (by omega) rfl (fun h455 fh455 => ?_)
              have gh455 : my_fr [(10, 7), (10, 8), (10, 27), (66, -1), (67, -1), (68, -1), (69, -1), (70, -1), (71, -1), (72, -1), (73, -1), (74, -1), (75, -1), (77, -1), (78, -1), (79, -1)] h h455 := my_fr.up my_fr.rf is_151 fh455 rfl
              have Tok_h455 : Tok h455 := Tok_ag (my_ag.up fh455 is_151 rfl) n_Tok
              have Mq_h455 : Mq h455 wv := Mq_ag (my_ag.up fh455 is_151 rfl) n_Mq
              have Wrd_h455 : Wrd h455 := Wrd_ag (my_ag.up fh455 is_151 rfl) n_Wrd
              refine w_vret gz_178_25 gm_178 ?_
              show wp l rho (d + 4) 185 88 [(2, 151), (0, 0), (0, 0), (0, 1), (0, 0), (9, 0), (9, 0), (9, 0)] [] h455 Q
              have ce456 : h455 151 7 = v453 := ((my_up_fld fh455 (by decide)).trans ev453.symm)
              have ce457 : h455 151 8 = (5 + (16 * v454)) := (my_up_self fh455)
              exact J88_0 (0) (0) (1) (0) ((5 + (16 * v454))) h455 (gh455) (by omega) (by omega) (by omega) (by omega) (by omega) (by omega) (by omega) (by omega) (by omega) (by omega) (((my_up_fld fh455 (by decide)).trans ev453.symm).trans (by omega)) ((my_up_self fh455).trans (by omega)) Tok_h455 Mq_h455 Wrd_h455 (by first | (intro q; exfalso; omega) | (intro _; assumption) | omega) (by first | (intro q; exfalso; omega) | (intro _ q; omega) | (intro _ q; exfalso; have w := Wrd_h455; unfold Wrd at w; omega) | omega) (by omega)
          ·
            show wp l rho (d + 4) 185 68 [(2, 151), (0, 0), (0, 0), (0, 1), (0, 0), (9, 0), (9, 0), (9, 0)] [(0, 1)] h Q
            refine w_ifne (t := 88) gz_185_68 rfl (fun u458 => ?_) (fun u458 => by exfalso; omega)
            have ce459 : h 151 7 = k151_7 := ek151_7.symm
            have ce460 : h 151 8 = 0 := cf
            exact J88_0 (0) (0) (1) (0) (0) h (my_fr.rf) (by omega) (by omega) (by omega) (by omega) (by omega) (by omega) (by omega) (by omega) (by omega) (by omega) (ek151_7.symm.trans (by omega)) (cf.trans (by omega)) n_Tok n_Mq n_Wrd (by first | (intro q; exfalso; omega) | (intro _; assumption) | omega) (by first | (intro q; exfalso; omega) | (intro _ q; omega) | (intro _ q; exfalso; have w := n_Wrd; unfold Wrd at w; omega) | omega) (by omega)
        ·
          show wp l rho (d + 4) 185 26 [(2, 151), (0, 0), (0, 0), (0, 1), (9, 0), (9, 0), (9, 0), (9, 0)] [(0, 1)] h Q
          refine w_istore (ls' := [(2, 151), (0, 0), (0, 0), (0, 1), (0, 1), (9, 0), (9, 0), (9, 0)]) gz_185_26 gm_185 rfl rfl rfl ?_
          refine w_iload_n gz_185_28 rfl ?_
          refine w_ifne (t := 62) gz_185_29 rfl (fun u461 => by exfalso; omega) (fun u461 => ?_)
          refine w_iload_n gz_185_32 rfl ?_
          refine w_ifne (t := 62) gz_185_33 rfl (fun u462 => by exfalso; omega) (fun u462 => ?_)
          refine w_iload_n gz_185_36 rfl ?_
          refine w_ifne (t := 62) gz_185_37 rfl (fun u463 => ?_) (fun u463 => by exfalso; omega)
          refine w_aload_n gz_185_62 rfl ?_
          refine w_bipush gz_185_63 (by decide) ?_
          refine w_inv (k := 0) (as := [(0, 10)]) (r := []) (x := 151) (ls0 := [(2, 151), (0, 10)]) gz_185_65 gm_177 rfl is_151 rd_10 rfl rfl rfl rfl rfl (c_Model_isWord_f0 (d := (d + 3)) (x1 := 10) (by omega) (by omega) (cf.trans (by omega)) (fun w464 => ?_) (fun w465 xp466 xp467 xp468 => ?_))
          ·
            show wp l rho (d + 4) 185 68 [(2, 151), (0, 0), (0, 0), (0, 1), (0, 1), (9, 0), (9, 0), (9, 0)] [(0, 0)] h Q
            refine w_ifne (t := 88) gz_185_68 rfl (fun u469 => by exfalso; omega) (fun u469 => ?_)
            refine w_aload_n gz_185_71 rfl ?_
            refine w_getX (v := 167) gz_185_72 is_151 rd_10 rfl (by decide) rfl ?_
            refine w_bipush gz_185_75 (by decide) ?_
            refine w_iald gz_185_77 is_167 rd_66 (by omega) (by omega) (fun v471 ev471 pv471 qv471 => ?_)
            refine w_bipush gz_185_78 (by decide) ?_
            refine w_icne (t := 88) gz_185_80 rfl (fun u472 => ?_) (fun u472 => ?_)
            ·
              have ce473 : h 151 7 = k151_7 := ek151_7.symm
              have ce474 : h 151 8 = 0 := cf
              exact J88_0 (0) (0) (1) (1) (0) h (my_fr.rf) (by omega) (by omega) (by omega) (by omega) (by omega) (by omega) (by omega) (by omega) (by omega) (by omega) (ek151_7.symm.trans (by omega)) (cf.trans (by omega)) n_Tok n_Mq n_Wrd (by first | (intro q; exfalso; omega) | (intro _; assumption) | omega) (by first | (intro q; exfalso; omega) | (intro _ q; omega) | (intro _ q; exfalso; have w := n_Wrd; unfold Wrd at w; omega) | omega) (by omega)
            ·
              refine w_aload_n gz_185_83 rfl ?_
              refine w_iconst gz_185_84 (by decide) ?_
              refine w_inv (k := 0) (as := [(0, 5)]) (r := []) (x := 151) (ls0 := [(2, 151), (0, 5)]) gz_185_85 gm_178 rfl is_151 rd_10 rfl rfl rfl rfl rfl ?_
              refine w_aload_n gz_178_0 rfl ?_
              refine v_getI (j := 8) gz_178_1 rfl is_151 rd_10 rfl (fun v475 ev475 pv475 qv475 => ?_)
              have zv475 := ev475.trans cf
              refine w_ifne (t := 25) gz_178_4 rfl (fun u476 => by exfalso; omega) (fun u476 => ?_)
              refine w_aload_n gz_178_7 rfl ?_
              refine w_iload_n gz_178_8 rfl ?_
              refine w_bipush gz_178_9 (by decide) ?_
              refine w_aload_n gz_178_11 rfl ?_
              refine w_getX (v := 154) gz_178_12 is_151 rd_10 rfl (by decide) rfl ?_
              refine w_aload_n gz_178_15 rfl ?_
              refine v_getI (j := 7) gz_178_16 rfl is_151 rd_10 rfl (fun v478 ev478 pv478 qv478 => ?_)
              have zv478 := ev478.trans ek151_7.symm
              refine w_iald gz_178_19 is_154 rd_53 (by omega) (by omega) (fun v479 ev479 pv479 qv479 => ?_)
              refine w_imul gz_178_20 ⟨by omega, by omega⟩ ?_
              refine w_iadd gz_178_21 ⟨by omega, by omega⟩ ?_
              refine v_putI (j := 8) gz_178_22 rfl is_151 rd_10 rfl (by omega) (by omega) rfl (fun h480 fh480 => ?_)
              have gh480 : my_fr [(10, 7), (10, 8), (10, 27), (66, -1), (67, -1), (68, -1), (69, -1), (70, -1), (71, -1), (72, -1), (73, -1), (74, -1), (75, -1), (77, -1), (78, -1), (79, -1)] h h480 := my_fr.up my_fr.rf is_151 fh480 rfl
              have Tok_h480 : Tok h480 := Tok_ag (my_ag.up fh480 is_151 rfl) n_Tok
              have Mq_h480 : Mq h480 wv := Mq_ag (my_ag.up fh480 is_151 rfl) n_Mq
              have Wrd_h480 : Wrd h480 := Wrd_ag (my_ag.up fh480 is_151 rfl) n_Wrd
              refine w_vret gz_178_25 gm_178 ?_
              show wp l rho (d + 4) 185 88 [(2, 151), (0, 0), (0, 0), (0, 1), (0, 1), (9, 0), (9, 0), (9, 0)] [] h480 Q
              have ce481 : h480 151 7 = v478 := ((my_up_fld fh480 (by decide)).trans ev478.symm)
              have ce482 : h480 151 8 = (5 + (16 * v479)) := (my_up_self fh480)
              exact J88_0 (0) (0) (1) (1) ((5 + (16 * v479))) h480 (gh480) (by omega) (by omega) (by omega) (by omega) (by omega) (by omega) (by omega) (by omega) (by omega) (by omega) (((my_up_fld fh480 (by decide)).trans ev478.symm).trans (by omega)) ((my_up_self fh480).trans (by omega)) Tok_h480 Mq_h480 Wrd_h480 (by first | (intro q; exfalso; omega) | (intro _; assumption) | omega) (by first | (intro q; exfalso; omega) | (intro _ q; omega) | (intro _ q; exfalso; have w := Wrd_h480; unfold Wrd at w; omega) | omega) (by omega)
          ·
            show wp l rho (d + 4) 185 68 [(2, 151), (0, 0), (0, 0), (0, 1), (0, 1), (9, 0), (9, 0), (9, 0)] [(0, 1)] h Q
            refine w_ifne (t := 88) gz_185_68 rfl (fun u483 => ?_) (fun u483 => by exfalso; omega)
            have ce484 : h 151 7 = k151_7 := ek151_7.symm
            have ce485 : h 151 8 = 0 := cf
            exact J88_0 (0) (0) (1) (1) (0) h (my_fr.rf) (by omega) (by omega) (by omega) (by omega) (by omega) (by omega) (by omega) (by omega) (by omega) (by omega) (ek151_7.symm.trans (by omega)) (cf.trans (by omega)) n_Tok n_Mq n_Wrd (by first | (intro q; exfalso; omega) | (intro _; assumption) | omega) (by first | (intro q; exfalso; omega) | (intro _ q; omega) | (intro _ q; exfalso; have w := n_Wrd; unfold Wrd at w; omega) | omega) (by omega)
    ·
      show wp l rho (d + 4) 185 12 [(2, 151), (0, 0), (9, 0), (9, 0), (9, 0), (9, 0), (9, 0), (9, 0)] [(0, 1)] h Q
      refine w_istore_n (ls' := [(2, 151), (0, 0), (0, 1), (9, 0), (9, 0), (9, 0), (9, 0), (9, 0)]) gz_185_12 gm_185 rfl rfl rfl ?_
      refine w_aload_n gz_185_13 rfl ?_
      refine w_bipush gz_185_14 (by decide) ?_
      refine w_inv (k := 0) (as := [(0, 8)]) (r := []) (x := 151) (ls0 := [(2, 151), (0, 8)]) gz_185_16 gm_177 rfl is_151 rd_10 rfl rfl rfl rfl rfl (c_Model_isWord_f0 (d := (d + 3)) (x1 := 8) (by omega) (by omega) (cf.trans (by omega)) (fun w486 => ?_) (fun w487 xp488 xp489 xp490 => ?_))
      ·
        show wp l rho (d + 4) 185 19 [(2, 151), (0, 0), (0, 1), (9, 0), (9, 0), (9, 0), (9, 0), (9, 0)] [(0, 0)] h Q
        refine w_istore_n (ls' := [(2, 151), (0, 0), (0, 1), (0, 0), (9, 0), (9, 0), (9, 0), (9, 0)]) gz_185_19 gm_185 rfl rfl rfl ?_
        refine w_aload_n gz_185_20 rfl ?_
        refine w_bipush gz_185_21 (by decide) ?_
        refine w_inv (k := 0) (as := [(0, 11)]) (r := []) (x := 151) (ls0 := [(2, 151), (0, 11)]) gz_185_23 gm_177 rfl is_151 rd_10 rfl rfl rfl rfl rfl (c_Model_isWord_f0 (d := (d + 3)) (x1 := 11) (by omega) (by omega) (cf.trans (by omega)) (fun w491 => ?_) (fun w492 xp493 xp494 xp495 => ?_))
        ·
          show wp l rho (d + 4) 185 26 [(2, 151), (0, 0), (0, 1), (0, 0), (9, 0), (9, 0), (9, 0), (9, 0)] [(0, 0)] h Q
          refine w_istore (ls' := [(2, 151), (0, 0), (0, 1), (0, 0), (0, 0), (9, 0), (9, 0), (9, 0)]) gz_185_26 gm_185 rfl rfl rfl ?_
          refine w_iload_n gz_185_28 rfl ?_
          refine w_ifne (t := 62) gz_185_29 rfl (fun u496 => by exfalso; omega) (fun u496 => ?_)
          refine w_iload_n gz_185_32 rfl ?_
          refine w_ifne (t := 62) gz_185_33 rfl (fun u497 => ?_) (fun u497 => by exfalso; omega)
          refine w_aload_n gz_185_62 rfl ?_
          refine w_bipush gz_185_63 (by decide) ?_
          refine w_inv (k := 0) (as := [(0, 10)]) (r := []) (x := 151) (ls0 := [(2, 151), (0, 10)]) gz_185_65 gm_177 rfl is_151 rd_10 rfl rfl rfl rfl rfl (c_Model_isWord_f0 (d := (d + 3)) (x1 := 10) (by omega) (by omega) (cf.trans (by omega)) (fun w498 => ?_) (fun w499 xp500 xp501 xp502 => ?_))
          ·
            show wp l rho (d + 4) 185 68 [(2, 151), (0, 0), (0, 1), (0, 0), (0, 0), (9, 0), (9, 0), (9, 0)] [(0, 0)] h Q
            refine w_ifne (t := 88) gz_185_68 rfl (fun u503 => by exfalso; omega) (fun u503 => ?_)
            refine w_aload_n gz_185_71 rfl ?_
            refine w_getX (v := 167) gz_185_72 is_151 rd_10 rfl (by decide) rfl ?_
            refine w_bipush gz_185_75 (by decide) ?_
            refine w_iald gz_185_77 is_167 rd_66 (by omega) (by omega) (fun v505 ev505 pv505 qv505 => ?_)
            refine w_bipush gz_185_78 (by decide) ?_
            refine w_icne (t := 88) gz_185_80 rfl (fun u506 => ?_) (fun u506 => ?_)
            ·
              have ce507 : h 151 7 = k151_7 := ek151_7.symm
              have ce508 : h 151 8 = 0 := cf
              exact J88_0 (0) (1) (0) (0) (0) h (my_fr.rf) (by omega) (by omega) (by omega) (by omega) (by omega) (by omega) (by omega) (by omega) (by omega) (by omega) (ek151_7.symm.trans (by omega)) (cf.trans (by omega)) n_Tok n_Mq n_Wrd (by first | (intro q; exfalso; omega) | (intro _; assumption) | omega) (by first | (intro q; exfalso; omega) | (intro _ q; omega) | (intro _ q; exfalso; have w := n_Wrd; unfold Wrd at w; omega) | omega) (by omega)
            ·
              refine w_aload_n gz_185_83 rfl ?_
              refine w_iconst gz_185_84 (by decide) ?_
              refine w_inv (k := 0) (as := [(0, 5)]) (r := []) (x := 151) (ls0 := [(2, 151), (0, 5)]) gz_185_85 gm_178 rfl is_151 rd_10 rfl rfl rfl rfl rfl ?_
              refine w_aload_n gz_178_0 rfl ?_
              refine v_getI (j := 8) gz_178_1 rfl is_151 rd_10 rfl (fun v509 ev509 pv509 qv509 => ?_)
              have zv509 := ev509.trans cf
              refine w_ifne (t := 25) gz_178_4 rfl (fun u510 => by exfalso; omega) (fun u510 => ?_)
              refine w_aload_n gz_178_7 rfl ?_
              refine w_iload_n gz_178_8 rfl ?_
              refine w_bipush gz_178_9 (by decide) ?_
              refine w_aload_n gz_178_11 rfl ?_
              refine w_getX (v := 154) gz_178_12 is_151 rd_10 rfl (by decide) rfl ?_
              refine w_aload_n gz_178_15 rfl ?_
              refine v_getI (j := 7) gz_178_16 rfl is_151 rd_10 rfl (fun v512 ev512 pv512 qv512 => ?_)
              have zv512 := ev512.trans ek151_7.symm
              refine w_iald gz_178_19 is_154 rd_53 (by omega) (by omega) (fun v513 ev513 pv513 qv513 => ?_)
              refine w_imul gz_178_20 ⟨by omega, by omega⟩ ?_
              refine w_iadd gz_178_21 ⟨by omega, by omega⟩ ?_
              refine v_putI (j := 8) gz_178_22 rfl is_151 rd_10 rfl (by omega) (by omega) rfl (fun h514 fh514 => ?_)
              have gh514 : my_fr [(10, 7), (10, 8), (10, 27), (66, -1), (67, -1), (68, -1), (69, -1), (70, -1), (71, -1), (72, -1), (73, -1), (74, -1), (75, -1), (77, -1), (78, -1), (79, -1)] h h514 := my_fr.up my_fr.rf is_151 fh514 rfl
              have Tok_h514 : Tok h514 := Tok_ag (my_ag.up fh514 is_151 rfl) n_Tok
              have Mq_h514 : Mq h514 wv := Mq_ag (my_ag.up fh514 is_151 rfl) n_Mq
              have Wrd_h514 : Wrd h514 := Wrd_ag (my_ag.up fh514 is_151 rfl) n_Wrd
              refine w_vret gz_178_25 gm_178 ?_
              show wp l rho (d + 4) 185 88 [(2, 151), (0, 0), (0, 1), (0, 0), (0, 0), (9, 0), (9, 0), (9, 0)] [] h514 Q
              have ce515 : h514 151 7 = v512 := ((my_up_fld fh514 (by decide)).trans ev512.symm)
              have ce516 : h514 151 8 = (5 + (16 * v513)) := (my_up_self fh514)
              exact J88_0 (0) (1) (0) (0) ((5 + (16 * v513))) h514 (gh514) (by omega) (by omega) (by omega) (by omega) (by omega) (by omega) (by omega) (by omega) (by omega) (by omega) (((my_up_fld fh514 (by decide)).trans ev512.symm).trans (by omega)) ((my_up_self fh514).trans (by omega)) Tok_h514 Mq_h514 Wrd_h514 (by first | (intro q; exfalso; omega) | (intro _; assumption) | omega) (by first | (intro q; exfalso; omega) | (intro _ q; omega) | (intro _ q; exfalso; have w := Wrd_h514; unfold Wrd at w; omega) | omega) (by omega)
          ·
            show wp l rho (d + 4) 185 68 [(2, 151), (0, 0), (0, 1), (0, 0), (0, 0), (9, 0), (9, 0), (9, 0)] [(0, 1)] h Q
            refine w_ifne (t := 88) gz_185_68 rfl (fun u517 => ?_) (fun u517 => by exfalso; omega)
            have ce518 : h 151 7 = k151_7 := ek151_7.symm
            have ce519 : h 151 8 = 0 := cf
            exact J88_0 (0) (1) (0) (0) (0) h (my_fr.rf) (by omega) (by omega) (by omega) (by omega) (by omega) (by omega) (by omega) (by omega) (by omega) (by omega) (ek151_7.symm.trans (by omega)) (cf.trans (by omega)) n_Tok n_Mq n_Wrd (by first | (intro q; exfalso; omega) | (intro _; assumption) | omega) (by first | (intro q; exfalso; omega) | (intro _ q; omega) | (intro _ q; exfalso; have w := n_Wrd; unfold Wrd at w; omega) | omega) (by omega)
        ·
          show wp l rho (d + 4) 185 26 [(2, 151), (0, 0), (0, 1), (0, 0), (9, 0), (9, 0), (9, 0), (9, 0)] [(0, 1)] h Q
          refine w_istore (ls' := [(2, 151), (0, 0), (0, 1), (0, 0), (0, 1), (9, 0), (9, 0), (9, 0)]) gz_185_26 gm_185 rfl rfl rfl ?_
          refine w_iload_n gz_185_28 rfl ?_
          refine w_ifne (t := 62) gz_185_29 rfl (fun u520 => by exfalso; omega) (fun u520 => ?_)
          refine w_iload_n gz_185_32 rfl ?_
          refine w_ifne (t := 62) gz_185_33 rfl (fun u521 => ?_) (fun u521 => by exfalso; omega)
          refine w_aload_n gz_185_62 rfl ?_
          refine w_bipush gz_185_63 (by decide) ?_
          refine w_inv (k := 0) (as := [(0, 10)]) (r := []) (x := 151) (ls0 := [(2, 151), (0, 10)]) gz_185_65 gm_177 rfl is_151 rd_10 rfl rfl rfl rfl rfl (c_Model_isWord_f0 (d := (d + 3)) (x1 := 10) (by omega) (by omega) (cf.trans (by omega)) (fun w522 => ?_) (fun w523 xp524 xp525 xp526 => ?_))
          ·
            show wp l rho (d + 4) 185 68 [(2, 151), (0, 0), (0, 1), (0, 0), (0, 1), (9, 0), (9, 0), (9, 0)] [(0, 0)] h Q
            refine w_ifne (t := 88) gz_185_68 rfl (fun u527 => by exfalso; omega) (fun u527 => ?_)
            refine w_aload_n gz_185_71 rfl ?_
            refine w_getX (v := 167) gz_185_72 is_151 rd_10 rfl (by decide) rfl ?_
            refine w_bipush gz_185_75 (by decide) ?_
            refine w_iald gz_185_77 is_167 rd_66 (by omega) (by omega) (fun v529 ev529 pv529 qv529 => ?_)
            refine w_bipush gz_185_78 (by decide) ?_
            refine w_icne (t := 88) gz_185_80 rfl (fun u530 => ?_) (fun u530 => ?_)
            ·
              have ce531 : h 151 7 = k151_7 := ek151_7.symm
              have ce532 : h 151 8 = 0 := cf
              exact J88_0 (0) (1) (0) (1) (0) h (my_fr.rf) (by omega) (by omega) (by omega) (by omega) (by omega) (by omega) (by omega) (by omega) (by omega) (by omega) (ek151_7.symm.trans (by omega)) (cf.trans (by omega)) n_Tok n_Mq n_Wrd (by first | (intro q; exfalso; omega) | (intro _; assumption) | omega) (by first | (intro q; exfalso; omega) | (intro _ q; omega) | (intro _ q; exfalso; have w := n_Wrd; unfold Wrd at w; omega) | omega) (by omega)
            ·
              refine w_aload_n gz_185_83 rfl ?_
              refine w_iconst gz_185_84 (by decide) ?_
              refine w_inv (k := 0) (as := [(0, 5)]) (r := []) (x := 151) (ls0 := [(2, 151), (0, 5)]) gz_185_85 gm_178 rfl is_151 rd_10 rfl rfl rfl rfl rfl ?_
              refine w_aload_n gz_178_0 rfl ?_
              refine v_getI (j := 8) gz_178_1 rfl is_151 rd_10 rfl (fun v533 ev533 pv533 qv533 => ?_)
              have zv533 := ev533.trans cf
              refine w_ifne (t := 25) gz_178_4 rfl (fun u534 => by exfalso; omega) (fun u534 => ?_)
              refine w_aload_n gz_178_7 rfl ?_
              refine w_iload_n gz_178_8 rfl ?_
              refine w_bipush gz_178_9 (by decide) ?_
              refine w_aload_n gz_178_11 rfl ?_
              refine w_getX (v := 154) gz_178_12 is_151 rd_10 rfl (by decide) rfl ?_
              refine w_aload_n gz_178_15 rfl ?_
              refine v_getI (j := 7) gz_178_16 rfl is_151 rd_10 rfl (fun v536 ev536 pv536 qv536 => ?_)
              have zv536 := ev536.trans ek151_7.symm
              refine w_iald gz_178_19 is_154 rd_53 (by omega) (by omega) (fun v537 ev537 pv537 qv537 => ?_)
              refine w_imul gz_178_20 ⟨by omega, by omega⟩ ?_
              refine w_iadd gz_178_21 ⟨by omega, by omega⟩ ?_
              refine v_putI (j := 8) gz_178_22 rfl is_151 rd_10 rfl (by omega) (by omega) rfl (fun h538 fh538 => ?_)
              have gh538 : my_fr [(10, 7), (10, 8), (10, 27), (66, -1), (67, -1), (68, -1), (69, -1), (70, -1), (71, -1), (72, -1), (73, -1), (74, -1), (75, -1), (77, -1), (78, -1), (79, -1)] h h538 := my_fr.up my_fr.rf is_151 fh538 rfl
              have Tok_h538 : Tok h538 := Tok_ag (my_ag.up fh538 is_151 rfl) n_Tok
              have Mq_h538 : Mq h538 wv := Mq_ag (my_ag.up fh538 is_151 rfl) n_Mq
              have Wrd_h538 : Wrd h538 := Wrd_ag (my_ag.up fh538 is_151 rfl) n_Wrd
              refine w_vret gz_178_25 gm_178 ?_
              show wp l rho (d + 4) 185 88 [(2, 151), (0, 0), (0, 1), (0, 0), (0, 1), (9, 0), (9, 0), (9, 0)] [] h538 Q
              have ce539 : h538 151 7 = v536 := ((my_up_fld fh538 (by decide)).trans ev536.symm)
              have ce540 : h538 151 8 = (5 + (16 * v537)) := (my_up_self fh538)
              exact J88_0 (0) (1) (0) (1) ((5 + (16 * v537))) h538 (gh538) (by omega) (by omega) (by omega) (by omega) (by omega) (by omega) (by omega) (by omega) (by omega) (by omega) (((my_up_fld fh538 (by decide)).trans ev536.symm).trans (by omega)) ((my_up_self fh538).trans (by omega)) Tok_h538 Mq_h538 Wrd_h538 (by first | (intro q; exfalso; omega) | (intro _; assumption) | omega) (by first | (intro q; exfalso; omega) | (intro _ q; omega) | (intro _ q; exfalso; have w := Wrd_h538; unfold Wrd at w; omega) | omega) (by omega)
          ·
            show wp l rho (d + 4) 185 68 [(2, 151), (0, 0), (0, 1), (0, 0), (0, 1), (9, 0), (9, 0), (9, 0)] [(0, 1)] h Q
            refine w_ifne (t := 88) gz_185_68 rfl (fun u541 => ?_) (fun u541 => by exfalso; omega)
            have ce542 : h 151 7 = k151_7 := ek151_7.symm
            have ce543 : h 151 8 = 0 := cf
            exact J88_0 (0) (1) (0) (1) (0) h (my_fr.rf) (by omega) (by omega) (by omega) (by omega) (by omega) (by omega) (by omega) (by omega) (by omega) (by omega) (ek151_7.symm.trans (by omega)) (cf.trans (by omega)) n_Tok n_Mq n_Wrd (by first | (intro q; exfalso; omega) | (intro _; assumption) | omega) (by first | (intro q; exfalso; omega) | (intro _ q; omega) | (intro _ q; exfalso; have w := n_Wrd; unfold Wrd at w; omega) | omega) (by omega)
      ·
        show wp l rho (d + 4) 185 19 [(2, 151), (0, 0), (0, 1), (9, 0), (9, 0), (9, 0), (9, 0), (9, 0)] [(0, 1)] h Q
        refine w_istore_n (ls' := [(2, 151), (0, 0), (0, 1), (0, 1), (9, 0), (9, 0), (9, 0), (9, 0)]) gz_185_19 gm_185 rfl rfl rfl ?_
        refine w_aload_n gz_185_20 rfl ?_
        refine w_bipush gz_185_21 (by decide) ?_
        refine w_inv (k := 0) (as := [(0, 11)]) (r := []) (x := 151) (ls0 := [(2, 151), (0, 11)]) gz_185_23 gm_177 rfl is_151 rd_10 rfl rfl rfl rfl rfl (c_Model_isWord_f0 (d := (d + 3)) (x1 := 11) (by omega) (by omega) (cf.trans (by omega)) (fun w544 => ?_) (fun w545 xp546 xp547 xp548 => ?_))
        ·
          show wp l rho (d + 4) 185 26 [(2, 151), (0, 0), (0, 1), (0, 1), (9, 0), (9, 0), (9, 0), (9, 0)] [(0, 0)] h Q
          refine w_istore (ls' := [(2, 151), (0, 0), (0, 1), (0, 1), (0, 0), (9, 0), (9, 0), (9, 0)]) gz_185_26 gm_185 rfl rfl rfl ?_
          refine w_iload_n gz_185_28 rfl ?_
          refine w_ifne (t := 62) gz_185_29 rfl (fun u549 => by exfalso; omega) (fun u549 => ?_)
          refine w_iload_n gz_185_32 rfl ?_
          refine w_ifne (t := 62) gz_185_33 rfl (fun u550 => ?_) (fun u550 => by exfalso; omega)
          refine w_aload_n gz_185_62 rfl ?_
          refine w_bipush gz_185_63 (by decide) ?_
          refine w_inv (k := 0) (as := [(0, 10)]) (r := []) (x := 151) (ls0 := [(2, 151), (0, 10)]) gz_185_65 gm_177 rfl is_151 rd_10 rfl rfl rfl rfl rfl (c_Model_isWord_f0 (d := (d + 3)) (x1 := 10) (by omega) (by omega) (cf.trans (by omega)) (fun w551 => ?_) (fun w552 xp553 xp554 xp555 => ?_))
          ·
            show wp l rho (d + 4) 185 68 [(2, 151), (0, 0), (0, 1), (0, 1), (0, 0), (9, 0), (9, 0), (9, 0)] [(0, 0)] h Q
            refine w_ifne (t := 88) gz_185_68 rfl (fun u556 => by exfalso; omega) (fun u556 => ?_)
            refine w_aload_n gz_185_71 rfl ?_
            refine w_getX (v := 167) gz_185_72 is_151 rd_10 rfl (by decide) rfl ?_
            refine w_bipush gz_185_75 (by decide) ?_
            refine w_iald gz_185_77 is_167 rd_66 (by omega) (by omega) (fun v558 ev558 pv558 qv558 => ?_)
            refine w_bipush gz_185_78 (by decide) ?_
            refine w_icne (t := 88) gz_185_80 rfl (fun u559 => ?_) (fun u559 => ?_)
            ·
              have ce560 : h 151 7 = k151_7 := ek151_7.symm
              have ce561 : h 151 8 = 0 := cf
              exact J88_0 (0) (1) (1) (0) (0) h (my_fr.rf) (by omega) (by omega) (by omega) (by omega) (by omega) (by omega) (by omega) (by omega) (by omega) (by omega) (ek151_7.symm.trans (by omega)) (cf.trans (by omega)) n_Tok n_Mq n_Wrd (by first | (intro q; exfalso; omega) | (intro _; assumption) | omega) (by first | (intro q; exfalso; omega) | (intro _ q; omega) | (intro _ q; exfalso; have w := n_Wrd; unfold Wrd at w; omega) | omega) (by omega)
            ·
              refine w_aload_n gz_185_83 rfl ?_
              refine w_iconst gz_185_84 (by decide) ?_
              refine w_inv (k := 0) (as := [(0, 5)]) (r := []) (x := 151) (ls0 := [(2, 151), (0, 5)]) gz_185_85 gm_178 rfl is_151 rd_10 rfl rfl rfl rfl rfl ?_
              refine w_aload_n gz_178_0 rfl ?_
              refine v_getI (j := 8) gz_178_1 rfl is_151 rd_10 rfl (fun v562 ev562 pv562 qv562 => ?_)
              have zv562 := ev562.trans cf
              refine w_ifne (t := 25) gz_178_4 rfl (fun u563 => by exfalso; omega) (fun u563 => ?_)
              refine w_aload_n gz_178_7 rfl ?_
              refine w_iload_n gz_178_8 rfl ?_
              refine w_bipush gz_178_9 (by decide) ?_
              refine w_aload_n gz_178_11 rfl ?_
              refine w_getX (v := 154) gz_178_12 is_151 rd_10 rfl (by decide) rfl ?_
              refine w_aload_n gz_178_15 rfl ?_
              refine v_getI (j := 7) gz_178_16 rfl is_151 rd_10 rfl (fun v565 ev565 pv565 qv565 => ?_)
              have zv565 := ev565.trans ek151_7.symm
              refine w_iald gz_178_19 is_154 rd_53 (by omega) (by omega) (fun v566 ev566 pv566 qv566 => ?_)
              refine w_imul gz_178_20 ⟨by omega, by omega⟩ ?_
              refine w_iadd gz_178_21 ⟨by omega, by omega⟩ ?_
              refine v_putI (j := 8) gz_178_22 rfl is_151 rd_10 rfl (by omega) (by omega) rfl (fun h567 fh567 => ?_)
              have gh567 : my_fr [(10, 7), (10, 8), (10, 27), (66, -1), (67, -1), (68, -1), (69, -1), (70, -1), (71, -1), (72, -1), (73, -1), (74, -1), (75, -1), (77, -1), (78, -1), (79, -1)] h h567 := my_fr.up my_fr.rf is_151 fh567 rfl
              have Tok_h567 : Tok h567 := Tok_ag (my_ag.up fh567 is_151 rfl) n_Tok
              have Mq_h567 : Mq h567 wv := Mq_ag (my_ag.up fh567 is_151 rfl) n_Mq
              have Wrd_h567 : Wrd h567 := Wrd_ag (my_ag.up fh567 is_151 rfl) n_Wrd
              refine w_vret gz_178_25 gm_178 ?_
              show wp l rho (d + 4) 185 88 [(2, 151), (0, 0), (0, 1), (0, 1), (0, 0), (9, 0), (9, 0), (9, 0)] [] h567 Q
              have ce568 : h567 151 7 = v565 := ((my_up_fld fh567 (by decide)).trans ev565.symm)
              have ce569 : h567 151 8 = (5 + (16 * v566)) := (my_up_self fh567)
              exact J88_0 (0) (1) (1) (0) ((5 + (16 * v566))) h567 (gh567) (by omega) (by omega) (by omega) (by omega) (by omega) (by omega) (by omega) (by omega) (by omega) (by omega) (((my_up_fld fh567 (by decide)).trans ev565.symm).trans (by omega)) ((my_up_self fh567).trans (by omega)) Tok_h567 Mq_h567 Wrd_h567 (by first | (intro q; exfalso; omega) | (intro _; assumption) | omega) (by first | (intro q; exfalso; omega) | (intro _ q; omega) | (intro _ q; exfalso; have w := Wrd_h567; unfold Wrd at w; omega) | omega) (by omega)
          ·
            show wp l rho (d + 4) 185 68 [(2, 151), (0, 0), (0, 1), (0, 1), (0, 0), (9, 0), (9, 0), (9, 0)] [(0, 1)] h Q
            refine w_ifne (t := 88) gz_185_68 rfl (fun u570 => ?_) (fun u570 => by exfalso; omega)
            have ce571 : h 151 7 = k151_7 := ek151_7.symm
            have ce572 : h 151 8 = 0 := cf
            exact J88_0 (0) (1) (1) (0) (0) h (my_fr.rf) (by omega) (by omega) (by omega) (by omega) (by omega) (by omega) (by omega) (by omega) (by omega) (by omega) (ek151_7.symm.trans (by omega)) (cf.trans (by omega)) n_Tok n_Mq n_Wrd (by first | (intro q; exfalso; omega) | (intro _; assumption) | omega) (by first | (intro q; exfalso; omega) | (intro _ q; omega) | (intro _ q; exfalso; have w := n_Wrd; unfold Wrd at w; omega) | omega) (by omega)
        ·
          show wp l rho (d + 4) 185 26 [(2, 151), (0, 0), (0, 1), (0, 1), (9, 0), (9, 0), (9, 0), (9, 0)] [(0, 1)] h Q
          refine w_istore (ls' := [(2, 151), (0, 0), (0, 1), (0, 1), (0, 1), (9, 0), (9, 0), (9, 0)]) gz_185_26 gm_185 rfl rfl rfl ?_
          refine w_iload_n gz_185_28 rfl ?_
          refine w_ifne (t := 62) gz_185_29 rfl (fun u573 => by exfalso; omega) (fun u573 => ?_)
          refine w_iload_n gz_185_32 rfl ?_
          refine w_ifne (t := 62) gz_185_33 rfl (fun u574 => ?_) (fun u574 => by exfalso; omega)
          refine w_aload_n gz_185_62 rfl ?_
          refine w_bipush gz_185_63 (by decide) ?_
          refine w_inv (k := 0) (as := [(0, 10)]) (r := []) (x := 151) (ls0 := [(2, 151), (0, 10)]) gz_185_65 gm_177 rfl is_151 rd_10 rfl rfl rfl rfl rfl (c_Model_isWord_f0 (d := (d + 3)) (x1 := 10) (by omega) (by omega) (cf.trans (by omega)) (fun w575 => ?_) (fun w576 xp577 xp578 xp579 => ?_))
          ·
            show wp l rho (d + 4) 185 68 [(2, 151), (0, 0), (0, 1), (0, 1), (0, 1), (9, 0), (9, 0), (9, 0)] [(0, 0)] h Q
            refine w_ifne (t := 88) gz_185_68 rfl (fun u580 => by exfalso; omega) (fun u580 => ?_)
            refine w_aload_n gz_185_71 rfl ?_
            refine w_getX (v := 167) gz_185_72 is_151 rd_10 rfl (by decide) rfl ?_
            refine w_bipush gz_185_75 (by decide) ?_
            refine w_iald gz_185_77 is_167 rd_66 (by omega) (by omega) (fun v582 ev582 pv582 qv582 => ?_)
            refine w_bipush gz_185_78 (by decide) ?_
            refine w_icne (t := 88) gz_185_80 rfl (fun u583 => ?_) (fun u583 => ?_)
            ·
              have ce584 : h 151 7 = k151_7 := ek151_7.symm
              have ce585 : h 151 8 = 0 := cf
              exact J88_0 (0) (1) (1) (1) (0) h (my_fr.rf) (by omega) (by omega) (by omega) (by omega) (by omega) (by omega) (by omega) (by omega) (by omega) (by omega) (ek151_7.symm.trans (by omega)) (cf.trans (by omega)) n_Tok n_Mq n_Wrd (by first | (intro q; exfalso; omega) | (intro _; assumption) | omega) (by first | (intro q; exfalso; omega) | (intro _ q; omega) | (intro _ q; exfalso; have w := n_Wrd; unfold Wrd at w; omega) | omega) (by omega)
            ·
              refine w_aload_n gz_185_83 rfl ?_
              refine w_iconst gz_185_84 (by decide) ?_
              refine w_inv (k := 0) (as := [(0, 5)]) (r := []) (x := 151) (ls0 := [(2, 151), (0, 5)]) gz_185_85 gm_178 rfl is_151 rd_10 rfl rfl rfl rfl rfl ?_
              refine w_aload_n gz_178_0 rfl ?_
              refine v_getI (j := 8) gz_178_1 rfl is_151 rd_10 rfl (fun v586 ev586 pv586 qv586 => ?_)
              have zv586 := ev586.trans cf
              refine w_ifne (t := 25) gz_178_4 rfl (fun u587 => by exfalso; omega) (fun u587 => ?_)
              refine w_aload_n gz_178_7 rfl ?_
              refine w_iload_n gz_178_8 rfl ?_
              refine w_bipush gz_178_9 (by decide) ?_
              refine w_aload_n gz_178_11 rfl ?_
              refine w_getX (v := 154) gz_178_12 is_151 rd_10 rfl (by decide) rfl ?_
              refine w_aload_n gz_178_15 rfl ?_
              refine v_getI (j := 7) gz_178_16 rfl is_151 rd_10 rfl (fun v589 ev589 pv589 qv589 => ?_)
              have zv589 := ev589.trans ek151_7.symm
              refine w_iald gz_178_19 is_154 rd_53 (by omega) (by omega) (fun v590 ev590 pv590 qv590 => ?_)
              refine w_imul gz_178_20 ⟨by omega, by omega⟩ ?_
              refine w_iadd gz_178_21 ⟨by omega, by omega⟩ ?_
              refine v_putI (j := 8) gz_178_22 rfl is_151 rd_10 rfl (by omega) (by omega) rfl (fun h591 fh591 => ?_)
              have gh591 : my_fr [(10, 7), (10, 8), (10, 27), (66, -1), (67, -1), (68, -1), (69, -1), (70, -1), (71, -1), (72, -1), (73, -1), (74, -1), (75, -1), (77, -1), (78, -1), (79, -1)] h h591 := my_fr.up my_fr.rf is_151 fh591 rfl
              have Tok_h591 : Tok h591 := Tok_ag (my_ag.up fh591 is_151 rfl) n_Tok
              have Mq_h591 : Mq h591 wv := Mq_ag (my_ag.up fh591 is_151 rfl) n_Mq
              have Wrd_h591 : Wrd h591 := Wrd_ag (my_ag.up fh591 is_151 rfl) n_Wrd
              refine w_vret gz_178_25 gm_178 ?_
              show wp l rho (d + 4) 185 88 [(2, 151), (0, 0), (0, 1), (0, 1), (0, 1), (9, 0), (9, 0), (9, 0)] [] h591 Q
              have ce592 : h591 151 7 = v589 := ((my_up_fld fh591 (by decide)).trans ev589.symm)
              have ce593 : h591 151 8 = (5 + (16 * v590)) := (my_up_self fh591)
              exact J88_0 (0) (1) (1) (1) ((5 + (16 * v590))) h591 (gh591) (by omega) (by omega) (by omega) (by omega) (by omega) (by omega) (by omega) (by omega) (by omega) (by omega) (((my_up_fld fh591 (by decide)).trans ev589.symm).trans (by omega)) ((my_up_self fh591).trans (by omega)) Tok_h591 Mq_h591 Wrd_h591 (by first | (intro q; exfalso; omega) | (intro _; assumption) | omega) (by first | (intro q; exfalso; omega) | (intro _ q; omega) | (intro _ q; exfalso; have w := Wrd_h591; unfold Wrd at w; omega) | omega) (by omega)
          ·
            show wp l rho (d + 4) 185 68 [(2, 151), (0, 0), (0, 1), (0, 1), (0, 1), (9, 0), (9, 0), (9, 0)] [(0, 1)] h Q
            refine w_ifne (t := 88) gz_185_68 rfl (fun u594 => ?_) (fun u594 => by exfalso; omega)
            have ce595 : h 151 7 = k151_7 := ek151_7.symm
            have ce596 : h 151 8 = 0 := cf
            exact J88_0 (0) (1) (1) (1) (0) h (my_fr.rf) (by omega) (by omega) (by omega) (by omega) (by omega) (by omega) (by omega) (by omega) (by omega) (by omega) (ek151_7.symm.trans (by omega)) (cf.trans (by omega)) n_Tok n_Mq n_Wrd (by first | (intro q; exfalso; omega) | (intro _; assumption) | omega) (by first | (intro q; exfalso; omega) | (intro _ q; omega) | (intro _ q; exfalso; have w := n_Wrd; unfold Wrd at w; omega) | omega) (by omega)
  ·
    show wp l rho (d + 4) 185 5 [(2, 151), (9, 0), (9, 0), (9, 0), (9, 0), (9, 0), (9, 0), (9, 0)] [(0, 1)] h Q
    refine w_istore_n (ls' := [(2, 151), (0, 1), (9, 0), (9, 0), (9, 0), (9, 0), (9, 0), (9, 0)]) gz_185_5 gm_185 rfl rfl rfl ?_
    refine w_aload_n gz_185_6 rfl ?_
    refine w_bipush gz_185_7 (by decide) ?_
    refine w_inv (k := 0) (as := [(0, 7)]) (r := []) (x := 151) (ls0 := [(2, 151), (0, 7)]) gz_185_9 gm_177 rfl is_151 rd_10 rfl rfl rfl rfl rfl (c_Model_isWord_f0 (d := (d + 3)) (x1 := 7) (by omega) (by omega) (cf.trans (by omega)) (fun w597 => ?_) (fun w598 xp599 xp600 xp601 => ?_))
    ·
      show wp l rho (d + 4) 185 12 [(2, 151), (0, 1), (9, 0), (9, 0), (9, 0), (9, 0), (9, 0), (9, 0)] [(0, 0)] h Q
      refine w_istore_n (ls' := [(2, 151), (0, 1), (0, 0), (9, 0), (9, 0), (9, 0), (9, 0), (9, 0)]) gz_185_12 gm_185 rfl rfl rfl ?_
      refine w_aload_n gz_185_13 rfl ?_
      refine w_bipush gz_185_14 (by decide) ?_
      refine w_inv (k := 0) (as := [(0, 8)]) (r := []) (x := 151) (ls0 := [(2, 151), (0, 8)]) gz_185_16 gm_177 rfl is_151 rd_10 rfl rfl rfl rfl rfl (c_Model_isWord_f0 (d := (d + 3)) (x1 := 8) (by omega) (by omega) (cf.trans (by omega)) (fun w602 => ?_) (fun w603 xp604 xp605 xp606 => ?_))
      ·
        show wp l rho (d + 4) 185 19 [(2, 151), (0, 1), (0, 0), (9, 0), (9, 0), (9, 0), (9, 0), (9, 0)] [(0, 0)] h Q
        refine w_istore_n (ls' := [(2, 151), (0, 1), (0, 0), (0, 0), (9, 0), (9, 0), (9, 0), (9, 0)]) gz_185_19 gm_185 rfl rfl rfl ?_
        refine w_aload_n gz_185_20 rfl ?_
        refine w_bipush gz_185_21 (by decide) ?_
        refine w_inv (k := 0) (as := [(0, 11)]) (r := []) (x := 151) (ls0 := [(2, 151), (0, 11)]) gz_185_23 gm_177 rfl is_151 rd_10 rfl rfl rfl rfl rfl (c_Model_isWord_f0 (d := (d + 3)) (x1 := 11) (by omega) (by omega) (cf.trans (by omega)) (fun w607 => ?_) (fun w608 xp609 xp610 xp611 => ?_))
        ·
          show wp l rho (d + 4) 185 26 [(2, 151), (0, 1), (0, 0), (0, 0), (9, 0), (9, 0), (9, 0), (9, 0)] [(0, 0)] h Q
          refine w_istore (ls' := [(2, 151), (0, 1), (0, 0), (0, 0), (0, 0), (9, 0), (9, 0), (9, 0)]) gz_185_26 gm_185 rfl rfl rfl ?_
          refine w_iload_n gz_185_28 rfl ?_
          refine w_ifne (t := 62) gz_185_29 rfl (fun u612 => ?_) (fun u612 => by exfalso; omega)
          refine w_aload_n gz_185_62 rfl ?_
          refine w_bipush gz_185_63 (by decide) ?_
          refine w_inv (k := 0) (as := [(0, 10)]) (r := []) (x := 151) (ls0 := [(2, 151), (0, 10)]) gz_185_65 gm_177 rfl is_151 rd_10 rfl rfl rfl rfl rfl (c_Model_isWord_f0 (d := (d + 3)) (x1 := 10) (by omega) (by omega) (cf.trans (by omega)) (fun w613 => ?_) (fun w614 xp615 xp616 xp617 => ?_))
          ·
            show wp l rho (d + 4) 185 68 [(2, 151), (0, 1), (0, 0), (0, 0), (0, 0), (9, 0), (9, 0), (9, 0)] [(0, 0)] h Q
            refine w_ifne (t := 88) gz_185_68 rfl (fun u618 => by exfalso; omega) (fun u618 => ?_)
            refine w_aload_n gz_185_71 rfl ?_
            refine w_getX (v := 167) gz_185_72 is_151 rd_10 rfl (by decide) rfl ?_
            refine w_bipush gz_185_75 (by decide) ?_
            refine w_iald gz_185_77 is_167 rd_66 (by omega) (by omega) (fun v620 ev620 pv620 qv620 => ?_)
            refine w_bipush gz_185_78 (by decide) ?_
            refine w_icne (t := 88) gz_185_80 rfl (fun u621 => ?_) (fun u621 => ?_)
            ·
              have ce622 : h 151 7 = k151_7 := ek151_7.symm
              have ce623 : h 151 8 = 0 := cf
              exact J88_0 (1) (0) (0) (0) (0) h (my_fr.rf) (by omega) (by omega) (by omega) (by omega) (by omega) (by omega) (by omega) (by omega) (by omega) (by omega) (ek151_7.symm.trans (by omega)) (cf.trans (by omega)) n_Tok n_Mq n_Wrd (by first | (intro q; exfalso; omega) | (intro _; assumption) | omega) (by first | (intro q; exfalso; omega) | (intro _ q; omega) | (intro _ q; exfalso; have w := n_Wrd; unfold Wrd at w; omega) | omega) (by omega)
            ·
              refine w_aload_n gz_185_83 rfl ?_
              refine w_iconst gz_185_84 (by decide) ?_
              refine w_inv (k := 0) (as := [(0, 5)]) (r := []) (x := 151) (ls0 := [(2, 151), (0, 5)]) gz_185_85 gm_178 rfl is_151 rd_10 rfl rfl rfl rfl rfl ?_
              refine w_aload_n gz_178_0 rfl ?_
              refine v_getI (j := 8) gz_178_1 rfl is_151 rd_10 rfl (fun v624 ev624 pv624 qv624 => ?_)
              have zv624 := ev624.trans cf
              refine w_ifne (t := 25) gz_178_4 rfl (fun u625 => by exfalso; omega) (fun u625 => ?_)
              refine w_aload_n gz_178_7 rfl ?_
              refine w_iload_n gz_178_8 rfl ?_
              refine w_bipush gz_178_9 (by decide) ?_
              refine w_aload_n gz_178_11 rfl ?_
              refine w_getX (v := 154) gz_178_12 is_151 rd_10 rfl (by decide) rfl ?_
              refine w_aload_n gz_178_15 rfl ?_
              refine v_getI (j := 7) gz_178_16 rfl is_151 rd_10 rfl (fun v627 ev627 pv627 qv627 => ?_)
              have zv627 := ev627.trans ek151_7.symm
              refine w_iald gz_178_19 is_154 rd_53 (by omega) (by omega) (fun v628 ev628 pv628 qv628 => ?_)
              refine w_imul gz_178_20 ⟨by omega, by omega⟩ ?_
              refine w_iadd gz_178_21 ⟨by omega, by omega⟩ ?_
              refine v_putI (j := 8) gz_178_22 rfl is_151 rd_10 rfl (by omega) (by omega) rfl (fun h629 fh629 => ?_)
              have gh629 : my_fr [(10, 7), (10, 8), (10, 27), (66, -1), (67, -1), (68, -1), (69, -1), (70, -1), (71, -1), (72, -1), (73, -1), (74, -1), (75, -1), (77, -1), (78, -1), (79, -1)] h h629 := my_fr.up my_fr.rf is_151 fh629 rfl
              have Tok_h629 : Tok h629 := Tok_ag (my_ag.up fh629 is_151 rfl) n_Tok
              have Mq_h629 : Mq h629 wv := Mq_ag (my_ag.up fh629 is_151 rfl) n_Mq
              have Wrd_h629 : Wrd h629 := Wrd_ag (my_ag.up fh629 is_151 rfl) n_Wrd
              refine w_vret gz_178_25 gm_178 ?_
              show wp l rho (d + 4) 185 88 [(2, 151), (0, 1), (0, 0), (0, 0), (0, 0), (9, 0), (9, 0), (9, 0)] [] h629 Q
              have ce630 : h629 151 7 = v627 := ((my_up_fld fh629 (by decide)).trans ev627.symm)
              have ce631 : h629 151 8 = (5 + (16 * v628)) := (my_up_self fh629)
              exact J88_0 (1) (0) (0) (0) ((5 + (16 * v628))) h629 (gh629) (by omega) (by omega) (by omega) (by omega) (by omega) (by omega) (by omega) (by omega) (by omega) (by omega) (((my_up_fld fh629 (by decide)).trans ev627.symm).trans (by omega)) ((my_up_self fh629).trans (by omega)) Tok_h629 Mq_h629 Wrd_h629 (by first | (intro q; exfalso; omega) | (intro _; assumption) | omega) (by first | (intro q; exfalso; omega) | (intro _ q; omega) | (intro _ q; exfalso; have w := Wrd_h629; unfold Wrd at w; omega) | omega) (by omega)
          ·
            show wp l rho (d + 4) 185 68 [(2, 151), (0, 1), (0, 0), (0, 0), (0, 0), (9, 0), (9, 0), (9, 0)] [(0, 1)] h Q
            refine w_ifne (t := 88) gz_185_68 rfl (fun u632 => ?_) (fun u632 => by exfalso; omega)
            have ce633 : h 151 7 = k151_7 := ek151_7.symm
            have ce634 : h 151 8 = 0 := cf
            exact J88_0 (1) (0) (0) (0) (0) h (my_fr.rf) (by omega) (by omega) (by omega) (by omega) (by omega) (by omega) (by omega) (by omega) (by omega) (by omega) (ek151_7.symm.trans (by omega)) (cf.trans (by omega)) n_Tok n_Mq n_Wrd (by first | (intro q; exfalso; omega) | (intro _; assumption) | omega) (by first | (intro q; exfalso; omega) | (intro _ q; omega) | (intro _ q; exfalso; have w := n_Wrd; unfold Wrd at w; omega) | omega) (by omega)
        ·
          show wp l rho (d + 4) 185 26 [(2, 151), (0, 1), (0, 0), (0, 0), (9, 0), (9, 0), (9, 0), (9, 0)] [(0, 1)] h Q
          refine w_istore (ls' := [(2, 151), (0, 1), (0, 0), (0, 0), (0, 1), (9, 0), (9, 0), (9, 0)]) gz_185_26 gm_185 rfl rfl rfl ?_
          refine w_iload_n gz_185_28 rfl ?_
          refine w_ifne (t := 62) gz_185_29 rfl (fun u635 => ?_) (fun u635 => by exfalso; omega)
          refine w_aload_n gz_185_62 rfl ?_
          refine w_bipush gz_185_63 (by decide) ?_
          refine w_inv (k := 0) (as := [(0, 10)]) (r := []) (x := 151) (ls0 := [(2, 151), (0, 10)]) gz_185_65 gm_177 rfl is_151 rd_10 rfl rfl rfl rfl rfl (c_Model_isWord_f0 (d := (d + 3)) (x1 := 10) (by omega) (by omega) (cf.trans (by omega)) (fun w636 => ?_) (fun w637 xp638 xp639 xp640 => ?_))
          ·
            show wp l rho (d + 4) 185 68 [(2, 151), (0, 1), (0, 0), (0, 0), (0, 1), (9, 0), (9, 0), (9, 0)] [(0, 0)] h Q
            refine w_ifne (t := 88) gz_185_68 rfl (fun u641 => by exfalso; omega) (fun u641 => ?_)
            refine w_aload_n gz_185_71 rfl ?_
            refine w_getX (v := 167) gz_185_72 is_151 rd_10 rfl (by decide) rfl ?_
            refine w_bipush gz_185_75 (by decide) ?_
            refine w_iald gz_185_77 is_167 rd_66 (by omega) (by omega) (fun v643 ev643 pv643 qv643 => ?_)
            refine w_bipush gz_185_78 (by decide) ?_
            refine w_icne (t := 88) gz_185_80 rfl (fun u644 => ?_) (fun u644 => ?_)
            ·
              have ce645 : h 151 7 = k151_7 := ek151_7.symm
              have ce646 : h 151 8 = 0 := cf
              exact J88_0 (1) (0) (0) (1) (0) h (my_fr.rf) (by omega) (by omega) (by omega) (by omega) (by omega) (by omega) (by omega) (by omega) (by omega) (by omega) (ek151_7.symm.trans (by omega)) (cf.trans (by omega)) n_Tok n_Mq n_Wrd (by first | (intro q; exfalso; omega) | (intro _; assumption) | omega) (by first | (intro q; exfalso; omega) | (intro _ q; omega) | (intro _ q; exfalso; have w := n_Wrd; unfold Wrd at w; omega) | omega) (by omega)
            ·
              refine w_aload_n gz_185_83 rfl ?_
              refine w_iconst gz_185_84 (by decide) ?_
              refine w_inv (k := 0) (as := [(0, 5)]) (r := []) (x := 151) (ls0 := [(2, 151), (0, 5)]) gz_185_85 gm_178 rfl is_151 rd_10 rfl rfl rfl rfl rfl ?_
              refine w_aload_n gz_178_0 rfl ?_
              refine v_getI (j := 8) gz_178_1 rfl is_151 rd_10 rfl (fun v647 ev647 pv647 qv647 => ?_)
              have zv647 := ev647.trans cf
              refine w_ifne (t := 25) gz_178_4 rfl (fun u648 => by exfalso; omega) (fun u648 => ?_)
              refine w_aload_n gz_178_7 rfl ?_
              refine w_iload_n gz_178_8 rfl ?_
              refine w_bipush gz_178_9 (by decide) ?_
              refine w_aload_n gz_178_11 rfl ?_
              refine w_getX (v := 154) gz_178_12 is_151 rd_10 rfl (by decide) rfl ?_
              refine w_aload_n gz_178_15 rfl ?_
              refine v_getI (j := 7) gz_178_16 rfl is_151 rd_10 rfl (fun v650 ev650 pv650 qv650 => ?_)
              have zv650 := ev650.trans ek151_7.symm
              refine w_iald gz_178_19 is_154 rd_53 (by omega) (by omega) (fun v651 ev651 pv651 qv651 => ?_)
              refine w_imul gz_178_20 ⟨by omega, by omega⟩ ?_
              refine w_iadd gz_178_21 ⟨by omega, by omega⟩ ?_
              refine v_putI (j := 8) gz_178_22 rfl is_151 rd_10 rfl (by omega) (by omega) rfl (fun h652 fh652 => ?_)
              have gh652 : my_fr [(10, 7), (10, 8), (10, 27), (66, -1), (67, -1), (68, -1), (69, -1), (70, -1), (71, -1), (72, -1), (73, -1), (74, -1), (75, -1), (77, -1), (78, -1), (79, -1)] h h652 := my_fr.up my_fr.rf is_151 fh652 rfl
              have Tok_h652 : Tok h652 := Tok_ag (my_ag.up fh652 is_151 rfl) n_Tok
              have Mq_h652 : Mq h652 wv := Mq_ag (my_ag.up fh652 is_151 rfl) n_Mq
              have Wrd_h652 : Wrd h652 := Wrd_ag (my_ag.up fh652 is_151 rfl) n_Wrd
              refine w_vret gz_178_25 gm_178 ?_
              show wp l rho (d + 4) 185 88 [(2, 151), (0, 1), (0, 0), (0, 0), (0, 1), (9, 0), (9, 0), (9, 0)] [] h652 Q
              have ce653 : h652 151 7 = v650 := ((my_up_fld fh652 (by decide)).trans ev650.symm)
              have ce654 : h652 151 8 = (5 + (16 * v651)) := (my_up_self fh652)
              exact J88_0 (1) (0) (0) (1) ((5 + (16 * v651))) h652 (gh652) (by omega) (by omega) (by omega) (by omega) (by omega) (by omega) (by omega) (by omega) (by omega) (by omega) (((my_up_fld fh652 (by decide)).trans ev650.symm).trans (by omega)) ((my_up_self fh652).trans (by omega)) Tok_h652 Mq_h652 Wrd_h652 (by first | (intro q; exfalso; omega) | (intro _; assumption) | omega) (by first | (intro q; exfalso; omega) | (intro _ q; omega) | (intro _ q; exfalso; have w := Wrd_h652; unfold Wrd at w; omega) | omega) (by omega)
          ·
            show wp l rho (d + 4) 185 68 [(2, 151), (0, 1), (0, 0), (0, 0), (0, 1), (9, 0), (9, 0), (9, 0)] [(0, 1)] h Q
            refine w_ifne (t := 88) gz_185_68 rfl (fun u655 => ?_) (fun u655 => by exfalso; omega)
            have ce656 : h 151 7 = k151_7 := ek151_7.symm
            have ce657 : h 151 8 = 0 := cf
            exact J88_0 (1) (0) (0) (1) (0) h (my_fr.rf) (by omega) (by omega) (by omega) (by omega) (by omega) (by omega) (by omega) (by omega) (by omega) (by omega) (ek151_7.symm.trans (by omega)) (cf.trans (by omega)) n_Tok n_Mq n_Wrd (by first | (intro q; exfalso; omega) | (intro _; assumption) | omega) (by first | (intro q; exfalso; omega) | (intro _ q; omega) | (intro _ q; exfalso; have w := n_Wrd; unfold Wrd at w; omega) | omega) (by omega)
      ·
        show wp l rho (d + 4) 185 19 [(2, 151), (0, 1), (0, 0), (9, 0), (9, 0), (9, 0), (9, 0), (9, 0)] [(0, 1)] h Q
        refine w_istore_n (ls' := [(2, 151), (0, 1), (0, 0), (0, 1), (9, 0), (9, 0), (9, 0), (9, 0)]) gz_185_19 gm_185 rfl rfl rfl ?_
        refine w_aload_n gz_185_20 rfl ?_
        refine w_bipush gz_185_21 (by decide) ?_
        refine w_inv (k := 0) (as := [(0, 11)]) (r := []) (x := 151) (ls0 := [(2, 151), (0, 11)]) gz_185_23 gm_177 rfl is_151 rd_10 rfl rfl rfl rfl rfl (c_Model_isWord_f0 (d := (d + 3)) (x1 := 11) (by omega) (by omega) (cf.trans (by omega)) (fun w658 => ?_) (fun w659 xp660 xp661 xp662 => ?_))
        ·
          show wp l rho (d + 4) 185 26 [(2, 151), (0, 1), (0, 0), (0, 1), (9, 0), (9, 0), (9, 0), (9, 0)] [(0, 0)] h Q
          refine w_istore (ls' := [(2, 151), (0, 1), (0, 0), (0, 1), (0, 0), (9, 0), (9, 0), (9, 0)]) gz_185_26 gm_185 rfl rfl rfl ?_
          refine w_iload_n gz_185_28 rfl ?_
          refine w_ifne (t := 62) gz_185_29 rfl (fun u663 => ?_) (fun u663 => by exfalso; omega)
          refine w_aload_n gz_185_62 rfl ?_
          refine w_bipush gz_185_63 (by decide) ?_
          refine w_inv (k := 0) (as := [(0, 10)]) (r := []) (x := 151) (ls0 := [(2, 151), (0, 10)]) gz_185_65 gm_177 rfl is_151 rd_10 rfl rfl rfl rfl rfl (c_Model_isWord_f0 (d := (d + 3)) (x1 := 10) (by omega) (by omega) (cf.trans (by omega)) (fun w664 => ?_) (fun w665 xp666 xp667 xp668 => ?_))
          ·
            show wp l rho (d + 4) 185 68 [(2, 151), (0, 1), (0, 0), (0, 1), (0, 0), (9, 0), (9, 0), (9, 0)] [(0, 0)] h Q
            refine w_ifne (t := 88) gz_185_68 rfl (fun u669 => by exfalso; omega) (fun u669 => ?_)
            refine w_aload_n gz_185_71 rfl ?_
            refine w_getX (v := 167) gz_185_72 is_151 rd_10 rfl (by decide) rfl ?_
            refine w_bipush gz_185_75 (by decide) ?_
            refine w_iald gz_185_77 is_167 rd_66 (by omega) (by omega) (fun v671 ev671 pv671 qv671 => ?_)
            refine w_bipush gz_185_78 (by decide) ?_
            refine w_icne (t := 88) gz_185_80 rfl (fun u672 => ?_) (fun u672 => ?_)
            ·
              have ce673 : h 151 7 = k151_7 := ek151_7.symm
              have ce674 : h 151 8 = 0 := cf
              exact J88_0 (1) (0) (1) (0) (0) h (my_fr.rf) (by omega) (by omega) (by omega) (by omega) (by omega) (by omega) (by omega) (by omega) (by omega) (by omega) (ek151_7.symm.trans (by omega)) (cf.trans (by omega)) n_Tok n_Mq n_Wrd (by first | (intro q; exfalso; omega) | (intro _; assumption) | omega) (by first | (intro q; exfalso; omega) | (intro _ q; omega) | (intro _ q; exfalso; have w := n_Wrd; unfold Wrd at w; omega) | omega) (by omega)
            ·
              refine w_aload_n gz_185_83 rfl ?_
              refine w_iconst gz_185_84 (by decide) ?_
              refine w_inv (k := 0) (as := [(0, 5)]) (r := []) (x := 151) (ls0 := [(2, 151), (0, 5)]) gz_185_85 gm_178 rfl is_151 rd_10 rfl rfl rfl rfl rfl ?_
              refine w_aload_n gz_178_0 rfl ?_
              refine v_getI (j := 8) gz_178_1 rfl is_151 rd_10 rfl (fun v675 ev675 pv675 qv675 => ?_)
              have zv675 := ev675.trans cf
              refine w_ifne (t := 25) gz_178_4 rfl (fun u676 => by exfalso; omega) (fun u676 => ?_)
              refine w_aload_n gz_178_7 rfl ?_
              refine w_iload_n gz_178_8 rfl ?_
              refine w_bipush gz_178_9 (by decide) ?_
              refine w_aload_n gz_178_11 rfl ?_
              refine w_getX (v := 154) gz_178_12 is_151 rd_10 rfl (by decide) rfl ?_
              refine w_aload_n gz_178_15 rfl ?_
              refine v_getI (j := 7) gz_178_16 rfl is_151 rd_10 rfl (fun v678 ev678 pv678 qv678 => ?_)
              have zv678 := ev678.trans ek151_7.symm
              refine w_iald gz_178_19 is_154 rd_53 (by omega) (by omega) (fun v679 ev679 pv679 qv679 => ?_)
              refine w_imul gz_178_20 ⟨by omega, by omega⟩ ?_
              refine w_iadd gz_178_21 ⟨by omega, by omega⟩ ?_
              refine v_putI (j := 8) gz_178_22 rfl is_151 rd_10 rfl (by omega) (by omega) rfl (fun h680 fh680 => ?_)
              have gh680 : my_fr [(10, 7), (10, 8), (10, 27), (66, -1), (67, -1), (68, -1), (69, -1), (70, -1), (71, -1), (72, -1), (73, -1), (74, -1), (75, -1), (77, -1), (78, -1), (79, -1)] h h680 := my_fr.up my_fr.rf is_151 fh680 rfl
              have Tok_h680 : Tok h680 := Tok_ag (my_ag.up fh680 is_151 rfl) n_Tok
              have Mq_h680 : Mq h680 wv := Mq_ag (my_ag.up fh680 is_151 rfl) n_Mq
              have Wrd_h680 : Wrd h680 := Wrd_ag (my_ag.up fh680 is_151 rfl) n_Wrd
              refine w_vret gz_178_25 gm_178 ?_
              show wp l rho (d + 4) 185 88 [(2, 151), (0, 1), (0, 0), (0, 1), (0, 0), (9, 0), (9, 0), (9, 0)] [] h680 Q
              have ce681 : h680 151 7 = v678 := ((my_up_fld fh680 (by decide)).trans ev678.symm)
              have ce682 : h680 151 8 = (5 + (16 * v679)) := (my_up_self fh680)
              exact J88_0 (1) (0) (1) (0) ((5 + (16 * v679))) h680 (gh680) (by omega) (by omega) (by omega) (by omega) (by omega) (by omega) (by omega) (by omega) (by omega) (by omega) (((my_up_fld fh680 (by decide)).trans ev678.symm).trans (by omega)) ((my_up_self fh680).trans (by omega)) Tok_h680 Mq_h680 Wrd_h680 (by first | (intro q; exfalso; omega) | (intro _; assumption) | omega) (by first | (intro q; exfalso; omega) | (intro _ q; omega) | (intro _ q; exfalso; have w := Wrd_h680; unfold Wrd at w; omega) | omega) (by omega)
          ·
            show wp l rho (d + 4) 185 68 [(2, 151), (0, 1), (0, 0), (0, 1), (0, 0), (9, 0), (9, 0), (9, 0)] [(0, 1)] h Q
            refine w_ifne (t := 88) gz_185_68 rfl (fun u683 => ?_) (fun u683 => by exfalso; omega)
            have ce684 : h 151 7 = k151_7 := ek151_7.symm
            have ce685 : h 151 8 = 0 := cf
            exact J88_0 (1) (0) (1) (0) (0) h (my_fr.rf) (by omega) (by omega) (by omega) (by omega) (by omega) (by omega) (by omega) (by omega) (by omega) (by omega) (ek151_7.symm.trans (by omega)) (cf.trans (by omega)) n_Tok n_Mq n_Wrd (by first | (intro q; exfalso; omega) | (intro _; assumption) | omega) (by first | (intro q; exfalso; omega) | (intro _ q; omega) | (intro _ q; exfalso; have w := n_Wrd; unfold Wrd at w; omega) | omega) (by omega)
        ·
          show wp l rho (d + 4) 185 26 [(2, 151), (0, 1), (0, 0), (0, 1), (9, 0), (9, 0), (9, 0), (9, 0)] [(0, 1)] h Q
          refine w_istore (ls' := [(2, 151), (0, 1), (0, 0), (0, 1), (0, 1), (9, 0), (9, 0), (9, 0)]) gz_185_26 gm_185 rfl rfl rfl ?_
          refine w_iload_n gz_185_28 rfl ?_
          refine w_ifne (t := 62) gz_185_29 rfl (fun u686 => ?_) (fun u686 => by exfalso; omega)
          refine w_aload_n gz_185_62 rfl ?_
          refine w_bipush gz_185_63 (by decide) ?_
          refine w_inv (k := 0) (as := [(0, 10)]) (r := []) (x := 151) (ls0 := [(2, 151), (0, 10)]) gz_185_65 gm_177 rfl is_151 rd_10 rfl rfl rfl rfl rfl (c_Model_isWord_f0 (d := (d + 3)) (x1 := 10) (by omega) (by omega) (cf.trans (by omega)) (fun w687 => ?_) (fun w688 xp689 xp690 xp691 => ?_))
          ·
            show wp l rho (d + 4) 185 68 [(2, 151), (0, 1), (0, 0), (0, 1), (0, 1), (9, 0), (9, 0), (9, 0)] [(0, 0)] h Q
            refine w_ifne (t := 88) gz_185_68 rfl (fun u692 => by exfalso; omega) (fun u692 => ?_)
            refine w_aload_n gz_185_71 rfl ?_
            refine w_getX (v := 167) gz_185_72 is_151 rd_10 rfl (by decide) rfl ?_
            refine w_bipush gz_185_75 (by decide) ?_
            refine w_iald gz_185_77 is_167 rd_66 (by omega) (by omega) (fun v694 ev694 pv694 qv694 => ?_)
            refine w_bipush gz_185_78 (by decide) ?_
            refine w_icne (t := 88) gz_185_80 rfl (fun u695 => ?_) (fun u695 => ?_)
            ·
              have ce696 : h 151 7 = k151_7 := ek151_7.symm
              have ce697 : h 151 8 = 0 := cf
              exact J88_0 (1) (0) (1) (1) (0) h (my_fr.rf) (by omega) (by omega) (by omega) (by omega) (by omega) (by omega) (by omega) (by omega) (by omega) (by omega) (ek151_7.symm.trans (by omega)) (cf.trans (by omega)) n_Tok n_Mq n_Wrd (by first | (intro q; exfalso; omega) | (intro _; assumption) | omega) (by first | (intro q; exfalso; omega) | (intro _ q; omega) | (intro _ q; exfalso; have w := n_Wrd; unfold Wrd at w; omega) | omega) (by omega)
            ·
              refine w_aload_n gz_185_83 rfl ?_
              refine w_iconst gz_185_84 (by decide) ?_
              refine w_inv (k := 0) (as := [(0, 5)]) (r := []) (x := 151) (ls0 := [(2, 151), (0, 5)]) gz_185_85 gm_178 rfl is_151 rd_10 rfl rfl rfl rfl rfl ?_
              refine w_aload_n gz_178_0 rfl ?_
              refine v_getI (j := 8) gz_178_1 rfl is_151 rd_10 rfl (fun v698 ev698 pv698 qv698 => ?_)
              have zv698 := ev698.trans cf
              refine w_ifne (t := 25) gz_178_4 rfl (fun u699 => by exfalso; omega) (fun u699 => ?_)
              refine w_aload_n gz_178_7 rfl ?_
              refine w_iload_n gz_178_8 rfl ?_
              refine w_bipush gz_178_9 (by decide) ?_
              refine w_aload_n gz_178_11 rfl ?_
              refine w_getX (v := 154) gz_178_12 is_151 rd_10 rfl (by decide) rfl ?_
              refine w_aload_n gz_178_15 rfl ?_
              refine v_getI (j := 7) gz_178_16 rfl is_151 rd_10 rfl (fun v701 ev701 pv701 qv701 => ?_)
              have zv701 := ev701.trans ek151_7.symm
              refine w_iald gz_178_19 is_154 rd_53 (by omega) (by omega) (fun v702 ev702 pv702 qv702 => ?_)
              refine w_imul gz_178_20 ⟨by omega, by omega⟩ ?_
              refine w_iadd gz_178_21 ⟨by omega, by omega⟩ ?_
              refine v_putI (j := 8) gz_178_22 rfl is_151 rd_10 rfl (by omega) (by omega) rfl (fun h703 fh703 => ?_)
              have gh703 : my_fr [(10, 7), (10, 8), (10, 27), (66, -1), (67, -1), (68, -1), (69, -1), (70, -1), (71, -1), (72, -1), (73, -1), (74, -1), (75, -1), (77, -1), (78, -1), (79, -1)] h h703 := my_fr.up my_fr.rf is_151 fh703 rfl
              have Tok_h703 : Tok h703 := Tok_ag (my_ag.up fh703 is_151 rfl) n_Tok
              have Mq_h703 : Mq h703 wv := Mq_ag (my_ag.up fh703 is_151 rfl) n_Mq
              have Wrd_h703 : Wrd h703 := Wrd_ag (my_ag.up fh703 is_151 rfl) n_Wrd
              refine w_vret gz_178_25 gm_178 ?_
              show wp l rho (d + 4) 185 88 [(2, 151), (0, 1), (0, 0), (0, 1), (0, 1), (9, 0), (9, 0), (9, 0)] [] h703 Q
              have ce704 : h703 151 7 = v701 := ((my_up_fld fh703 (by decide)).trans ev701.symm)
              have ce705 : h703 151 8 = (5 + (16 * v702)) := (my_up_self fh703)
              exact J88_0 (1) (0) (1) (1) ((5 + (16 * v702))) h703 (gh703) (by omega) (by omega) (by omega) (by omega) (by omega) (by omega) (by omega) (by omega) (by omega) (by omega) (((my_up_fld fh703 (by decide)).trans ev701.symm).trans (by omega)) ((my_up_self fh703).trans (by omega)) Tok_h703 Mq_h703 Wrd_h703 (by first | (intro q; exfalso; omega) | (intro _; assumption) | omega) (by first | (intro q; exfalso; omega) | (intro _ q; omega) | (intro _ q; exfalso; have w := Wrd_h703; unfold Wrd at w; omega) | omega) (by omega)
          ·
            show wp l rho (d + 4) 185 68 [(2, 151), (0, 1), (0, 0), (0, 1), (0, 1), (9, 0), (9, 0), (9, 0)] [(0, 1)] h Q
            refine w_ifne (t := 88) gz_185_68 rfl (fun u706 => ?_) (fun u706 => by exfalso; omega)
            have ce707 : h 151 7 = k151_7 := ek151_7.symm
            have ce708 : h 151 8 = 0 := cf
            exact J88_0 (1) (0) (1) (1) (0) h (my_fr.rf) (by omega) (by omega) (by omega) (by omega) (by omega) (by omega) (by omega) (by omega) (by omega) (by omega) (ek151_7.symm.trans (by omega)) (cf.trans (by omega)) n_Tok n_Mq n_Wrd (by first | (intro q; exfalso; omega) | (intro _; assumption) | omega) (by first | (intro q; exfalso; omega) | (intro _ q; omega) | (intro _ q; exfalso; have w := n_Wrd; unfold Wrd at w; omega) | omega) (by omega)
    ·
      show wp l rho (d + 4) 185 12 [(2, 151), (0, 1), (9, 0), (9, 0), (9, 0), (9, 0), (9, 0), (9, 0)] [(0, 1)] h Q
      refine w_istore_n (ls' := [(2, 151), (0, 1), (0, 1), (9, 0), (9, 0), (9, 0), (9, 0), (9, 0)]) gz_185_12 gm_185 rfl rfl rfl ?_
      refine w_aload_n gz_185_13 rfl ?_
      refine w_bipush gz_185_14 (by decide) ?_
      refine w_inv (k := 0) (as := [(0, 8)]) (r := []) (x := 151) (ls0 := [(2, 151), (0, 8)]) gz_185_16 gm_177 rfl is_151 rd_10 rfl rfl rfl rfl rfl (c_Model_isWord_f0 (d := (d + 3)) (x1 := 8) (by omega) (by omega) (cf.trans (by omega)) (fun w709 => ?_) (fun w710 xp711 xp712 xp713 => ?_))
      ·
        show wp l rho (d + 4) 185 19 [(2, 151), (0, 1), (0, 1), (9, 0), (9, 0), (9, 0), (9, 0), (9, 0)] [(0, 0)] h Q
        refine w_istore_n (ls' := [(2, 151), (0, 1), (0, 1), (0, 0), (9, 0), (9, 0), (9, 0), (9, 0)]) gz_185_19 gm_185 rfl rfl rfl ?_
        refine w_aload_n gz_185_20 rfl ?_
        refine w_bipush gz_185_21 (by decide) ?_
        refine w_inv (k := 0) (as := [(0, 11)]) (r := []) (x := 151) (ls0 := [(2, 151), (0, 11)]) gz_185_23 gm_177 rfl is_151 rd_10 rfl rfl rfl rfl rfl (c_Model_isWord_f0 (d := (d + 3)) (x1 := 11) (by omega) (by omega) (cf.trans (by omega)) (fun w714 => ?_) (fun w715 xp716 xp717 xp718 => ?_))
        ·
          show wp l rho (d + 4) 185 26 [(2, 151), (0, 1), (0, 1), (0, 0), (9, 0), (9, 0), (9, 0), (9, 0)] [(0, 0)] h Q
          refine w_istore (ls' := [(2, 151), (0, 1), (0, 1), (0, 0), (0, 0), (9, 0), (9, 0), (9, 0)]) gz_185_26 gm_185 rfl rfl rfl ?_
          refine w_iload_n gz_185_28 rfl ?_
          refine w_ifne (t := 62) gz_185_29 rfl (fun u719 => ?_) (fun u719 => by exfalso; omega)
          refine w_aload_n gz_185_62 rfl ?_
          refine w_bipush gz_185_63 (by decide) ?_
          refine w_inv (k := 0) (as := [(0, 10)]) (r := []) (x := 151) (ls0 := [(2, 151), (0, 10)]) gz_185_65 gm_177 rfl is_151 rd_10 rfl rfl rfl rfl rfl (c_Model_isWord_f0 (d := (d + 3)) (x1 := 10) (by omega) (by omega) (cf.trans (by omega)) (fun w720 => ?_) (fun w721 xp722 xp723 xp724 => ?_))
          ·
            show wp l rho (d + 4) 185 68 [(2, 151), (0, 1), (0, 1), (0, 0), (0, 0), (9, 0), (9, 0), (9, 0)] [(0, 0)] h Q
            refine w_ifne (t := 88) gz_185_68 rfl (fun u725 => by exfalso; omega) (fun u725 => ?_)
            refine w_aload_n gz_185_71 rfl ?_
            refine w_getX (v := 167) gz_185_72 is_151 rd_10 rfl (by decide) rfl ?_
            refine w_bipush gz_185_75 (by decide) ?_
            refine w_iald gz_185_77 is_167 rd_66 (by omega) (by omega) (fun v727 ev727 pv727 qv727 => ?_)
            refine w_bipush gz_185_78 (by decide) ?_
            refine w_icne (t := 88) gz_185_80 rfl (fun u728 => ?_) (fun u728 => ?_)
            ·
              have ce729 : h 151 7 = k151_7 := ek151_7.symm
              have ce730 : h 151 8 = 0 := cf
              exact J88_0 (1) (1) (0) (0) (0) h (my_fr.rf) (by omega) (by omega) (by omega) (by omega) (by omega) (by omega) (by omega) (by omega) (by omega) (by omega) (ek151_7.symm.trans (by omega)) (cf.trans (by omega)) n_Tok n_Mq n_Wrd (by first | (intro q; exfalso; omega) | (intro _; assumption) | omega) (by first | (intro q; exfalso; omega) | (intro _ q; omega) | (intro _ q; exfalso; have w := n_Wrd; unfold Wrd at w; omega) | omega) (by omega)
            ·
              refine w_aload_n gz_185_83 rfl ?_
              refine w_iconst gz_185_84 (by decide) ?_
              refine w_inv (k := 0) (as := [(0, 5)]) (r := []) (x := 151) (ls0 := [(2, 151), (0, 5)]) gz_185_85 gm_178 rfl is_151 rd_10 rfl rfl rfl rfl rfl ?_
              refine w_aload_n gz_178_0 rfl ?_
              refine v_getI (j := 8) gz_178_1 rfl is_151 rd_10 rfl (fun v731 ev731 pv731 qv731 => ?_)
              have zv731 := ev731.trans cf
              refine w_ifne (t := 25) gz_178_4 rfl (fun u732 => by exfalso; omega) (fun u732 => ?_)
              refine w_aload_n gz_178_7 rfl ?_
              refine w_iload_n gz_178_8 rfl ?_
              refine w_bipush gz_178_9 (by decide) ?_
              refine w_aload_n gz_178_11 rfl ?_
              refine w_getX (v := 154) gz_178_12 is_151 rd_10 rfl (by decide) rfl ?_
              refine w_aload_n gz_178_15 rfl ?_
              refine v_getI (j := 7) gz_178_16 rfl is_151 rd_10 rfl (fun v734 ev734 pv734 qv734 => ?_)
              have zv734 := ev734.trans ek151_7.symm
              refine w_iald gz_178_19 is_154 rd_53 (by omega) (by omega) (fun v735 ev735 pv735 qv735 => ?_)
              refine w_imul gz_178_20 ⟨by omega, by omega⟩ ?_
              refine w_iadd gz_178_21 ⟨by omega, by omega⟩ ?_
              refine v_putI (j := 8) gz_178_22 rfl is_151 rd_10 rfl (by omega) (by omega) rfl (fun h736 fh736 => ?_)
              have gh736 : my_fr [(10, 7), (10, 8), (10, 27), (66, -1), (67, -1), (68, -1), (69, -1), (70, -1), (71, -1), (72, -1), (73, -1), (74, -1), (75, -1), (77, -1), (78, -1), (79, -1)] h h736 := my_fr.up my_fr.rf is_151 fh736 rfl
              have Tok_h736 : Tok h736 := Tok_ag (my_ag.up fh736 is_151 rfl) n_Tok
              have Mq_h736 : Mq h736 wv := Mq_ag (my_ag.up fh736 is_151 rfl) n_Mq
              have Wrd_h736 : Wrd h736 := Wrd_ag (my_ag.up fh736 is_151 rfl) n_Wrd
              refine w_vret gz_178_25 gm_178 ?_
              show wp l rho (d + 4) 185 88 [(2, 151), (0, 1), (0, 1), (0, 0), (0, 0), (9, 0), (9, 0), (9, 0)] [] h736 Q
              have ce737 : h736 151 7 = v734 := ((my_up_fld fh736 (by decide)).trans ev734.symm)
              have ce738 : h736 151 8 = (5 + (16 * v735)) := (my_up_self fh736)
              exact J88_0 (1) (1) (0) (0) ((5 + (16 * v735))) h736 (gh736) (by omega) (by omega) (by omega) (by omega) (by omega) (by omega) (by omega) (by omega) (by omega) (by omega) (((my_up_fld fh736 (by decide)).trans ev734.symm).trans (by omega)) ((my_up_self fh736).trans (by omega)) Tok_h736 Mq_h736 Wrd_h736 (by first | (intro q; exfalso; omega) | (intro _; assumption) | omega) (by first | (intro q; exfalso; omega) | (intro _ q; omega) | (intro _ q; exfalso; have w := Wrd_h736; unfold Wrd at w; omega) | omega) (by omega)
          ·
            show wp l rho (d + 4) 185 68 [(2, 151), (0, 1), (0, 1), (0, 0), (0, 0), (9, 0), (9, 0), (9, 0)] [(0, 1)] h Q
            refine w_ifne (t := 88) gz_185_68 rfl (fun u739 => ?_) (fun u739 => by exfalso; omega)
            have ce740 : h 151 7 = k151_7 := ek151_7.symm
            have ce741 : h 151 8 = 0 := cf
            exact J88_0 (1) (1) (0) (0) (0) h (my_fr.rf) (by omega) (by omega) (by omega) (by omega) (by omega) (by omega) (by omega) (by omega) (by omega) (by omega) (ek151_7.symm.trans (by omega)) (cf.trans (by omega)) n_Tok n_Mq n_Wrd (by first | (intro q; exfalso; omega) | (intro _; assumption) | omega) (by first | (intro q; exfalso; omega) | (intro _ q; omega) | (intro _ q; exfalso; have w := n_Wrd; unfold Wrd at w; omega) | omega) (by omega)
        ·
          show wp l rho (d + 4) 185 26 [(2, 151), (0, 1), (0, 1), (0, 0), (9, 0), (9, 0), (9, 0), (9, 0)] [(0, 1)] h Q
          refine w_istore (ls' := [(2, 151), (0, 1), (0, 1), (0, 0), (0, 1), (9, 0), (9, 0), (9, 0)]) gz_185_26 gm_185 rfl rfl rfl ?_
          refine w_iload_n gz_185_28 rfl ?_
          refine w_ifne (t := 62) gz_185_29 rfl (fun u742 => ?_) (fun u742 => by exfalso; omega)
          refine w_aload_n gz_185_62 rfl ?_
          refine w_bipush gz_185_63 (by decide) ?_
          refine w_inv (k := 0) (as := [(0, 10)]) (r := []) (x := 151) (ls0 := [(2, 151), (0, 10)]) gz_185_65 gm_177 rfl is_151 rd_10 rfl rfl rfl rfl rfl (c_Model_isWord_f0 (d := (d + 3)) (x1 := 10) (by omega) (by omega) (cf.trans (by omega)) (fun w743 => ?_) (fun w744 xp745 xp746 xp747 => ?_))
          ·
            show wp l rho (d + 4) 185 68 [(2, 151), (0, 1), (0, 1), (0, 0), (0, 1), (9, 0), (9, 0), (9, 0)] [(0, 0)] h Q
            refine w_ifne (t := 88) gz_185_68 rfl (fun u748 => by exfalso; omega) (fun u748 => ?_)
            refine w_aload_n gz_185_71 rfl ?_
            refine w_getX (v := 167) gz_185_72 is_151 rd_10 rfl (by decide) rfl ?_
            refine w_bipush gz_185_75 (by decide) ?_
            refine w_iald gz_185_77 is_167 rd_66 (by omega) (by omega) (fun v750 ev750 pv750 qv750 => ?_)
            refine w_bipush gz_185_78 (by decide) ?_
            refine w_icne (t := 88) gz_185_80 rfl (fun u751 => ?_) (fun u751 => ?_)
            ·
              have ce752 : h 151 7 = k151_7 := ek151_7.symm
              have ce753 : h 151 8 = 0 := cf
              exact J88_0 (1) (1) (0) (1) (0) h (my_fr.rf) (by omega) (by omega) (by omega) (by omega) (by omega) (by omega) (by omega) (by omega) (by omega) (by omega) (ek151_7.symm.trans (by omega)) (cf.trans (by omega)) n_Tok n_Mq n_Wrd (by first | (intro q; exfalso; omega) | (intro _; assumption) | omega) (by first | (intro q; exfalso; omega) | (intro _ q; omega) | (intro _ q; exfalso; have w := n_Wrd; unfold Wrd at w; omega) | omega) (by omega)
            ·
              refine w_aload_n gz_185_83 rfl ?_
              refine w_iconst gz_185_84 (by decide) ?_
              refine w_inv (k := 0) (as := [(0, 5)]) (r := []) (x := 151) (ls0 := [(2, 151), (0, 5)]) gz_185_85 gm_178 rfl is_151 rd_10 rfl rfl rfl rfl rfl ?_
              refine w_aload_n gz_178_0 rfl ?_
              refine v_getI (j := 8) gz_178_1 rfl is_151 rd_10 rfl (fun v754 ev754 pv754 qv754 => ?_)
              have zv754 := ev754.trans cf
              refine w_ifne (t := 25) gz_178_4 rfl (fun u755 => by exfalso; omega) (fun u755 => ?_)
              refine w_aload_n gz_178_7 rfl ?_
              refine w_iload_n gz_178_8 rfl ?_
              refine w_bipush gz_178_9 (by decide) ?_
              refine w_aload_n gz_178_11 rfl ?_
              refine w_getX (v := 154) gz_178_12 is_151 rd_10 rfl (by decide) rfl ?_
              refine w_aload_n gz_178_15 rfl ?_
              refine v_getI (j := 7) gz_178_16 rfl is_151 rd_10 rfl (fun v757 ev757 pv757 qv757 => ?_)
              have zv757 := ev757.trans ek151_7.symm
              refine w_iald gz_178_19 is_154 rd_53 (by omega) (by omega) (fun v758 ev758 pv758 qv758 => ?_)
              refine w_imul gz_178_20 ⟨by omega, by omega⟩ ?_
              refine w_iadd gz_178_21 ⟨by omega, by omega⟩ ?_
              refine v_putI (j := 8) gz_178_22 rfl is_151 rd_10 rfl (by omega) (by omega) rfl (fun h759 fh759 => ?_)
              have gh759 : my_fr [(10, 7), (10, 8), (10, 27), (66, -1), (67, -1), (68, -1), (69, -1), (70, -1), (71, -1), (72, -1), (73, -1), (74, -1), (75, -1), (77, -1), (78, -1), (79, -1)] h h759 := my_fr.up my_fr.rf is_151 fh759 rfl
              have Tok_h759 : Tok h759 := Tok_ag (my_ag.up fh759 is_151 rfl) n_Tok
              have Mq_h759 : Mq h759 wv := Mq_ag (my_ag.up fh759 is_151 rfl) n_Mq
              have Wrd_h759 : Wrd h759 := Wrd_ag (my_ag.up fh759 is_151 rfl) n_Wrd
              refine w_vret gz_178_25 gm_178 ?_
              show wp l rho (d + 4) 185 88 [(2, 151), (0, 1), (0, 1), (0, 0), (0, 1), (9, 0), (9, 0), (9, 0)] [] h759 Q
              have ce760 : h759 151 7 = v757 := ((my_up_fld fh759 (by decide)).trans ev757.symm)
              have ce761 : h759 151 8 = (5 + (16 * v758)) := (my_up_self fh759)
              exact J88_0 (1) (1) (0) (1) ((5 + (16 * v758))) h759 (gh759) (by omega) (by omega) (by omega) (by omega) (by omega) (by omega) (by omega) (by omega) (by omega) (by omega) (((my_up_fld fh759 (by decide)).trans ev757.symm).trans (by omega)) ((my_up_self fh759).trans (by omega)) Tok_h759 Mq_h759 Wrd_h759 (by first | (intro q; exfalso; omega) | (intro _; assumption) | omega) (by first | (intro q; exfalso; omega) | (intro _ q; omega) | (intro _ q; exfalso; have w := Wrd_h759; unfold Wrd at w; omega) | omega) (by omega)
          ·
            show wp l rho (d + 4) 185 68 [(2, 151), (0, 1), (0, 1), (0, 0), (0, 1), (9, 0), (9, 0), (9, 0)] [(0, 1)] h Q
            refine w_ifne (t := 88) gz_185_68 rfl (fun u762 => ?_) (fun u762 => by exfalso; omega)
            have ce763 : h 151 7 = k151_7 := ek151_7.symm
            have ce764 : h 151 8 = 0 := cf
            exact J88_0 (1) (1) (0) (1) (0) h (my_fr.rf) (by omega) (by omega) (by omega) (by omega) (by omega) (by omega) (by omega) (by omega) (by omega) (by omega) (ek151_7.symm.trans (by omega)) (cf.trans (by omega)) n_Tok n_Mq n_Wrd (by first | (intro q; exfalso; omega) | (intro _; assumption) | omega) (by first | (intro q; exfalso; omega) | (intro _ q; omega) | (intro _ q; exfalso; have w := n_Wrd; unfold Wrd at w; omega) | omega) (by omega)
      ·
        show wp l rho (d + 4) 185 19 [(2, 151), (0, 1), (0, 1), (9, 0), (9, 0), (9, 0), (9, 0), (9, 0)] [(0, 1)] h Q
        refine w_istore_n (ls' := [(2, 151), (0, 1), (0, 1), (0, 1), (9, 0), (9, 0), (9, 0), (9, 0)]) gz_185_19 gm_185 rfl rfl rfl ?_
        refine w_aload_n gz_185_20 rfl ?_
        refine w_bipush gz_185_21 (by decide) ?_
        refine w_inv (k := 0) (as := [(0, 11)]) (r := []) (x := 151) (ls0 := [(2, 151), (0, 11)]) gz_185_23 gm_177 rfl is_151 rd_10 rfl rfl rfl rfl rfl (c_Model_isWord_f0 (d := (d + 3)) (x1 := 11) (by omega) (by omega) (cf.trans (by omega)) (fun w765 => ?_) (fun w766 xp767 xp768 xp769 => ?_))
        ·
          show wp l rho (d + 4) 185 26 [(2, 151), (0, 1), (0, 1), (0, 1), (9, 0), (9, 0), (9, 0), (9, 0)] [(0, 0)] h Q
          refine w_istore (ls' := [(2, 151), (0, 1), (0, 1), (0, 1), (0, 0), (9, 0), (9, 0), (9, 0)]) gz_185_26 gm_185 rfl rfl rfl ?_
          refine w_iload_n gz_185_28 rfl ?_
          refine w_ifne (t := 62) gz_185_29 rfl (fun u770 => ?_) (fun u770 => by exfalso; omega)
          refine w_aload_n gz_185_62 rfl ?_
          refine w_bipush gz_185_63 (by decide) ?_
          refine w_inv (k := 0) (as := [(0, 10)]) (r := []) (x := 151) (ls0 := [(2, 151), (0, 10)]) gz_185_65 gm_177 rfl is_151 rd_10 rfl rfl rfl rfl rfl (c_Model_isWord_f0 (d := (d + 3)) (x1 := 10) (by omega) (by omega) (cf.trans (by omega)) (fun w771 => ?_) (fun w772 xp773 xp774 xp775 => ?_))
          ·
            show wp l rho (d + 4) 185 68 [(2, 151), (0, 1), (0, 1), (0, 1), (0, 0), (9, 0), (9, 0), (9, 0)] [(0, 0)] h Q
            refine w_ifne (t := 88) gz_185_68 rfl (fun u776 => by exfalso; omega) (fun u776 => ?_)
            refine w_aload_n gz_185_71 rfl ?_
            refine w_getX (v := 167) gz_185_72 is_151 rd_10 rfl (by decide) rfl ?_
            refine w_bipush gz_185_75 (by decide) ?_
            refine w_iald gz_185_77 is_167 rd_66 (by omega) (by omega) (fun v778 ev778 pv778 qv778 => ?_)
            refine w_bipush gz_185_78 (by decide) ?_
            refine w_icne (t := 88) gz_185_80 rfl (fun u779 => ?_) (fun u779 => ?_)
            ·
              have ce780 : h 151 7 = k151_7 := ek151_7.symm
              have ce781 : h 151 8 = 0 := cf
              exact J88_0 (1) (1) (1) (0) (0) h (my_fr.rf) (by omega) (by omega) (by omega) (by omega) (by omega) (by omega) (by omega) (by omega) (by omega) (by omega) (ek151_7.symm.trans (by omega)) (cf.trans (by omega)) n_Tok n_Mq n_Wrd (by first | (intro q; exfalso; omega) | (intro _; assumption) | omega) (by first | (intro q; exfalso; omega) | (intro _ q; omega) | (intro _ q; exfalso; have w := n_Wrd; unfold Wrd at w; omega) | omega) (by omega)
            ·
              refine w_aload_n gz_185_83 rfl ?_
              refine w_iconst gz_185_84 (by decide) ?_
              refine w_inv (k := 0) (as := [(0, 5)]) (r := []) (x := 151) (ls0 := [(2, 151), (0, 5)]) gz_185_85 gm_178 rfl is_151 rd_10 rfl rfl rfl rfl rfl ?_
              refine w_aload_n gz_178_0 rfl ?_
              refine v_getI (j := 8) gz_178_1 rfl is_151 rd_10 rfl (fun v782 ev782 pv782 qv782 => ?_)
              have zv782 := ev782.trans cf
              refine w_ifne (t := 25) gz_178_4 rfl (fun u783 => by exfalso; omega) (fun u783 => ?_)
              refine w_aload_n gz_178_7 rfl ?_
              refine w_iload_n gz_178_8 rfl ?_
              refine w_bipush gz_178_9 (by decide) ?_
              refine w_aload_n gz_178_11 rfl ?_
              refine w_getX (v := 154) gz_178_12 is_151 rd_10 rfl (by decide) rfl ?_
              refine w_aload_n gz_178_15 rfl ?_
              refine v_getI (j := 7) gz_178_16 rfl is_151 rd_10 rfl (fun v785 ev785 pv785 qv785 => ?_)
              have zv785 := ev785.trans ek151_7.symm
              refine w_iald gz_178_19 is_154 rd_53 (by omega) (by omega) (fun v786 ev786 pv786 qv786 => ?_)
              refine w_imul gz_178_20 ⟨by omega, by omega⟩ ?_
              refine w_iadd gz_178_21 ⟨by omega, by omega⟩ ?_
              refine v_putI (j := 8) gz_178_22 rfl is_151 rd_10 rfl (by omega) (by omega) rfl (fun h787 fh787 => ?_)
              have gh787 : my_fr [(10, 7), (10, 8), (10, 27), (66, -1), (67, -1), (68, -1), (69, -1), (70, -1), (71, -1), (72, -1), (73, -1), (74, -1), (75, -1), (77, -1), (78, -1), (79, -1)] h h787 := my_fr.up my_fr.rf is_151 fh787 rfl
              have Tok_h787 : Tok h787 := Tok_ag (my_ag.up fh787 is_151 rfl) n_Tok
              have Mq_h787 : Mq h787 wv := Mq_ag (my_ag.up fh787 is_151 rfl) n_Mq
              have Wrd_h787 : Wrd h787 := Wrd_ag (my_ag.up fh787 is_151 rfl) n_Wrd
              refine w_vret gz_178_25 gm_178 ?_
              show wp l rho (d + 4) 185 88 [(2, 151), (0, 1), (0, 1), (0, 1), (0, 0), (9, 0), (9, 0), (9, 0)] [] h787 Q
              have ce788 : h787 151 7 = v785 := ((my_up_fld fh787 (by decide)).trans ev785.symm)
              have ce789 : h787 151 8 = (5 + (16 * v786)) := (my_up_self fh787)
              exact J88_0 (1) (1) (1) (0) ((5 + (16 * v786))) h787 (gh787) (by omega) (by omega) (by omega) (by omega) (by omega) (by omega) (by omega) (by omega) (by omega) (by omega) (((my_up_fld fh787 (by decide)).trans ev785.symm).trans (by omega)) ((my_up_self fh787).trans (by omega)) Tok_h787 Mq_h787 Wrd_h787 (by first | (intro q; exfalso; omega) | (intro _; assumption) | omega) (by first | (intro q; exfalso; omega) | (intro _ q; omega) | (intro _ q; exfalso; have w := Wrd_h787; unfold Wrd at w; omega) | omega) (by omega)
          ·
            show wp l rho (d + 4) 185 68 [(2, 151), (0, 1), (0, 1), (0, 1), (0, 0), (9, 0), (9, 0), (9, 0)] [(0, 1)] h Q
            refine w_ifne (t := 88) gz_185_68 rfl (fun u790 => ?_) (fun u790 => by exfalso; omega)
            have ce791 : h 151 7 = k151_7 := ek151_7.symm
            have ce792 : h 151 8 = 0 := cf
            exact J88_0 (1) (1) (1) (0) (0) h (my_fr.rf) (by omega) (by omega) (by omega) (by omega) (by omega) (by omega) (by omega) (by omega) (by omega) (by omega) (ek151_7.symm.trans (by omega)) (cf.trans (by omega)) n_Tok n_Mq n_Wrd (by first | (intro q; exfalso; omega) | (intro _; assumption) | omega) (by first | (intro q; exfalso; omega) | (intro _ q; omega) | (intro _ q; exfalso; have w := n_Wrd; unfold Wrd at w; omega) | omega) (by omega)
        ·
          show wp l rho (d + 4) 185 26 [(2, 151), (0, 1), (0, 1), (0, 1), (9, 0), (9, 0), (9, 0), (9, 0)] [(0, 1)] h Q
          refine w_istore (ls' := [(2, 151), (0, 1), (0, 1), (0, 1), (0, 1), (9, 0), (9, 0), (9, 0)]) gz_185_26 gm_185 rfl rfl rfl ?_
          refine w_iload_n gz_185_28 rfl ?_
          refine w_ifne (t := 62) gz_185_29 rfl (fun u793 => ?_) (fun u793 => by exfalso; omega)
          refine w_aload_n gz_185_62 rfl ?_
          refine w_bipush gz_185_63 (by decide) ?_
          refine w_inv (k := 0) (as := [(0, 10)]) (r := []) (x := 151) (ls0 := [(2, 151), (0, 10)]) gz_185_65 gm_177 rfl is_151 rd_10 rfl rfl rfl rfl rfl (c_Model_isWord_f0 (d := (d + 3)) (x1 := 10) (by omega) (by omega) (cf.trans (by omega)) (fun w794 => ?_) (fun w795 xp796 xp797 xp798 => ?_))
          ·
            show wp l rho (d + 4) 185 68 [(2, 151), (0, 1), (0, 1), (0, 1), (0, 1), (9, 0), (9, 0), (9, 0)] [(0, 0)] h Q
            refine w_ifne (t := 88) gz_185_68 rfl (fun u799 => by exfalso; omega) (fun u799 => ?_)
            refine w_aload_n gz_185_71 rfl ?_
            refine w_getX (v := 167) gz_185_72 is_151 rd_10 rfl (by decide) rfl ?_
            refine w_bipush gz_185_75 (by decide) ?_
            refine w_iald gz_185_77 is_167 rd_66 (by omega) (by omega) (fun v801 ev801 pv801 qv801 => ?_)
            refine w_bipush gz_185_78 (by decide) ?_
            refine w_icne (t := 88) gz_185_80 rfl (fun u802 => ?_) (fun u802 => ?_)
            ·
              have ce803 : h 151 7 = k151_7 := ek151_7.symm
              have ce804 : h 151 8 = 0 := cf
              exact J88_0 (1) (1) (1) (1) (0) h (my_fr.rf) (by omega) (by omega) (by omega) (by omega) (by omega) (by omega) (by omega) (by omega) (by omega) (by omega) (ek151_7.symm.trans (by omega)) (cf.trans (by omega)) n_Tok n_Mq n_Wrd (by first | (intro q; exfalso; omega) | (intro _; assumption) | omega) (by first | (intro q; exfalso; omega) | (intro _ q; omega) | (intro _ q; exfalso; have w := n_Wrd; unfold Wrd at w; omega) | omega) (by omega)
            ·
              refine w_aload_n gz_185_83 rfl ?_
              refine w_iconst gz_185_84 (by decide) ?_
              refine w_inv (k := 0) (as := [(0, 5)]) (r := []) (x := 151) (ls0 := [(2, 151), (0, 5)]) gz_185_85 gm_178 rfl is_151 rd_10 rfl rfl rfl rfl rfl ?_
              refine w_aload_n gz_178_0 rfl ?_
              refine v_getI (j := 8) gz_178_1 rfl is_151 rd_10 rfl (fun v805 ev805 pv805 qv805 => ?_)
              have zv805 := ev805.trans cf
              refine w_ifne (t := 25) gz_178_4 rfl (fun u806 => by exfalso; omega) (fun u806 => ?_)
              refine w_aload_n gz_178_7 rfl ?_
              refine w_iload_n gz_178_8 rfl ?_
              refine w_bipush gz_178_9 (by decide) ?_
              refine w_aload_n gz_178_11 rfl ?_
              refine w_getX (v := 154) gz_178_12 is_151 rd_10 rfl (by decide) rfl ?_
              refine w_aload_n gz_178_15 rfl ?_
              refine v_getI (j := 7) gz_178_16 rfl is_151 rd_10 rfl (fun v808 ev808 pv808 qv808 => ?_)
              have zv808 := ev808.trans ek151_7.symm
              refine w_iald gz_178_19 is_154 rd_53 (by omega) (by omega) (fun v809 ev809 pv809 qv809 => ?_)
              refine w_imul gz_178_20 ⟨by omega, by omega⟩ ?_
              refine w_iadd gz_178_21 ⟨by omega, by omega⟩ ?_
              refine v_putI (j := 8) gz_178_22 rfl is_151 rd_10 rfl (by omega) (by omega) rfl (fun h810 fh810 => ?_)
              have gh810 : my_fr [(10, 7), (10, 8), (10, 27), (66, -1), (67, -1), (68, -1), (69, -1), (70, -1), (71, -1), (72, -1), (73, -1), (74, -1), (75, -1), (77, -1), (78, -1), (79, -1)] h h810 := my_fr.up my_fr.rf is_151 fh810 rfl
              have Tok_h810 : Tok h810 := Tok_ag (my_ag.up fh810 is_151 rfl) n_Tok
              have Mq_h810 : Mq h810 wv := Mq_ag (my_ag.up fh810 is_151 rfl) n_Mq
              have Wrd_h810 : Wrd h810 := Wrd_ag (my_ag.up fh810 is_151 rfl) n_Wrd
              refine w_vret gz_178_25 gm_178 ?_
              show wp l rho (d + 4) 185 88 [(2, 151), (0, 1), (0, 1), (0, 1), (0, 1), (9, 0), (9, 0), (9, 0)] [] h810 Q
              have ce811 : h810 151 7 = v808 := ((my_up_fld fh810 (by decide)).trans ev808.symm)
              have ce812 : h810 151 8 = (5 + (16 * v809)) := (my_up_self fh810)
              exact J88_0 (1) (1) (1) (1) ((5 + (16 * v809))) h810 (gh810) (by omega) (by omega) (by omega) (by omega) (by omega) (by omega) (by omega) (by omega) (by omega) (by omega) (((my_up_fld fh810 (by decide)).trans ev808.symm).trans (by omega)) ((my_up_self fh810).trans (by omega)) Tok_h810 Mq_h810 Wrd_h810 (by first | (intro q; exfalso; omega) | (intro _; assumption) | omega) (by first | (intro q; exfalso; omega) | (intro _ q; omega) | (intro _ q; exfalso; have w := Wrd_h810; unfold Wrd at w; omega) | omega) (by omega)
          ·
            show wp l rho (d + 4) 185 68 [(2, 151), (0, 1), (0, 1), (0, 1), (0, 1), (9, 0), (9, 0), (9, 0)] [(0, 1)] h Q
            refine w_ifne (t := 88) gz_185_68 rfl (fun u813 => ?_) (fun u813 => by exfalso; omega)
            have ce814 : h 151 7 = k151_7 := ek151_7.symm
            have ce815 : h 151 8 = 0 := cf
            exact J88_0 (1) (1) (1) (1) (0) h (my_fr.rf) (by omega) (by omega) (by omega) (by omega) (by omega) (by omega) (by omega) (by omega) (by omega) (by omega) (ek151_7.symm.trans (by omega)) (cf.trans (by omega)) n_Tok n_Mq n_Wrd (by first | (intro q; exfalso; omega) | (intro _; assumption) | omega) (by first | (intro q; exfalso; omega) | (intro _ q; omega) | (intro _ q; exfalso; have w := n_Wrd; unfold Wrd at w; omega) | omega) (by omega)
end MYNModel_readOver_f0
