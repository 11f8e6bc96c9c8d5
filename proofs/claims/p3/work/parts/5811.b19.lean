/-! contracts, printed by wip/gen/gy.py -/
section MYNModel_wall2
theorem c_Model_wall2 {l : Launch} {rho : Nat → Int32} {d : Nat} {h : my_H} {Q : my_H → my_V → Prop} {x1 x2 : Int} (n_Mw : Mw h) (n_Mw3 : Mw3 h) (k0 : ∀ (h' : my_H), my_fr [(10, 0), (56, -1)] h h' → h' 151 0 = 0 → Mw h' → Mw3 h' → Q h' (0, 0)) (k1 : ∀ (h' : my_H), my_fr [(10, 0), (56, -1)] h h' → 0 ≤ x1 → x1 ≤ 2 → 1 ≤ x2 → x2 ≤ 4 → h' 151 0 = 0 → Mw h' → Mw3 h' → Q h' (0, 1)) : wp l rho (d + 1) 146 0 [(2, 151), (0, x1), (0, x2)] [] h Q := by
  refine w_aload_n gz_146_0 rfl ?_
  refine w_iconst gz_146_1 (by decide) ?_
  refine v_putI (j := 0) gz_146_2 rfl is_151 rd_10 rfl (by omega) (by omega) rfl (fun h1 fh1 => ?_)
  have gh1 : my_fr [(10, 0), (56, -1)] h h1 := my_fr.up my_fr.rf is_151 fh1 rfl
  have Mw_h1 : Mw h1 := Mw_ag (my_ag.up fh1 is_151 rfl) n_Mw
  have Mw3_h1 : Mw3 h1 := Mw3_ag (my_ag.up fh1 is_151 rfl) n_Mw3
  refine w_iload_n gz_146_5 rfl ?_
  refine w_iconst gz_146_6 (by decide) ?_
  refine w_iconst gz_146_7 (by decide) ?_
  refine w_inS (k := 0) (as := [(0, 2), (0, 0), (0, x1)]) (r := []) (ls0 := [(0, x1), (0, 0), (0, 2)]) gz_146_8 gm_147 rfl rfl rfl rfl rfl rfl ?_
  refine w_iload_n gz_147_0 rfl ?_
  refine w_iload_n gz_147_1 rfl ?_
  refine w_iclt (t := 14) gz_147_2 rfl (fun u2 => ?_) (fun u2 => ?_)
  ·
    refine w_iconst gz_147_14 (by decide) ?_
    refine w_bret gz_147_15 gm_147 (by omega) (by omega) ?_
    show wp l rho (d + 1) 146 11 [(2, 151), (0, x1), (0, x2)] [(0, 0)] h1 Q
    refine w_ifeq (t := 32) gz_146_11 rfl (fun u3 => ?_) (fun u3 => by exfalso; omega)
    refine w_iconst gz_146_32 (by decide) ?_
    have c4 := (my_up_self fh1)
    exact w_bret gz_146_33 gm_146 (by omega) (by omega) (k0 h1 (gh1) (by omega) Mw_h1 Mw3_h1)
  ·
    refine w_iload_n gz_147_5 rfl ?_
    refine w_iload_n gz_147_6 rfl ?_
    refine w_icgt (t := 14) gz_147_7 rfl (fun u5 => ?_) (fun u5 => ?_)
    ·
      refine w_iconst gz_147_14 (by decide) ?_
      refine w_bret gz_147_15 gm_147 (by omega) (by omega) ?_
      show wp l rho (d + 1) 146 11 [(2, 151), (0, x1), (0, x2)] [(0, 0)] h1 Q
      refine w_ifeq (t := 32) gz_146_11 rfl (fun u6 => ?_) (fun u6 => by exfalso; omega)
      refine w_iconst gz_146_32 (by decide) ?_
      have c7 := (my_up_self fh1)
      exact w_bret gz_146_33 gm_146 (by omega) (by omega) (k0 h1 (gh1) (by omega) Mw_h1 Mw3_h1)
    ·
      refine w_iconst gz_147_10 (by decide) ?_
      refine w_goto (t := 15) gz_147_11 rfl ?_
      refine w_bret gz_147_15 gm_147 (by omega) (by omega) ?_
      show wp l rho (d + 1) 146 11 [(2, 151), (0, x1), (0, x2)] [(0, 1)] h1 Q
      refine w_ifeq (t := 32) gz_146_11 rfl (fun u8 => by exfalso; omega) (fun u8 => ?_)
      refine w_iload_n gz_146_14 rfl ?_
      refine w_iconst gz_146_15 (by decide) ?_
      refine w_iconst gz_146_16 (by decide) ?_
      refine w_inS (k := 0) (as := [(0, 4), (0, 1), (0, x2)]) (r := []) (ls0 := [(0, x2), (0, 1), (0, 4)]) gz_146_17 gm_147 rfl rfl rfl rfl rfl rfl ?_
      refine w_iload_n gz_147_0 rfl ?_
      refine w_iload_n gz_147_1 rfl ?_
      refine w_iclt (t := 14) gz_147_2 rfl (fun u9 => ?_) (fun u9 => ?_)
      ·
        refine w_iconst gz_147_14 (by decide) ?_
        refine w_bret gz_147_15 gm_147 (by omega) (by omega) ?_
        show wp l rho (d + 1) 146 20 [(2, 151), (0, x1), (0, x2)] [(0, 0)] h1 Q
        refine w_ifeq (t := 32) gz_146_20 rfl (fun u10 => ?_) (fun u10 => by exfalso; omega)
        refine w_iconst gz_146_32 (by decide) ?_
        have c11 := (my_up_self fh1)
        exact w_bret gz_146_33 gm_146 (by omega) (by omega) (k0 h1 (gh1) (by omega) Mw_h1 Mw3_h1)
      ·
        refine w_iload_n gz_147_5 rfl ?_
        refine w_iload_n gz_147_6 rfl ?_
        refine w_icgt (t := 14) gz_147_7 rfl (fun u12 => ?_) (fun u12 => ?_)
        ·
          refine w_iconst gz_147_14 (by decide) ?_
          refine w_bret gz_147_15 gm_147 (by omega) (by omega) ?_
          show wp l rho (d + 1) 146 20 [(2, 151), (0, x1), (0, x2)] [(0, 0)] h1 Q
          refine w_ifeq (t := 32) gz_146_20 rfl (fun u13 => ?_) (fun u13 => by exfalso; omega)
          refine w_iconst gz_146_32 (by decide) ?_
          have c14 := (my_up_self fh1)
          exact w_bret gz_146_33 gm_146 (by omega) (by omega) (k0 h1 (gh1) (by omega) Mw_h1 Mw3_h1)
        ·
          refine w_iconst gz_147_10 (by decide) ?_
          refine w_goto (t := 15) gz_147_11 rfl ?_
          refine w_bret gz_147_15 gm_147 (by omega) (by omega) ?_
          show wp l rho (d + 1) 146 20 [(2, 151), (0, x1), (0, x2)] [(0, 1)] h1 Q
          refine w_ifeq (t := 32) gz_146_20 rfl (fun u15 => by exfalso; omega) (fun u15 => ?_)
          refine w_aload_n gz_146_23 rfl ?_
          refine w_getX (v := 157) gz_146_24 is_151 rd_10 rfl (by decide) rfl ?_
          refine w_iload_n gz_146_27 rfl ?_
          refine w_iald gz_146_28 is_157 rd_56 (by omega) (by omega) (fun v17 ev17 pv17 qv17 => ?_)
          refine w_ifle (t := 34) gz_146_29 rfl (fun u18 => ?_) (fun u18 => ?_)
          ·
            refine w_aload_n gz_146_34 rfl ?_
            refine w_getX (v := 157) gz_146_35 is_151 rd_10 rfl (by decide) rfl ?_
            refine w_iload_n gz_146_38 rfl ?_
            refine w_iload_n gz_146_39 rfl ?_
            refine w_iast gz_146_40 is_157 rd_56 (by omega) (by omega) (by omega) (by omega) (fun h20 fh20 => ?_)
            have gh20 : my_fr [(10, 0), (56, -1)] h h20 := my_fr.up gh1 is_157 fh20 rfl
            have Mw_h20t21 : Mw h20 := (Mw3_wall fh20 (by omega) Mw3_h1).mw
            have Mw3_h20t22 : Mw3 h20 := Mw3_wall fh20 (by omega) Mw3_h1
            refine w_iconst gz_146_41 (by decide) ?_
            have c23 := ((my_up_role fh20 is_151 is_157 rfl).trans (my_up_self fh1))
            exact w_bret gz_146_42 gm_146 (by omega) (by omega) (k1 h20 (gh20) (by omega) (by omega) (by omega) (by omega) (by omega) Mw_h20t21 Mw3_h20t22)
          ·
            refine w_iconst gz_146_32 (by decide) ?_
            have c24 := (my_up_self fh1)
            exact w_bret gz_146_33 gm_146 (by omega) (by omega) (k0 h1 (gh1) (by omega) Mw_h1 Mw3_h1)
theorem c_Model_draft2 {l : Launch} {rho : Nat → Int32} {d : Nat} {h : my_H} {Q : my_H → my_V → Prop} {x1 x2 : Int} (k0 : ∀ (h' : my_H), my_fr [(10, 0), (87, -1)] h h' → h' 151 0 = 0 → ¬ (0 ≤ x1 ∧ x1 ≤ 7 ∧ 0 ≤ x2 ∧ x2 ≤ 19) → Q h' (0, 0)) (k1 : ∀ (h' : my_H), my_fr [(10, 0), (87, -1)] h h' → 0 ≤ x1 → x1 ≤ 7 → 0 ≤ x2 → x2 ≤ 19 → h' 151 0 = 0 → 0 ≤ x1 ∧ x1 ≤ 7 ∧ 0 ≤ x2 ∧ x2 ≤ 19 → Q h' (0, 1)) : wp l rho (d + 1) 206 0 [(2, 151), (0, x1), (0, x2)] [] h Q := by
  refine w_aload_n gz_206_0 rfl ?_
  refine w_iconst gz_206_1 (by decide) ?_
  refine v_putI (j := 0) gz_206_2 rfl is_151 rd_10 rfl (by omega) (by omega) rfl (fun h1 fh1 => ?_)
  have gh1 : my_fr [(10, 0), (87, -1)] h h1 := my_fr.up my_fr.rf is_151 fh1 rfl
  refine w_iload_n gz_206_5 rfl ?_
  refine w_iconst gz_206_6 (by decide) ?_
  refine w_bipush gz_206_7 (by decide) ?_
  refine w_inS (k := 0) (as := [(0, 7), (0, 0), (0, x1)]) (r := []) (ls0 := [(0, x1), (0, 0), (0, 7)]) gz_206_9 gm_147 rfl rfl rfl rfl rfl rfl ?_
  refine w_iload_n gz_147_0 rfl ?_
  refine w_iload_n gz_147_1 rfl ?_
  refine w_iclt (t := 14) gz_147_2 rfl (fun u2 => ?_) (fun u2 => ?_)
  ·
    refine w_iconst gz_147_14 (by decide) ?_
    refine w_bret gz_147_15 gm_147 (by omega) (by omega) ?_
    show wp l rho (d + 1) 206 12 [(2, 151), (0, x1), (0, x2)] [(0, 0)] h1 Q
    refine w_ifeq (t := 25) gz_206_12 rfl (fun u3 => ?_) (fun u3 => by exfalso; omega)
    refine w_iconst gz_206_25 (by decide) ?_
    have c4 := (my_up_self fh1)
    exact w_bret gz_206_26 gm_206 (by omega) (by omega) (k0 h1 (gh1) (by omega) (by first | assumption | omega | (subst_vars; omega) | omega))
  ·
    refine w_iload_n gz_147_5 rfl ?_
    refine w_iload_n gz_147_6 rfl ?_
    refine w_icgt (t := 14) gz_147_7 rfl (fun u5 => ?_) (fun u5 => ?_)
    ·
      refine w_iconst gz_147_14 (by decide) ?_
      refine w_bret gz_147_15 gm_147 (by omega) (by omega) ?_
      show wp l rho (d + 1) 206 12 [(2, 151), (0, x1), (0, x2)] [(0, 0)] h1 Q
      refine w_ifeq (t := 25) gz_206_12 rfl (fun u6 => ?_) (fun u6 => by exfalso; omega)
      refine w_iconst gz_206_25 (by decide) ?_
      have c7 := (my_up_self fh1)
      exact w_bret gz_206_26 gm_206 (by omega) (by omega) (k0 h1 (gh1) (by omega) (by first | assumption | omega | (subst_vars; omega) | omega))
    ·
      refine w_iconst gz_147_10 (by decide) ?_
      refine w_goto (t := 15) gz_147_11 rfl ?_
      refine w_bret gz_147_15 gm_147 (by omega) (by omega) ?_
      show wp l rho (d + 1) 206 12 [(2, 151), (0, x1), (0, x2)] [(0, 1)] h1 Q
      refine w_ifeq (t := 25) gz_206_12 rfl (fun u8 => by exfalso; omega) (fun u8 => ?_)
      refine w_iload_n gz_206_15 rfl ?_
      refine w_iconst gz_206_16 (by decide) ?_
      refine w_bipush gz_206_17 (by decide) ?_
      refine w_inS (k := 0) (as := [(0, 19), (0, 0), (0, x2)]) (r := []) (ls0 := [(0, x2), (0, 0), (0, 19)]) gz_206_19 gm_147 rfl rfl rfl rfl rfl rfl ?_
      refine w_iload_n gz_147_0 rfl ?_
      refine w_iload_n gz_147_1 rfl ?_
      refine w_iclt (t := 14) gz_147_2 rfl (fun u9 => ?_) (fun u9 => ?_)
      ·
        refine w_iconst gz_147_14 (by decide) ?_
        refine w_bret gz_147_15 gm_147 (by omega) (by omega) ?_
        show wp l rho (d + 1) 206 22 [(2, 151), (0, x1), (0, x2)] [(0, 0)] h1 Q
        refine w_ifne (t := 27) gz_206_22 rfl (fun u10 => by exfalso; omega) (fun u10 => ?_)
        refine w_iconst gz_206_25 (by decide) ?_
        have c11 := (my_up_self fh1)
        exact w_bret gz_206_26 gm_206 (by omega) (by omega) (k0 h1 (gh1) (by omega) (by first | assumption | omega | (subst_vars; omega) | omega))
      ·
        refine w_iload_n gz_147_5 rfl ?_
        refine w_iload_n gz_147_6 rfl ?_
        refine w_icgt (t := 14) gz_147_7 rfl (fun u12 => ?_) (fun u12 => ?_)
        ·
          refine w_iconst gz_147_14 (by decide) ?_
          refine w_bret gz_147_15 gm_147 (by omega) (by omega) ?_
          show wp l rho (d + 1) 206 22 [(2, 151), (0, x1), (0, x2)] [(0, 0)] h1 Q
          refine w_ifne (t := 27) gz_206_22 rfl (fun u13 => by exfalso; omega) (fun u13 => ?_)
          refine w_iconst gz_206_25 (by decide) ?_
          have c14 := (my_up_self fh1)
          exact w_bret gz_206_26 gm_206 (by omega) (by omega) (k0 h1 (gh1) (by omega) (by first | assumption | omega | (subst_vars; omega) | omega))
        ·
          refine w_iconst gz_147_10 (by decide) ?_
          refine w_goto (t := 15) gz_147_11 rfl ?_
          refine w_bret gz_147_15 gm_147 (by omega) (by omega) ?_
          show wp l rho (d + 1) 206 22 [(2, 151), (0, x1), (0, x2)] [(0, 1)] h1 Q
          refine w_ifne (t := 27) gz_206_22 rfl (fun u15 => ?_) (fun u15 => by exfalso; omega)
          refine w_aload_n gz_206_27 rfl ?_
          refine w_getX (v := 188) gz_206_28 is_151 rd_10 rfl (by decide) rfl ?_
          refine w_iload_n gz_206_31 rfl ?_
          refine w_iload_n gz_206_32 rfl ?_
          refine w_iast gz_206_33 is_188 rd_87 (by omega) (by omega) (by omega) (by omega) (fun h17 fh17 => ?_)
          have gh17 : my_fr [(10, 0), (87, -1)] h h17 := my_fr.up gh1 is_188 fh17 rfl
          refine w_iconst gz_206_34 (by decide) ?_
          have c18 := ((my_up_role fh17 is_151 is_188 rfl).trans (my_up_self fh1))
          exact w_bret gz_206_35 gm_206 (by omega) (by omega) (k1 h17 (gh17) (by omega) (by omega) (by omega) (by omega) (by omega) (by first | assumption | omega | (subst_vars; omega) | omega))
theorem c_ThroughWindow_draft2 {l : Launch} {rho : Nat → Int32} {d : Nat} {h : my_H} {Q : my_H → my_V → Prop} {x1 x2 : Int} (k0 : ∀ (h' : my_H), my_fr [(23, -1)] h h' → ¬ (0 ≤ x1 ∧ x1 ≤ 7 ∧ 0 ≤ x2 ∧ x2 ≤ 19) → Q h' (0, 0)) (k1 : ∀ (h' : my_H), my_fr [(23, -1)] h h' → 0 ≤ x1 → x1 ≤ 7 → 0 ≤ x2 → x2 ≤ 19 → 0 ≤ x1 ∧ x1 ≤ 7 ∧ 0 ≤ x2 ∧ x2 ≤ 19 → Q h' (0, 1)) : wp l rho d 85 0 [(2, 0), (0, x1), (0, x2)] [] h Q := by
  refine w_iload_n gz_85_0 rfl ?_
  refine w_iflt (t := 20) gz_85_1 rfl (fun u1 => ?_) (fun u1 => ?_)
  ·
    refine w_iconst gz_85_20 (by decide) ?_
    exact w_bret gz_85_21 gm_85 (by omega) (by omega) (k0 h (my_fr.rf) (by first | assumption | omega | (subst_vars; omega) | omega))
  ·
    refine w_iload_n gz_85_4 rfl ?_
    refine w_bipush gz_85_5 (by decide) ?_
    refine w_icge (t := 20) gz_85_7 rfl (fun u2 => ?_) (fun u2 => ?_)
    ·
      refine w_iconst gz_85_20 (by decide) ?_
      exact w_bret gz_85_21 gm_85 (by omega) (by omega) (k0 h (my_fr.rf) (by first | assumption | omega | (subst_vars; omega) | omega))
    ·
      refine w_iload_n gz_85_10 rfl ?_
      refine w_iflt (t := 20) gz_85_11 rfl (fun u3 => ?_) (fun u3 => ?_)
      ·
        refine w_iconst gz_85_20 (by decide) ?_
        exact w_bret gz_85_21 gm_85 (by omega) (by omega) (k0 h (my_fr.rf) (by first | assumption | omega | (subst_vars; omega) | omega))
      ·
        refine w_iload_n gz_85_14 rfl ?_
        refine w_bipush gz_85_15 (by decide) ?_
        refine w_iclt (t := 22) gz_85_17 rfl (fun u4 => ?_) (fun u4 => ?_)
        ·
          refine w_aload_n gz_85_22 rfl ?_
          refine w_getX (v := 93) gz_85_23 is_0 rd_9 rfl (by decide) rfl ?_
          refine w_iload_n gz_85_26 rfl ?_
          refine w_iload_n gz_85_27 rfl ?_
          refine w_iast gz_85_28 is_93 rd_23 (by omega) (by omega) (by omega) (by omega) (fun h6 fh6 => ?_)
          have gh6 : my_fr [(23, -1)] h h6 := my_fr.up my_fr.rf is_93 fh6 rfl
          refine w_iconst gz_85_29 (by decide) ?_
          exact w_bret gz_85_30 gm_85 (by omega) (by omega) (k1 h6 (gh6) (by omega) (by omega) (by omega) (by omega) (by first | assumption | omega | (subst_vars; omega) | omega))
        ·
          refine w_iconst gz_85_20 (by decide) ?_
          exact w_bret gz_85_21 gm_85 (by omega) (by omega) (k0 h (my_fr.rf) (by first | assumption | omega | (subst_vars; omega) | omega))
theorem c_Model_fewsFromR {l : Launch} {rho : Nat → Int32} : ∀ (M : Nat) {f : Nat} {h : my_H} {Q : my_H → my_V → Prop} {x1 x2 x3 x4 : Int} (hf : M ≤ f) (lv : h 151 27 - x3 < (M : Int)) (a1 : 0 ≤ x1) (b1 : x1 ≤ 2) (a2 : 0 ≤ x2) (b2 : x2 ≤ 1023) (a3 : 0 ≤ x3) (b3 : x3 ≤ 4) (n_Rws : Rws h) (w4 : h 151 27 ≤ 4) (pw : x3 ≤ h 151 27) (k0 : ∀ (h' : my_H), my_fr [(95, -1), (96, -1)] h h' → Q h' (0, 0)) (k1 : ∀ (h' : my_H), my_fr [(95, -1), (96, -1)] h h' → 0 ≤ h' 151 27 → h' 151 27 ≤ 4 → Q h' (0, 1)) (k2 : ∀ (h' : my_H) (y : Int), my_fr [(95, -1), (96, -1)] h h' → Q h' (0, y)), wp l rho (f + 3) 238 0 [(2, 151), (0, x1), (0, x2), (0, x3), (0, x4), (9, 0), (9, 0)] [] h Q := by
  intro M
  induction M with
  | zero => intro f h Q x1 x2 x3 x4 hf lv a1 b1 a2 b2 a3 b3 n_Rws w4 pw k0 k1 k2; exfalso; omega
  | succ M ih =>
    intro f h Q x1 x2 x3 x4 hf lv a1 b1 a2 b2 a3 b3 n_Rws w4 pw k0 k1 k2
    obtain ⟨f1, rfl⟩ : ∃ f1 : Nat, f = f1 + 1 := ⟨f - 1, by omega⟩
    refine v_know (x := 151) (j := 27) (b := 27) rfl is_151 rd_10 rfl (fun k151_27 ek151_27 pk151_27 qk151_27 => ?_)
    have J29_0 : ∀ (n : Nat) (p29_0 p29_1 : Int) (h29_0 : my_H), my_fr [(95, -1), (96, -1)] h h29_0 → 0 ≤ p29_1 → p29_1 ≤ 4 → h29_0 151 27 = k151_27 → Rws h29_0 → x3 < h 151 27 → h29_0 151 27 = h 151 27 → 5 - p29_1 ≤ (n : Int) → wp l rho (f1 + 1 + 3) 238 29 [(2, 151), (0, x1), (0, x2), (0, x3), (0, x4), (0, p29_0), (0, p29_1)] [] h29_0 Q := by
      intro n
      induction n with
      | zero => intro p29_0 p29_1 h29_0 gh_29_0 q0_29_0 q1_29_0 c151_27_29_0 n_Rws_29_0 xw_29_0 wq_29_0 hm_29_0; exfalso; omega
      | succ n ih_29_0 =>
        intro p29_0 p29_1 h29_0 gh_29_0 q0_29_0 q1_29_0 c151_27_29_0 n_Rws_29_0 xw_29_0 wq_29_0 hm_29_0
        have J79_0 : ∀ (p79_0 : Int) (h79_0 : my_H), my_fr [(95, -1), (96, -1)] h h79_0 → p29_1 ≤ 3 → h79_0 151 27 = k151_27 → Rws h79_0 → wp l rho (f1 + 1 + 3) 238 79 [(2, 151), (0, x1), (0, x2), (0, x3), (0, x4), (0, p79_0), (0, p29_1)] [] h79_0 Q := by
          intro p79_0 h79_0 gh_79_0 q0_79_0 c151_27_79_0 n_Rws_79_0
          refine w_iinc (ls' := [(2, 151), (0, x1), (0, x2), (0, x3), (0, x4), (0, p79_0), (0, (p29_1 + 1))]) gz_238_79 rfl gm_238 rfl rfl rfl ⟨by omega, by omega⟩ ?_
          refine w_goto (t := 29) gz_238_82 rfl ?_
          have ce1 : h79_0 151 27 = k151_27 := c151_27_79_0
          exact ih_29_0 (p79_0) ((p29_1 + 1)) h79_0 (gh_79_0) (by omega) (by omega) (c151_27_79_0.trans (by omega)) n_Rws_79_0 (by first | assumption | omega | (subst_vars; omega) | omega) (by first | assumption | omega | (subst_vars; omega) | omega) (by omega)
        refine w_iload gz_238_29 rfl ?_
        refine w_aload_n gz_238_31 rfl ?_
        refine w_getX (v := 157) gz_238_32 is_151 rd_10 rfl (by decide) rfl ?_
        refine w_iload_n gz_238_35 rfl ?_
        refine w_iald gz_238_36 is_157 rd_56 (by omega) (by omega) (fun v3 ev3 pv3 qv3 => ?_)
        refine w_icge (t := 85) gz_238_37 rfl (fun u4 => ?_) (fun u4 => ?_)
        ·
          refine w_iload gz_238_85 rfl ?_
          exact w_iret gz_238_87 gm_238 (k2 h29_0 (p29_0) (gh_29_0))
        ·
          refine w_iload gz_238_40 rfl ?_
          refine w_iload gz_238_42 rfl ?_
          refine w_ianyR gz_238_44 (fun v5 pv5 qv5 => ?_)
          refine w_iconst gz_238_45 (by decide) ?_
          refine w_iandM gz_238_46 (by decide) (fun v6 pv6 qv6 => ?_)
          refine w_ifne (t := 79) gz_238_47 rfl (fun u7 => ?_) (fun u7 => ?_)
          ·
            exact J79_0 (p29_0) h29_0 (gh_29_0) (by omega) (c151_27_29_0.trans (by omega)) n_Rws_29_0
          ·
            refine w_aload_n gz_238_50 rfl ?_
            refine w_getX (v := 196) gz_238_51 is_151 rd_10 rfl (by decide) rfl ?_
            refine w_iload_n gz_238_54 rfl ?_
            refine w_iload gz_238_55 rfl ?_
            have hi9 : 0 ≤ x3 := by omega
            have hi10 : x3 ≤ 3 := by omega
            refine w_iast gz_238_57 is_196 rd_95 (by omega) (by omega) (by omega) (by omega) (fun h11 fh11 => ?_)
            have gh11 : my_fr [(95, -1), (96, -1)] h h11 := my_fr.up gh_29_0 is_196 fh11 rfl
            have Rws_h11 : Rws h11 := Rws_ag (my_ag.up fh11 is_196 rfl) n_Rws_29_0
            refine w_iload gz_238_58 rfl ?_
            refine w_aload_n gz_238_60 rfl ?_
            refine w_iload_n gz_238_61 rfl ?_
            refine w_iload_n gz_238_62 rfl ?_
            refine w_iload_n gz_238_63 rfl ?_
            refine w_iconst gz_238_64 (by decide) ?_
            refine w_iadd gz_238_65 ⟨by omega, by omega⟩ ?_
            refine w_iload gz_238_66 rfl ?_
            refine w_iconst gz_238_68 (by decide) ?_
            refine w_iload gz_238_69 rfl ?_
            refine w_ianyL gz_238_71 (fun v12 pv12 qv12 => ?_)
            refine w_ianyO gz_238_72 (fun v13 pv13 qv13 => ?_)
            have ce14 : h11 151 27 = k151_27 := ((my_up_role fh11 is_151 is_196 rfl).trans c151_27_29_0)
            refine w_inv (k := 2) (as := [(0, v13), (0, (x3 + 1)), (0, x2), (0, x1)]) (r := [(0, p29_0)]) (x := 151) (ls0 := [(2, 151), (0, x1), (0, x2), (0, (x3 + 1)), (0, v13), (9, 0), (9, 0)]) gz_238_73 gm_238 rfl is_151 rd_10 rfl rfl rfl rfl rfl (ih (f := f1) (by omega) (by omega) (x1 := x1) (x2 := x2) (x3 := (x3 + 1)) (x4 := v13) (by omega) (by omega) (by omega) (by omega) (by omega) (by omega) Rws_h11 (by first | assumption | exact no_such_saying | exact Fp_told (by omega) (by omega) | omega | (subst_vars; omega) | omega) (by first | assumption | exact no_such_saying | exact Fp_told (by omega) (by omega) | omega | (subst_vars; omega) | omega) (fun h15 frh15 => ?_) (fun h16 frh16 w17 w18 => ?_) (fun h19 v20 frh19 => ?_))
            ·
              have gh15 : my_fr [(95, -1), (96, -1)] h h15 := my_fr.tr gh11 (frh15.mo rfl)
              have Rws_h15 : Rws h15 := Rws_ag (my_ag.fr frh15 rfl) Rws_h11
              show wp l rho (f1 + 1 + 3) 238 76 [(2, 151), (0, x1), (0, x2), (0, x3), (0, x4), (0, p29_0), (0, p29_1)] [(0, 0), (0, p29_0)] h15 Q
              refine w_iaddB gz_238_76 (fun _ _ _ _ => ⟨by omega, by omega⟩) ?_
              refine w_istore (ls' := [(2, 151), (0, x1), (0, x2), (0, x3), (0, x4), (0, (p29_0 + 0)), (0, p29_1)]) gz_238_77 gm_238 rfl rfl rfl ?_
              exact J79_0 ((p29_0 + 0)) h15 (gh15) (by omega) (((my_fr.at frh15 is_151 rfl).trans ((my_up_role fh11 is_151 is_196 rfl).trans c151_27_29_0)).trans (by omega)) Rws_h15
            ·
              have gh16 : my_fr [(95, -1), (96, -1)] h h16 := my_fr.tr gh11 (frh16.mo rfl)
              have Rws_h16 : Rws h16 := Rws_ag (my_ag.fr frh16 rfl) Rws_h11
              show wp l rho (f1 + 1 + 3) 238 76 [(2, 151), (0, x1), (0, x2), (0, x3), (0, x4), (0, p29_0), (0, p29_1)] [(0, 1), (0, p29_0)] h16 Q
              refine w_ianyA gz_238_76 (fun v21 pv21 qv21 => ?_)
              refine w_istore (ls' := [(2, 151), (0, x1), (0, x2), (0, x3), (0, x4), (0, v21), (0, p29_1)]) gz_238_77 gm_238 rfl rfl rfl ?_
              exact J79_0 (v21) h16 (gh16) (by omega) (((my_fr.at frh16 is_151 rfl).trans ((my_up_role fh11 is_151 is_196 rfl).trans c151_27_29_0)).trans (by omega)) Rws_h16
            ·
              have gh19 : my_fr [(95, -1), (96, -1)] h h19 := my_fr.tr gh11 (frh19.mo rfl)
              have Rws_h19 : Rws h19 := Rws_ag (my_ag.fr frh19 rfl) Rws_h11
              show wp l rho (f1 + 1 + 3) 238 76 [(2, 151), (0, x1), (0, x2), (0, x3), (0, x4), (0, p29_0), (0, p29_1)] [(0, v20), (0, p29_0)] h19 Q
              refine w_ianyA gz_238_76 (fun v22 pv22 qv22 => ?_)
              refine w_istore (ls' := [(2, 151), (0, x1), (0, x2), (0, x3), (0, x4), (0, v22), (0, p29_1)]) gz_238_77 gm_238 rfl rfl rfl ?_
              exact J79_0 (v22) h19 (gh19) (by omega) (((my_fr.at frh19 is_151 rfl).trans ((my_up_role fh11 is_151 is_196 rfl).trans c151_27_29_0)).trans (by omega)) Rws_h19
    refine w_iload_n gz_238_0 rfl ?_
    refine w_aload_n gz_238_1 rfl ?_
    refine v_getI (j := 27) gz_238_2 rfl is_151 rd_10 rfl (fun v23 ev23 pv23 qv23 => ?_)
    have zv23 := ev23.trans ek151_27.symm
    refine w_icne (t := 23) gz_238_5 rfl (fun u24 => ?_) (fun u24 => ?_)
    ·
      refine w_iconst gz_238_23 (by decide) ?_
      refine w_istore (ls' := [(2, 151), (0, x1), (0, x2), (0, x3), (0, x4), (0, 0), (9, 0)]) gz_238_24 gm_238 rfl rfl rfl ?_
      refine w_iconst gz_238_26 (by decide) ?_
      refine w_istore (ls' := [(2, 151), (0, x1), (0, x2), (0, x3), (0, x4), (0, 0), (0, 0)]) gz_238_27 gm_238 rfl rfl rfl ?_
      have ce25 : h 151 27 = v23 := ev23.symm
      exact J29_0 5 (0) (0) h (my_fr.rf) (by omega) (by omega) (ev23.symm.trans (by omega)) n_Rws (by first | assumption | omega | (subst_vars; omega) | omega) (by first | assumption | omega | (subst_vars; omega) | omega) (by omega)
    ·
      refine w_aload_n gz_238_8 rfl ?_
      refine w_iload_n gz_238_9 rfl ?_
      refine w_iload_n gz_238_10 rfl ?_
      refine w_inv (k := 8) (as := [(0, x2), (0, x1)]) (r := []) (x := 151) (ls0 := [(2, 151), (0, x1), (0, x2), (9, 0), (9, 0), (9, 0), (9, 0), (9, 0), (9, 0), (9, 0), (9, 0)]) gz_238_11 gm_239 rfl is_151 rd_10 rfl rfl rfl rfl rfl (c_Model_isSetWanted (d := (f1 + 1)) (x1 := x1) (x2 := x2) (by omega) (by omega) (by omega) (by omega) n_Rws (by first | assumption | exact no_such_saying | exact Fp_told (by omega) (by omega) | omega | (subst_vars; omega) | omega) (fun h26 frh26 w27 w28 => ?_) (fun h29 frh29 => ?_))
      ·
        have gh26 : my_fr [(95, -1), (96, -1)] h h26 := my_fr.tr my_fr.rf (frh26.mo rfl)
        have Rws_h26 : Rws h26 := Rws_ag (my_ag.fr frh26 rfl) n_Rws
        show wp l rho (f1 + 1 + 3) 238 14 [(2, 151), (0, x1), (0, x2), (0, x3), (0, x4), (9, 0), (9, 0)] [(0, 0)] h26 Q
        refine w_ifeq (t := 21) gz_238_14 rfl (fun u30 => ?_) (fun u30 => by exfalso; omega)
        refine w_iconst gz_238_21 (by decide) ?_
        exact w_iret gz_238_22 gm_238 (k0 h26 (gh26))
      ·
        have gh29 : my_fr [(95, -1), (96, -1)] h h29 := my_fr.tr my_fr.rf (frh29.mo rfl)
        have Rws_h29 : Rws h29 := Rws_ag (my_ag.fr frh29 rfl) n_Rws
        show wp l rho (f1 + 1 + 3) 238 14 [(2, 151), (0, x1), (0, x2), (0, x3), (0, x4), (9, 0), (9, 0)] [(0, 1)] h29 Q
        refine w_ifeq (t := 21) gz_238_14 rfl (fun u31 => by exfalso; omega) (fun u31 => ?_)
        refine w_iconst gz_238_17 (by decide) ?_
        refine w_goto (t := 22) gz_238_18 rfl ?_
        have c32 := ((my_fr.at frh29 is_151 rfl).trans ev23.symm)
        exact w_iret gz_238_22 gm_238 (k1 h29 (gh29) (by omega) (by omega))
theorem c_Model_fewsFrom {l : Launch} {rho : Nat → Int32} {d : Nat} {h : my_H} {Q : my_H → my_V → Prop} {x1 x2 x3 x4 : Int} (a1 : 0 ≤ x1) (b1 : x1 ≤ 2) (a2 : 0 ≤ x2) (b2 : x2 ≤ 1023) (a3 : 0 ≤ x3) (b3 : x3 ≤ 4) (n_Rws : Rws h) (w4 : h 151 27 ≤ 4) (pw : x3 ≤ h 151 27) (k0 : ∀ (h' : my_H), my_fr [(95, -1), (96, -1)] h h' → Q h' (0, 0)) (k1 : ∀ (h' : my_H), my_fr [(95, -1), (96, -1)] h h' → 0 ≤ h' 151 27 → h' 151 27 ≤ 4 → Q h' (0, 1)) (k2 : ∀ (h' : my_H) (y : Int), my_fr [(95, -1), (96, -1)] h h' → Q h' (0, y)) : wp l rho (d + 8) 238 0 [(2, 151), (0, x1), (0, x2), (0, x3), (0, x4), (9, 0), (9, 0)] [] h Q :=
  c_Model_fewsFromR 5 (f := d + 5) (by omega) (by omega) a1 b1 a2 b2 a3 b3 n_Rws w4 pw k0 k1 k2
theorem c_Model_fewsBy {l : Launch} {rho : Nat → Int32} {d : Nat} {h : my_H} {Q : my_H → my_V → Prop} {x1 x2 : Int} (a1 : 0 ≤ x1) (b1 : x1 ≤ 2) (a2 : 0 ≤ x2) (b2 : x2 ≤ 1023) (n_Rws : Rws h) (w4 : h 151 27 ≤ 4) (k0 : ∀ (h' : my_H), my_fr [(95, -1), (96, -1), (97, -1)] h h' → Q h' (0, 0)) (k1 : ∀ (h' : my_H) (y : Int), my_fr [(95, -1), (96, -1), (97, -1)] h h' → Q h' (0, y)) : wp l rho (d + 9) 237 0 [(2, 151), (0, x1), (0, x2), (9, 0), (9, 0)] [] h Q := by
  refine v_know (x := 151) (j := 27) (b := 27) rfl is_151 rd_10 rfl (fun k151_27 ek151_27 pk151_27 qk151_27 => ?_)
  have J5_0 : ∀ (n : Nat) (p5_0 p5_1 : Int) (h5_0 : my_H), my_fr [(95, -1), (96, -1), (97, -1)] h h5_0 → 0 ≤ p5_1 → p5_1 ≤ 10 → h5_0 151 27 = k151_27 → Rws h5_0 → 11 - p5_1 ≤ (n : Int) → wp l rho (d + 9) 237 5 [(2, 151), (0, x1), (0, x2), (0, p5_0), (0, p5_1)] [] h5_0 Q := by
    intro n
    induction n with
    | zero => intro p5_0 p5_1 h5_0 gh_5_0 q0_5_0 q1_5_0 c151_27_5_0 n_Rws_5_0 hm_5_0; exfalso; omega
    | succ n ih_5_0 =>
      intro p5_0 p5_1 h5_0 gh_5_0 q0_5_0 q1_5_0 c151_27_5_0 n_Rws_5_0 hm_5_0
      refine w_iload gz_237_5 rfl ?_
      refine w_bipush gz_237_7 (by decide) ?_
      refine w_icge (t := 27) gz_237_9 rfl (fun u1 => ?_) (fun u1 => ?_)
      ·
        refine w_iload_n gz_237_27 rfl ?_
        refine w_aload_n gz_237_28 rfl ?_
        refine v_getI (j := 46) gz_237_29 rfl is_151 rd_10 rfl (fun v2 ev2 pv2 qv2 => ?_)
        refine w_iceq (t := 37) gz_237_32 rfl (fun u3 => ?_) (fun u3 => ?_)
        ·
          refine w_aload_n gz_237_37 rfl ?_
          refine w_getX (v := 198) gz_237_38 is_151 rd_10 rfl (by decide) rfl ?_
          refine w_iload_n gz_237_41 rfl ?_
          refine w_iald gz_237_42 is_198 rd_97 (by omega) (by omega) (fun v5 ev5 pv5 qv5 => ?_)
          refine w_ifge (t := 60) gz_237_43 rfl (fun u6 => ?_) (fun u6 => ?_)
          ·
            refine w_aload_n gz_237_60 rfl ?_
            refine w_getX (v := 198) gz_237_61 is_151 rd_10 rfl (by decide) rfl ?_
            refine w_iload_n gz_237_64 rfl ?_
            refine w_iald gz_237_65 is_198 rd_97 (by omega) (by omega) (fun v8 ev8 pv8 qv8 => ?_)
            have zv8 := ev8.trans ev5.symm
            exact w_iret gz_237_66 gm_237 (k1 h5_0 (v8) (gh_5_0))
          ·
            refine w_aload_n gz_237_46 rfl ?_
            refine w_getX (v := 198) gz_237_47 is_151 rd_10 rfl (by decide) rfl ?_
            refine w_iload_n gz_237_50 rfl ?_
            refine w_aload_n gz_237_51 rfl ?_
            refine w_iload_n gz_237_52 rfl ?_
            refine w_iload_n gz_237_53 rfl ?_
            refine w_iconst gz_237_54 (by decide) ?_
            refine w_iconst gz_237_55 (by decide) ?_
            refine w_inv (k := 2) (as := [(0, 0), (0, 0), (0, x2), (0, x1)]) (r := [(0, x2), (2, 198)]) (x := 151) (ls0 := [(2, 151), (0, x1), (0, x2), (0, 0), (0, 0), (9, 0), (9, 0)]) gz_237_56 gm_238 rfl is_151 rd_10 rfl rfl rfl rfl rfl (c_Model_fewsFrom (d := d) (x1 := x1) (x2 := x2) (x3 := 0) (x4 := 0) (by omega) (by omega) (by omega) (by omega) (by omega) (by omega) n_Rws_5_0 (by first | assumption | exact no_such_saying | exact Fp_told (by omega) (by omega) | omega | (subst_vars; omega) | omega) (by first | assumption | exact no_such_saying | exact Fp_told (by omega) (by omega) | omega | (subst_vars; omega) | omega) (fun h10 frh10 => ?_) (fun h11 frh11 w12 w13 => ?_) (fun h14 v15 frh14 => ?_))
            ·
              have gh10 : my_fr [(95, -1), (96, -1), (97, -1)] h h10 := my_fr.tr gh_5_0 (frh10.mo rfl)
              have Rws_h10 : Rws h10 := Rws_ag (my_ag.fr frh10 rfl) n_Rws_5_0
              show wp l rho (d + 9) 237 59 [(2, 151), (0, x1), (0, x2), (0, p5_0), (0, p5_1)] [(0, 0), (0, x2), (2, 198)] h10 Q
              refine w_iastA gz_237_59 is_198 rd_97 (by omega) (by omega) (fun h16 fh16 => ?_)
              have gh16 : my_fr [(95, -1), (96, -1), (97, -1)] h h16 := my_fr.up gh10 is_198 fh16 rfl
              have Rws_h16 : Rws h16 := Rws_ag (my_ag.up fh16 is_198 rfl) Rws_h10
              refine w_aload_n gz_237_60 rfl ?_
              refine w_getX (v := 198) gz_237_61 is_151 rd_10 rfl (by decide) rfl ?_
              refine w_iload_n gz_237_64 rfl ?_
              refine w_iald gz_237_65 is_198 rd_97 (by omega) (by omega) (fun v18 ev18 pv18 qv18 => ?_)
              have zv18 := ev18.trans (my_up_self fh16)
              rw [show (v18 : Int) = 0 from by omega]
              exact w_iret gz_237_66 gm_237 (k0 h16 (gh16))
            ·
              have gh11 : my_fr [(95, -1), (96, -1), (97, -1)] h h11 := my_fr.tr gh_5_0 (frh11.mo rfl)
              have Rws_h11 : Rws h11 := Rws_ag (my_ag.fr frh11 rfl) n_Rws_5_0
              show wp l rho (d + 9) 237 59 [(2, 151), (0, x1), (0, x2), (0, p5_0), (0, p5_1)] [(0, 1), (0, x2), (2, 198)] h11 Q
              refine w_iastA gz_237_59 is_198 rd_97 (by omega) (by omega) (fun h19 fh19 => ?_)
              have gh19 : my_fr [(95, -1), (96, -1), (97, -1)] h h19 := my_fr.up gh11 is_198 fh19 rfl
              have Rws_h19 : Rws h19 := Rws_ag (my_ag.up fh19 is_198 rfl) Rws_h11
              refine w_aload_n gz_237_60 rfl ?_
              refine w_getX (v := 198) gz_237_61 is_151 rd_10 rfl (by decide) rfl ?_
              refine w_iload_n gz_237_64 rfl ?_
              refine w_iald gz_237_65 is_198 rd_97 (by omega) (by omega) (fun v21 ev21 pv21 qv21 => ?_)
              have zv21 := ev21.trans (my_up_self fh19)
              exact w_iret gz_237_66 gm_237 (k1 h19 (v21) (gh19))
            ·
              have gh14 : my_fr [(95, -1), (96, -1), (97, -1)] h h14 := my_fr.tr gh_5_0 (frh14.mo rfl)
              have Rws_h14 : Rws h14 := Rws_ag (my_ag.fr frh14 rfl) n_Rws_5_0
              show wp l rho (d + 9) 237 59 [(2, 151), (0, x1), (0, x2), (0, p5_0), (0, p5_1)] [(0, v15), (0, x2), (2, 198)] h14 Q
              refine w_iastA gz_237_59 is_198 rd_97 (by omega) (by omega) (fun h22 fh22 => ?_)
              have gh22 : my_fr [(95, -1), (96, -1), (97, -1)] h h22 := my_fr.up gh14 is_198 fh22 rfl
              have Rws_h22 : Rws h22 := Rws_ag (my_ag.up fh22 is_198 rfl) Rws_h14
              refine w_aload_n gz_237_60 rfl ?_
              refine w_getX (v := 198) gz_237_61 is_151 rd_10 rfl (by decide) rfl ?_
              refine w_iload_n gz_237_64 rfl ?_
              refine w_iald gz_237_65 is_198 rd_97 (by omega) (by omega) (fun v24 ev24 pv24 qv24 => ?_)
              have zv24 := ev24.trans (my_up_self fh22)
              exact w_iret gz_237_66 gm_237 (k1 h22 (v24) (gh22))
        ·
          refine w_iconst gz_237_35 (by decide) ?_
          exact w_iret gz_237_36 gm_237 (k0 h5_0 (gh_5_0))
      ·
        refine w_iload_n gz_237_12 rfl ?_
        refine w_iload_n gz_237_13 rfl ?_
        refine w_iload gz_237_14 rfl ?_
        refine w_ianyR gz_237_16 (fun v25 pv25 qv25 => ?_)
        refine w_iconst gz_237_17 (by decide) ?_
        refine w_iandM gz_237_18 (by decide) (fun v26 pv26 qv26 => ?_)
        refine w_ianyA gz_237_19 (fun v27 pv27 qv27 => ?_)
        refine w_istore_n (ls' := [(2, 151), (0, x1), (0, x2), (0, v27), (0, p5_1)]) gz_237_20 gm_237 rfl rfl rfl ?_
        refine w_iinc (ls' := [(2, 151), (0, x1), (0, x2), (0, v27), (0, (p5_1 + 1))]) gz_237_21 rfl gm_237 rfl rfl rfl ⟨by omega, by omega⟩ ?_
        refine w_goto (t := 5) gz_237_24 rfl ?_
        exact ih_5_0 (v27) ((p5_1 + 1)) h5_0 (gh_5_0) (by omega) (by omega) (c151_27_5_0.trans (by omega)) n_Rws_5_0 (by omega)
  refine w_iconst gz_237_0 (by decide) ?_
  refine w_istore_n (ls' := [(2, 151), (0, x1), (0, x2), (0, 0), (9, 0)]) gz_237_1 gm_237 rfl rfl rfl ?_
  refine w_iconst gz_237_2 (by decide) ?_
  refine w_istore (ls' := [(2, 151), (0, x1), (0, x2), (0, 0), (0, 0)]) gz_237_3 gm_237 rfl rfl rfl ?_
  exact J5_0 11 (0) (0) h (my_fr.rf) (by omega) (by omega) (ek151_27.symm.trans (by omega)) n_Rws (by omega)
theorem c_Model_window {l : Launch} {rho : Nat → Int32} {d : Nat} {h : my_H} {Q : my_H → my_V → Prop} {x1 : Int} (n_Mw : Mw h) (n_Mw3 : Mw3 h) (n_Wrd : Wrd h) (k0 : ∀ (h' : my_H), my_fr [(10, 0), (10, 2), (10, 3), (10, 7), (10, 8), (10, 27), (10, 32), (10, 33), (52, -1), (53, -1), (54, -1), (63, -1), (64, -1), (65, -1), (66, -1), (67, -1), (68, -1), (69, -1), (70, -1), (71, -1), (72, -1), (73, -1), (74, -1), (75, -1), (76, -1), (77, -1), (78, -1), (79, -1)] h h' → h' 151 0 = 0 → h' 151 2 = 0 → Mw h' → Mw3 h' → Wrd h' → Q h' (0, (-1))) (k1 : ∀ (h' : my_H) (y : Int), my_fr [(10, 0), (10, 2), (10, 3), (10, 7), (10, 8), (10, 27), (10, 32), (10, 33), (52, -1), (53, -1), (54, -1), (63, -1), (64, -1), (65, -1), (66, -1), (67, -1), (68, -1), (69, -1), (70, -1), (71, -1), (72, -1), (73, -1), (74, -1), (75, -1), (76, -1), (77, -1), (78, -1), (79, -1)] h h' → 1 ≤ y → y ≤ 16005 → 0 ≤ x1 → x1 ≤ 5 → h' 151 0 = 0 → h' 151 2 = 0 → 1 ≤ h' 151 8 → h' 151 8 ≤ 16005 → Mw h' → Mw3 h' → Wrd h' → Q h' (0, y)) (k2 : ∀ (h' : my_H), my_fr [(10, 0), (10, 2), (10, 3), (10, 7), (10, 8), (10, 27), (10, 32), (10, 33), (52, -1), (53, -1), (54, -1), (63, -1), (64, -1), (65, -1), (66, -1), (67, -1), (68, -1), (69, -1), (70, -1), (71, -1), (72, -1), (73, -1), (74, -1), (75, -1), (76, -1), (77, -1), (78, -1), (79, -1)] h h' → 0 ≤ x1 → x1 ≤ 5 → h' 151 0 = 0 → h' 151 2 = 0 → h' 151 8 = 0 → Mw h' → Mw3 h' → Wrd h' → Q h' (0, 0)) : wp l rho (d + 5) 168 0 [(2, 151), (0, x1), (9, 0), (9, 0)] [] h Q := by
  have J119_0 : ∀ (n : Nat) (p119_0 : Int) (h119_0 : my_H), my_fr [(10, 0), (10, 2), (10, 3), (10, 7), (10, 8), (10, 27), (10, 32), (10, 33), (52, -1), (53, -1), (54, -1), (63, -1), (64, -1), (65, -1), (66, -1), (67, -1), (68, -1), (69, -1), (70, -1), (71, -1), (72, -1), (73, -1), (74, -1), (75, -1), (76, -1), (77, -1), (78, -1), (79, -1)] h h119_0 → 0 ≤ x1 → x1 ≤ 5 → 0 ≤ p119_0 → p119_0 ≤ 16005 → h119_0 151 0 = 0 → h119_0 151 2 = 0 → h119_0 151 8 = p119_0 → Mw h119_0 → Mw3 h119_0 → Wrd h119_0 → (h119_0 151 8 = 0 → Mq h119_0 x1) → (h119_0 151 8 = 0 → ∀ k : Int, 0 ≤ k → k ≤ 5 → h119_0 164 k = 1 → h119_0 165 k = 0 → h119_0 166 k ≠ x1) → Tok h119_0 → 0 ≤ h119_0 151 7 ∧ h119_0 151 7 ≤ 1001 → 17007 - h119_0 151 7 - h119_0 151 8 ≤ (n : Int) → wp l rho (d + 5) 168 119 [(2, 151), (0, x1), (0, 0), (0, 4)] [] h119_0 Q := by
    intro n
    induction n with
    | zero => intro p119_0 h119_0 gh_119_0 q0_119_0 q1_119_0 q2_119_0 q3_119_0 c151_0_119_0 c151_2_119_0 c151_8_119_0 n_Mw_119_0 n_Mw3_119_0 n_Wrd_119_0 mq_119_0 s6_119_0 tk_119_0 a1_119_0 hm_119_0; exfalso; omega
    | succ n ih_119_0 =>
      intro p119_0 h119_0 gh_119_0 q0_119_0 q1_119_0 q2_119_0 q3_119_0 c151_0_119_0 c151_2_119_0 c151_8_119_0 n_Mw_119_0 n_Mw3_119_0 n_Wrd_119_0 mq_119_0 s6_119_0 tk_119_0 a1_119_0 hm_119_0
      have Tok_h119_0t1 : Tok h119_0 := tk_119_0
      refine w_aload_n gz_168_119 rfl ?_
      refine v_getI (j := 8) gz_168_120 rfl is_151 rd_10 rfl (fun v2 ev2 pv2 qv2 => ?_)
      have zv2 := ev2.trans c151_8_119_0
      refine w_ifne (t := 145) gz_168_123 rfl (fun u3 => ?_) (fun u3 => ?_)
      ·
        refine w_aload_n gz_168_145 rfl ?_
        refine v_getI (j := 8) gz_168_146 rfl is_151 rd_10 rfl (fun v4 ev4 pv4 qv4 => ?_)
        have zv4 := ev4.trans ev2.symm
        refine w_ifne (t := 157) gz_168_149 rfl (fun u5 => ?_) (fun u5 => by exfalso; omega)
        refine w_aload_n gz_168_157 rfl ?_
        refine v_getI (j := 8) gz_168_158 rfl is_151 rd_10 rfl (fun v6 ev6 pv6 qv6 => ?_)
        have zv6 := ev6.trans ev4.symm
        have c7 := c151_0_119_0
        have c8 := c151_2_119_0
        have c9 := ev6.symm
        exact w_iret gz_168_161 gm_168 (k1 h119_0 (v6) (gh_119_0) (by omega) (by omega) (by omega) (by omega) (by omega) (by omega) (by omega) (by omega) n_Mw_119_0 n_Mw3_119_0 n_Wrd_119_0)
      ·
        refine w_aload_n gz_168_126 rfl ?_
        refine w_getX (v := 153) gz_168_127 is_151 rd_10 rfl (by decide) rfl ?_
        refine w_aload_n gz_168_130 rfl ?_
        refine v_getI (j := 7) gz_168_131 rfl is_151 rd_10 rfl (fun v11 ev11 pv11 qv11 => ?_)
        refine w_iald gz_168_134 is_153 rd_52 (by omega) (by omega) (fun v12 ev12 pv12 qv12 => ?_)
        refine w_ifeq (t := 145) gz_168_135 rfl (fun u13 => ?_) (fun u13 => ?_)
        ·
          refine w_aload_n gz_168_145 rfl ?_
          refine v_getI (j := 8) gz_168_146 rfl is_151 rd_10 rfl (fun v14 ev14 pv14 qv14 => ?_)
          have zv14 := ev14.trans ev2.symm
          refine w_ifne (t := 157) gz_168_149 rfl (fun u15 => by exfalso; omega) (fun u15 => ?_)
          refine w_aload_n gz_168_152 rfl ?_
          refine w_iload_n gz_168_153 rfl ?_
          refine w_inv (k := 4) (as := [(0, x1)]) (r := []) (x := 151) (ls0 := [(2, 151), (0, x1), (9, 0), (9, 0), (9, 0), (9, 0)]) gz_168_154 gm_191 rfl is_151 rd_10 rfl rfl rfl rfl rfl (c_Model_keeps2_f0 (d := (d + 4)) (x1 := x1) (by omega) (by omega) (ev14.symm.trans (by omega)) (mq_119_0 (by omega)) (s6_119_0 (by omega)) (fun h16 frh16 w17 Mw3_h16t18 => ?_))
          have gh16 : my_fr [(10, 0), (10, 2), (10, 3), (10, 7), (10, 8), (10, 27), (10, 32), (10, 33), (52, -1), (53, -1), (54, -1), (63, -1), (64, -1), (65, -1), (66, -1), (67, -1), (68, -1), (69, -1), (70, -1), (71, -1), (72, -1), (73, -1), (74, -1), (75, -1), (76, -1), (77, -1), (78, -1), (79, -1)] h h16 := my_fr.tr gh_119_0 (frh16.mo rfl)
          have Wrd_h16 : Wrd h16 := Wrd_ag (my_ag.fr frh16 rfl) n_Wrd_119_0
          have Tok_h16 : Tok h16 := Tok_ag (my_ag.fr frh16 rfl) Tok_h119_0t1
          show wp l rho (d + 5) 168 157 [(2, 151), (0, x1), (0, 0), (0, 4)] [] h16 Q
          have Mw_h16t19 : Mw h16 := (Mw3_h16t18).mw
          refine w_aload_n gz_168_157 rfl ?_
          refine v_getI (j := 8) gz_168_158 rfl is_151 rd_10 rfl (fun v20 ev20 pv20 qv20 => ?_)
          have zv20 := ev20.trans ((my_fr.at frh16 is_151 rfl).trans ev14.symm)
          have c21 := ((my_fr.at frh16 is_151 rfl).trans c151_0_119_0)
          have c22 := ((my_fr.at frh16 is_151 rfl).trans c151_2_119_0)
          have c23 := ev20.symm
          rw [show (v20 : Int) = 0 from by omega]
          exact w_iret gz_168_161 gm_168 (k2 h16 (gh16) (by omega) (by omega) (by omega) (by omega) (by omega) Mw_h16t19 Mw3_h16t18 Wrd_h16)
        ·
          refine w_aload_n gz_168_138 rfl ?_
          have Mq_h119_0t24 : Mq h119_0 x1 := mq_119_0 (by omega)
          have ce25 : h119_0 151 7 = v11 := ev11.symm
          refine w_inv (k := 7) (as := []) (r := []) (x := 151) (ls0 := [(2, 151), (9, 0), (9, 0), (9, 0), (9, 0), (9, 0), (9, 0), (9, 0)]) gz_168_139 gm_185 rfl is_151 rd_10 rfl rfl rfl rfl rfl (c_Model_readPane_f0 (d := d)  (wv := x1) (ev2.symm.trans (by omega)) (by first | assumption | omega) (by first | assumption | omega) Tok_h119_0t1 Mq_h119_0t24 n_Wrd_119_0 (fun h26 frh26 w27 w28 xp29 Tok_h26t30 Mq_h26t31 Wrd_h26t32 => ?_) (fun h33 frh33 w34 w35 w36 xp37 Tok_h33t38 Mq_h33t39 Wrd_h33t40 => ?_))
          ·
            have gh26 : my_fr [(10, 0), (10, 2), (10, 3), (10, 7), (10, 8), (10, 27), (10, 32), (10, 33), (52, -1), (53, -1), (54, -1), (63, -1), (64, -1), (65, -1), (66, -1), (67, -1), (68, -1), (69, -1), (70, -1), (71, -1), (72, -1), (73, -1), (74, -1), (75, -1), (76, -1), (77, -1), (78, -1), (79, -1)] h h26 := my_fr.tr gh_119_0 (frh26.mo rfl)
            have Wrd_h26 : Wrd h26 := Wrd_ag (my_ag.fr frh26 rfl) n_Wrd_119_0
            show wp l rho (d + 5) 168 142 [(2, 151), (0, x1), (0, 0), (0, 4)] [] h26 Q
            have Mw3_h26t41 : Mw3 h26 := (Mq_h26t31).mw3
            have Mw_h26t42 : Mw h26 := (Mq_h26t31).mw3.mw
            refine w_goto (t := 119) gz_168_142 rfl ?_
            have a164 : ∀ j : Int, h26 164 j = h119_0 164 j := fun j => ((my_fr.at frh26 is_164 rfl).trans (rfl : h119_0 164 j = h119_0 164 j))
            have a165 : ∀ j : Int, h26 165 j = h119_0 165 j := fun j => ((my_fr.at frh26 is_165 rfl).trans (rfl : h119_0 165 j = h119_0 165 j))
            have a166 : ∀ j : Int, h26 166 j = h119_0 166 j := fun j => ((my_fr.at frh26 is_166 rfl).trans (rfl : h119_0 166 j = h119_0 166 j))
            have ce43 : h26 151 8 = (h26 151 8) := (rfl : h26 151 8 = h26 151 8)
            have tq := Tok_at Tok_h26t30
            exact ih_119_0 ((h26 151 8)) h26 (gh26) (by omega) (by omega) (by omega) (by omega) (((my_fr.at frh26 is_151 rfl).trans c151_0_119_0).trans (by omega)) (((my_fr.at frh26 is_151 rfl).trans c151_2_119_0).trans (by omega)) ((rfl : h26 151 8 = h26 151 8).trans (by omega)) Mw_h26t42 Mw3_h26t41 Wrd_h26t32 (by first | (intro _; exact Mq_h26t31) | (intro q; exfalso; omega) | (intro _; assumption) | omega) (by first | (intro q; exfalso; omega) | (intro _ k a b c e; have z := s56 k b; rw [z.1] at e; rw [z.2]; exact u9_93_0 k a b (by rw [← a164]; exact c) e) | (intro _ k a b c e; rw [a164] at c; rw [a165] at e; rw [a166]; exact s6_119_0 (by omega) k a b c e) | omega) (Tok_h26t30) (by have q := Tok_at Tok_h26t30; omega) (by omega)
          ·
            have gh33 : my_fr [(10, 0), (10, 2), (10, 3), (10, 7), (10, 8), (10, 27), (10, 32), (10, 33), (52, -1), (53, -1), (54, -1), (63, -1), (64, -1), (65, -1), (66, -1), (67, -1), (68, -1), (69, -1), (70, -1), (71, -1), (72, -1), (73, -1), (74, -1), (75, -1), (76, -1), (77, -1), (78, -1), (79, -1)] h h33 := my_fr.tr gh_119_0 (frh33.mo rfl)
            have Wrd_h33 : Wrd h33 := Wrd_ag (my_ag.fr frh33 rfl) n_Wrd_119_0
            show wp l rho (d + 5) 168 142 [(2, 151), (0, x1), (0, 0), (0, 4)] [] h33 Q
            have Mw3_h33t44 : Mw3 h33 := (Mq_h33t39).mw3
            have Mw_h33t45 : Mw h33 := (Mq_h33t39).mw3.mw
            refine w_goto (t := 119) gz_168_142 rfl ?_
            have a164 : ∀ j : Int, h33 164 j = h119_0 164 j := fun j => ((my_fr.at frh33 is_164 rfl).trans (rfl : h119_0 164 j = h119_0 164 j))
            have a165 : ∀ j : Int, h33 165 j = h119_0 165 j := fun j => ((my_fr.at frh33 is_165 rfl).trans (rfl : h119_0 165 j = h119_0 165 j))
            have a166 : ∀ j : Int, h33 166 j = h119_0 166 j := fun j => ((my_fr.at frh33 is_166 rfl).trans (rfl : h119_0 166 j = h119_0 166 j))
            have ce46 : h33 151 7 = (h33 151 7) := (rfl : h33 151 7 = h33 151 7)
            have ce47 : h33 151 8 = 0 := w36
            have tq := Tok_at Tok_h33t38
            exact ih_119_0 (0) h33 (gh33) (by omega) (by omega) (by omega) (by omega) (((my_fr.at frh33 is_151 rfl).trans c151_0_119_0).trans (by omega)) (((my_fr.at frh33 is_151 rfl).trans c151_2_119_0).trans (by omega)) (w36.trans (by omega)) Mw_h33t45 Mw3_h33t44 Wrd_h33t40 (by first | (intro _; exact Mq_h33t39) | (intro q; exfalso; omega) | (intro _; assumption) | omega) (by first | (intro q; exfalso; omega) | (intro _ k a b c e; have z := s56 k b; rw [z.1] at e; rw [z.2]; exact u9_93_0 k a b (by rw [← a164]; exact c) e) | (intro _ k a b c e; rw [a164] at c; rw [a165] at e; rw [a166]; exact s6_119_0 (by omega) k a b c e) | omega) (Tok_h33t38) (by have q := Tok_at Tok_h33t38; omega) (by omega)
  have J93_0 : ∀ (n : Nat) (p93_0 : Int) (h93_0 : my_H), my_fr [(10, 0), (10, 2), (10, 3), (10, 7), (10, 8), (10, 27), (10, 32), (10, 33), (52, -1), (53, -1), (54, -1), (63, -1), (64, -1), (65, -1), (66, -1), (67, -1), (68, -1), (69, -1), (70, -1), (71, -1), (72, -1), (73, -1), (74, -1), (75, -1), (76, -1), (77, -1), (78, -1), (79, -1)] h h93_0 → 0 ≤ x1 → x1 ≤ 5 → 0 ≤ p93_0 → p93_0 ≤ 4 → h93_0 151 0 = 0 → h93_0 151 2 = 0 → h93_0 151 7 = 0 → h93_0 151 8 = 0 → Mw h93_0 → Mw3 h93_0 → Wrd h93_0 → h93_0 167 6 = 0 → (∀ k : Int, 0 ≤ k → k ≤ 5 → h93_0 164 k = 1 → h93_0 165 k = 0 → h93_0 166 k ≠ x1) → Tok h93_0 → 5 - p93_0 ≤ (n : Int) → wp l rho (d + 5) 168 93 [(2, 151), (0, x1), (0, 0), (0, p93_0)] [] h93_0 Q := by
    intro n
    induction n with
    | zero => intro p93_0 h93_0 gh_93_0 q0_93_0 q1_93_0 q2_93_0 q3_93_0 c151_0_93_0 c151_2_93_0 c151_7_93_0 c151_8_93_0 n_Mw_93_0 n_Mw3_93_0 n_Wrd_93_0 z6_93_0 u9_93_0 tk_93_0 hm_93_0; exfalso; omega
    | succ n ih_93_0 =>
      intro p93_0 h93_0 gh_93_0 q0_93_0 q1_93_0 q2_93_0 q3_93_0 c151_0_93_0 c151_2_93_0 c151_7_93_0 c151_8_93_0 n_Mw_93_0 n_Mw3_93_0 n_Wrd_93_0 z6_93_0 u9_93_0 tk_93_0 hm_93_0
      have Tok_h93_0t48 : Tok h93_0 := tk_93_0
      refine w_iload_n gz_168_93 rfl ?_
      refine w_iconst gz_168_94 (by decide) ?_
      refine w_icge (t := 114) gz_168_95 rfl (fun u49 => ?_) (fun u49 => ?_)
      ·
        refine w_aload_n gz_168_114 rfl ?_
        refine w_iload_n gz_168_115 rfl ?_
        refine w_inv (k := 1) (as := [(0, x1)]) (r := []) (x := 151) (ls0 := [(2, 151), (0, x1), (9, 0)]) gz_168_116 gm_174 rfl is_151 rd_10 rfl rfl rfl rfl rfl (c_Model_readOver_f0 (d := (d + 1)) (x1 := x1) (by omega) (by omega) (c151_8_93_0.trans (by omega)) Tok_h93_0t48 n_Mw_93_0 n_Mw3_93_0 (by first | assumption | exact no_such_saying | exact Fp_told (by omega) (by omega) | omega | (subst_vars; omega) | omega) (fun h50 frh50 w51 w52 Tok_h50t53 Mw_h50t54 Mw3_h50t55 => ?_) (fun h56 frh56 w57 w58 w59 xp60 xp61 Tok_h56t62 Mw_h56t63 Mw3_h56t64 => ?_))
        ·
          have gh50 : my_fr [(10, 0), (10, 2), (10, 3), (10, 7), (10, 8), (10, 27), (10, 32), (10, 33), (52, -1), (53, -1), (54, -1), (63, -1), (64, -1), (65, -1), (66, -1), (67, -1), (68, -1), (69, -1), (70, -1), (71, -1), (72, -1), (73, -1), (74, -1), (75, -1), (76, -1), (77, -1), (78, -1), (79, -1)] h h50 := my_fr.tr gh_93_0 (frh50.mo rfl)
          have Wrd_h50 : Wrd h50 := Wrd_ag (my_ag.fr frh50 rfl) n_Wrd_93_0
          show wp l rho (d + 5) 168 119 [(2, 151), (0, x1), (0, 0), (0, p93_0)] [] h50 Q
          have a164 : ∀ j : Int, h50 164 j = h93_0 164 j := fun j => ((my_fr.at frh50 is_164 rfl).trans (rfl : h93_0 164 j = h93_0 164 j))
          have a165 : ∀ j : Int, h50 165 j = h50 165 j := fun j => rfl
          have a166 : ∀ j : Int, h50 166 j = h50 166 j := fun j => rfl
          have ce65 : h50 151 8 = (h50 151 8) := (rfl : h50 151 8 = h50 151 8)
          have tq := Tok_at Tok_h50t53
          rw [show (p93_0 : Int) = 4 from by omega]
          exact J119_0 (17007) ((h50 151 8)) h50 (gh50) (by omega) (by omega) (by omega) (by omega) (((my_fr.at frh50 is_151 rfl).trans c151_0_93_0).trans (by omega)) (((my_fr.at frh50 is_151 rfl).trans c151_2_93_0).trans (by omega)) ((rfl : h50 151 8 = h50 151 8).trans (by omega)) Mw_h50t54 Mw3_h50t55 Wrd_h50 (by first | (intro _; exact no_such_saying) | (intro q; exfalso; omega) | (intro _; assumption) | omega) (by first | (intro q; exfalso; omega) | (intro _ k a b c e; have z := s56 k b; rw [z.1] at e; rw [z.2]; exact u9_93_0 k a b (by rw [← a164]; exact c) e) | (intro _ k a b c e; rw [a164] at c; rw [a165] at e; rw [a166]; exact s6_119_0 (by omega) k a b c e) | omega) (Tok_h50t53) (by have q := Tok_at Tok_h50t53; omega) (by omega)
        ·
          have gh56 : my_fr [(10, 0), (10, 2), (10, 3), (10, 7), (10, 8), (10, 27), (10, 32), (10, 33), (52, -1), (53, -1), (54, -1), (63, -1), (64, -1), (65, -1), (66, -1), (67, -1), (68, -1), (69, -1), (70, -1), (71, -1), (72, -1), (73, -1), (74, -1), (75, -1), (76, -1), (77, -1), (78, -1), (79, -1)] h h56 := my_fr.tr gh_93_0 (frh56.mo rfl)
          have Wrd_h56 : Wrd h56 := Wrd_ag (my_ag.fr frh56 rfl) n_Wrd_93_0
          show wp l rho (d + 5) 168 119 [(2, 151), (0, x1), (0, 0), (0, p93_0)] [] h56 Q
          have s56 := xp61
          have a164 : ∀ j : Int, h56 164 j = h93_0 164 j := fun j => ((my_fr.at frh56 is_164 rfl).trans (rfl : h93_0 164 j = h93_0 164 j))
          have a165 : ∀ j : Int, h56 165 j = h56 165 j := fun j => rfl
          have a166 : ∀ j : Int, h56 166 j = h56 166 j := fun j => rfl
          have ce66 : h56 151 7 = (h56 151 7) := (rfl : h56 151 7 = h56 151 7)
          have ce67 : h56 151 8 = 0 := w59
          have tq := Tok_at Tok_h56t62
          rw [show (p93_0 : Int) = 4 from by omega]
          exact J119_0 (17007) (0) h56 (gh56) (by omega) (by omega) (by omega) (by omega) (((my_fr.at frh56 is_151 rfl).trans c151_0_93_0).trans (by omega)) (((my_fr.at frh56 is_151 rfl).trans c151_2_93_0).trans (by omega)) (w59.trans (by omega)) Mw_h56t63 Mw3_h56t64 Wrd_h56 (by first | (intro _; exact no_such_saying) | (intro q; exfalso; omega) | (intro _; assumption) | omega) (by first | (intro q; exfalso; omega) | (intro _ k a b c e; have z := s56 k b; rw [z.1] at e; rw [z.2]; exact u9_93_0 k a b (by rw [← a164]; exact c) e) | (intro _ k a b c e; rw [a164] at c; rw [a165] at e; rw [a166]; exact s6_119_0 (by omega) k a b c e) | omega) (Tok_h56t62) (by have q := Tok_at Tok_h56t62; omega) (by omega)
      ·
        refine w_aload_n gz_168_98 rfl ?_
        refine w_getX (v := 173) gz_168_99 is_151 rd_10 rfl (by decide) rfl ?_
        refine w_bipush gz_168_102 (by decide) ?_
        refine w_iload_n gz_168_104 rfl ?_
        refine w_iadd gz_168_105 ⟨by omega, by omega⟩ ?_
        refine w_iconst gz_168_106 (by decide) ?_
        refine w_iast gz_168_107 is_173 rd_72 (by omega) (by omega) (by omega) (by omega) (fun h69 fh69 => ?_)
        have gh69 : my_fr [(10, 0), (10, 2), (10, 3), (10, 7), (10, 8), (10, 27), (10, 32), (10, 33), (52, -1), (53, -1), (54, -1), (63, -1), (64, -1), (65, -1), (66, -1), (67, -1), (68, -1), (69, -1), (70, -1), (71, -1), (72, -1), (73, -1), (74, -1), (75, -1), (76, -1), (77, -1), (78, -1), (79, -1)] h h69 := my_fr.up gh_93_0 is_173 fh69 rfl
        have Mw_h69 : Mw h69 := Mw_ag (my_ag.up fh69 is_173 rfl) n_Mw_93_0
        have Mw3_h69 : Mw3 h69 := Mw3_ag (my_ag.up fh69 is_173 rfl) n_Mw3_93_0
        have Wrd_h69 : Wrd h69 := Wrd_ag (my_ag.up fh69 is_173 rfl) n_Wrd_93_0
        have Tok_h69 : Tok h69 := Tok_ag (my_ag.up fh69 is_173 rfl) Tok_h93_0t48
        refine w_iinc (ls' := [(2, 151), (0, x1), (0, 0), (0, (p93_0 + 1))]) gz_168_108 rfl gm_168 rfl rfl rfl ⟨by omega, by omega⟩ ?_
        refine w_goto (t := 93) gz_168_111 rfl ?_
        have a164 : ∀ j : Int, h69 164 j = h93_0 164 j := fun j => ((my_up_role fh69 is_164 is_173 rfl).trans (rfl : h93_0 164 j = h93_0 164 j))
        have a165 : ∀ j : Int, h69 165 j = h93_0 165 j := fun j => ((my_up_role fh69 is_165 is_173 rfl).trans (rfl : h93_0 165 j = h93_0 165 j))
        have a166 : ∀ j : Int, h69 166 j = h93_0 166 j := fun j => ((my_up_role fh69 is_166 is_173 rfl).trans (rfl : h93_0 166 j = h93_0 166 j))
        have a167 : ∀ j : Int, h69 167 j = h93_0 167 j := fun j => ((my_up_role fh69 is_167 is_173 rfl).trans (rfl : h93_0 167 j = h93_0 167 j))
        exact ih_93_0 ((p93_0 + 1)) h69 (gh69) (by omega) (by omega) (by omega) (by omega) (((my_up_role fh69 is_151 is_173 rfl).trans c151_0_93_0).trans (by omega)) (((my_up_role fh69 is_151 is_173 rfl).trans c151_2_93_0).trans (by omega)) (((my_up_role fh69 is_151 is_173 rfl).trans c151_7_93_0).trans (by omega)) (((my_up_role fh69 is_151 is_173 rfl).trans c151_8_93_0).trans (by omega)) Mw_h69 Mw3_h69 Wrd_h69 (by rw [a167]; first | exact k67 | exact z6_93_0) (by intro k a b c e; rw [a164] at c; rw [a165] at e; rw [a166]; first | exact u9_93_0 k a b c e | exact un_9_0 (by omega) k a (by omega) c e) (Tok_h69) (by omega)
  have J9_0 : ∀ (n : Nat) (p9_0 p9_1 : Int) (h9_0 : my_H), my_fr [(10, 0), (10, 2), (10, 3), (10, 7), (10, 8), (10, 27), (10, 32), (10, 33), (52, -1), (53, -1), (54, -1), (63, -1), (64, -1), (65, -1), (66, -1), (67, -1), (68, -1), (69, -1), (70, -1), (71, -1), (72, -1), (73, -1), (74, -1), (75, -1), (76, -1), (77, -1), (78, -1), (79, -1)] h h9_0 → 0 ≤ p9_0 → p9_0 ≤ 1 → 0 ≤ p9_1 → p9_1 ≤ 6 → p9_0 ≤ p9_1 → h9_0 151 0 = 0 → Mw h9_0 → Mw3 h9_0 → Wrd h9_0 → (p9_0 = 0 → ∀ k : Int, 0 ≤ k → k < p9_1 → h9_0 164 k = 1 → h9_0 165 k = 0 → h9_0 166 k ≠ x1) → 7 - p9_1 ≤ (n : Int) → wp l rho (d + 5) 168 9 [(2, 151), (0, x1), (0, p9_0), (0, p9_1)] [] h9_0 Q := by
    intro n
    induction n with
    | zero => intro p9_0 p9_1 h9_0 gh_9_0 q0_9_0 q1_9_0 q2_9_0 q3_9_0 q4_9_0 c151_0_9_0 n_Mw_9_0 n_Mw3_9_0 n_Wrd_9_0 un_9_0 hm_9_0; exfalso; omega
    | succ n ih_9_0 =>
      intro p9_0 p9_1 h9_0 gh_9_0 q0_9_0 q1_9_0 q2_9_0 q3_9_0 q4_9_0 c151_0_9_0 n_Mw_9_0 n_Mw3_9_0 n_Wrd_9_0 un_9_0 hm_9_0
      refine w_iload_n gz_168_9 rfl ?_
      refine w_bipush gz_168_10 (by decide) ?_
      refine w_icge (t := 59) gz_168_12 rfl (fun u70 => ?_) (fun u70 => ?_)
      ·
        refine w_iload_n gz_168_59 rfl ?_
        refine w_iconst gz_168_60 (by decide) ?_
        refine w_iconst gz_168_61 (by decide) ?_
        refine w_inS (k := 0) (as := [(0, 5), (0, 0), (0, x1)]) (r := []) (ls0 := [(0, x1), (0, 0), (0, 5)]) gz_168_62 gm_147 rfl rfl rfl rfl rfl rfl ?_
        refine w_iload_n gz_147_0 rfl ?_
        refine w_iload_n gz_147_1 rfl ?_
        refine w_iclt (t := 14) gz_147_2 rfl (fun u71 => ?_) (fun u71 => ?_)
        ·
          refine w_iconst gz_147_14 (by decide) ?_
          refine w_bret gz_147_15 gm_147 (by omega) (by omega) ?_
          show wp l rho (d + 5) 168 65 [(2, 151), (0, x1), (0, p9_0), (0, p9_1)] [(0, 0)] h9_0 Q
          refine w_ifeq (t := 72) gz_168_65 rfl (fun u72 => ?_) (fun u72 => by exfalso; omega)
          refine w_aload_n gz_168_72 rfl ?_
          refine w_iconst gz_168_73 (by decide) ?_
          refine v_putI (j := 2) gz_168_74 rfl is_151 rd_10 rfl (by omega) (by omega) rfl (fun h73 fh73 => ?_)
          have gh73 : my_fr [(10, 0), (10, 2), (10, 3), (10, 7), (10, 8), (10, 27), (10, 32), (10, 33), (52, -1), (53, -1), (54, -1), (63, -1), (64, -1), (65, -1), (66, -1), (67, -1), (68, -1), (69, -1), (70, -1), (71, -1), (72, -1), (73, -1), (74, -1), (75, -1), (76, -1), (77, -1), (78, -1), (79, -1)] h h73 := my_fr.up gh_9_0 is_151 fh73 rfl
          have Mw_h73 : Mw h73 := Mw_ag (my_ag.up fh73 is_151 rfl) n_Mw_9_0
          have Mw3_h73 : Mw3 h73 := Mw3_ag (my_ag.up fh73 is_151 rfl) n_Mw3_9_0
          have Wrd_h73 : Wrd h73 := Wrd_ag (my_ag.up fh73 is_151 rfl) n_Wrd_9_0
          refine w_iconst gz_168_77 (by decide) ?_
          have c74 := ((my_up_fld fh73 (by decide)).trans c151_0_9_0)
          have c75 := (my_up_self fh73)
          exact w_iret gz_168_78 gm_168 (k0 h73 (gh73) (by omega) (by omega) Mw_h73 Mw3_h73 Wrd_h73)
        ·
          refine w_iload_n gz_147_5 rfl ?_
          refine w_iload_n gz_147_6 rfl ?_
          refine w_icgt (t := 14) gz_147_7 rfl (fun u76 => ?_) (fun u76 => ?_)
          ·
            refine w_iconst gz_147_14 (by decide) ?_
            refine w_bret gz_147_15 gm_147 (by omega) (by omega) ?_
            show wp l rho (d + 5) 168 65 [(2, 151), (0, x1), (0, p9_0), (0, p9_1)] [(0, 0)] h9_0 Q
            refine w_ifeq (t := 72) gz_168_65 rfl (fun u77 => ?_) (fun u77 => by exfalso; omega)
            refine w_aload_n gz_168_72 rfl ?_
            refine w_iconst gz_168_73 (by decide) ?_
            refine v_putI (j := 2) gz_168_74 rfl is_151 rd_10 rfl (by omega) (by omega) rfl (fun h78 fh78 => ?_)
            have gh78 : my_fr [(10, 0), (10, 2), (10, 3), (10, 7), (10, 8), (10, 27), (10, 32), (10, 33), (52, -1), (53, -1), (54, -1), (63, -1), (64, -1), (65, -1), (66, -1), (67, -1), (68, -1), (69, -1), (70, -1), (71, -1), (72, -1), (73, -1), (74, -1), (75, -1), (76, -1), (77, -1), (78, -1), (79, -1)] h h78 := my_fr.up gh_9_0 is_151 fh78 rfl
            have Mw_h78 : Mw h78 := Mw_ag (my_ag.up fh78 is_151 rfl) n_Mw_9_0
            have Mw3_h78 : Mw3 h78 := Mw3_ag (my_ag.up fh78 is_151 rfl) n_Mw3_9_0
            have Wrd_h78 : Wrd h78 := Wrd_ag (my_ag.up fh78 is_151 rfl) n_Wrd_9_0
            refine w_iconst gz_168_77 (by decide) ?_
            have c79 := ((my_up_fld fh78 (by decide)).trans c151_0_9_0)
            have c80 := (my_up_self fh78)
            exact w_iret gz_168_78 gm_168 (k0 h78 (gh78) (by omega) (by omega) Mw_h78 Mw3_h78 Wrd_h78)
          ·
            refine w_iconst gz_147_10 (by decide) ?_
            refine w_goto (t := 15) gz_147_11 rfl ?_
            refine w_bret gz_147_15 gm_147 (by omega) (by omega) ?_
            show wp l rho (d + 5) 168 65 [(2, 151), (0, x1), (0, p9_0), (0, p9_1)] [(0, 1)] h9_0 Q
            refine w_ifeq (t := 72) gz_168_65 rfl (fun u81 => by exfalso; omega) (fun u81 => ?_)
            refine w_iload_n gz_168_68 rfl ?_
            refine w_ifeq (t := 79) gz_168_69 rfl (fun u82 => ?_) (fun u82 => ?_)
            ·
              refine w_aload_n gz_168_79 rfl ?_
              refine w_inv (k := 6) (as := []) (r := []) (x := 151) (ls0 := [(2, 151), (9, 0), (9, 0), (9, 0), (9, 0), (9, 0), (9, 0)]) gz_168_80 gm_169 rfl is_151 rd_10 rfl rfl rfl rfl rfl (c_Model_cutAll (d := (d + 2))   (fun h83 frh83 w84 w85 w86 Tok_h83t87 => ?_))
              have gh83 : my_fr [(10, 0), (10, 2), (10, 3), (10, 7), (10, 8), (10, 27), (10, 32), (10, 33), (52, -1), (53, -1), (54, -1), (63, -1), (64, -1), (65, -1), (66, -1), (67, -1), (68, -1), (69, -1), (70, -1), (71, -1), (72, -1), (73, -1), (74, -1), (75, -1), (76, -1), (77, -1), (78, -1), (79, -1)] h h83 := my_fr.tr gh_9_0 (frh83.mo rfl)
              have Mw_h83 : Mw h83 := Mw_ag (my_ag.fr frh83 rfl) n_Mw_9_0
              have Mw3_h83 : Mw3 h83 := Mw3_ag (my_ag.fr frh83 rfl) n_Mw3_9_0
              have Wrd_h83 : Wrd h83 := Wrd_ag (my_ag.fr frh83 rfl) n_Wrd_9_0
              show wp l rho (d + 5) 168 83 [(2, 151), (0, x1), (0, p9_0), (0, p9_1)] [] h83 Q
              refine w_aload_n gz_168_83 rfl ?_
              refine w_getX (v := 167) gz_168_84 is_151 rd_10 rfl (by decide) rfl ?_
              refine w_bipush gz_168_87 (by decide) ?_
              refine w_iconst gz_168_89 (by decide) ?_
              refine w_iast gz_168_90 is_167 rd_66 (by omega) (by omega) (by omega) (by omega) (fun h89 fh89 => ?_)
              have gh89 : my_fr [(10, 0), (10, 2), (10, 3), (10, 7), (10, 8), (10, 27), (10, 32), (10, 33), (52, -1), (53, -1), (54, -1), (63, -1), (64, -1), (65, -1), (66, -1), (67, -1), (68, -1), (69, -1), (70, -1), (71, -1), (72, -1), (73, -1), (74, -1), (75, -1), (76, -1), (77, -1), (78, -1), (79, -1)] h h89 := my_fr.up gh83 is_167 fh89 rfl
              have Wrd_h89 : Wrd h89 := Wrd_ag (my_ag.up fh89 is_167 rfl) Wrd_h83
              have Tok_h89 : Tok h89 := Tok_ag (my_ag.up fh89 is_167 rfl) Tok_h83t87
              have Mw3_h89t90 : Mw3 h89 := Mw3_6 (by decide) fh89 Mw3_h83
              have Mw_h89t91 : Mw h89 := (Mw3_6 (by decide) fh89 Mw3_h83).mw
              have k67 := my_up_self fh89
              refine w_iconst gz_168_91 (by decide) ?_
              refine w_istore_n (ls' := [(2, 151), (0, x1), (0, p9_0), (0, 0)]) gz_168_92 gm_168 rfl rfl rfl ?_
              have a164 : ∀ j : Int, h89 164 j = h9_0 164 j := fun j => ((my_up_role fh89 is_164 is_167 rfl).trans ((my_fr.at frh83 is_164 rfl).trans (rfl : h9_0 164 j = h9_0 164 j)))
              have a165 : ∀ j : Int, h89 165 j = h9_0 165 j := fun j => ((my_up_role fh89 is_165 is_167 rfl).trans ((my_fr.at frh83 is_165 rfl).trans (rfl : h9_0 165 j = h9_0 165 j)))
              have a166 : ∀ j : Int, h89 166 j = h9_0 166 j := fun j => ((my_up_role fh89 is_166 is_167 rfl).trans ((my_fr.at frh83 is_166 rfl).trans (rfl : h9_0 166 j = h9_0 166 j)))
              have a167 : ∀ j : Int, h89 167 j = h89 167 j := fun j => rfl
              rw [show (p9_0 : Int) = 0 from by omega]
              exact J93_0 5 (0) h89 (gh89) (by omega) (by omega) (by omega) (by omega) (((my_up_role fh89 is_151 is_167 rfl).trans ((my_fr.at frh83 is_151 rfl).trans c151_0_9_0)).trans (by omega)) (((my_up_role fh89 is_151 is_167 rfl).trans w84).trans (by omega)) (((my_up_role fh89 is_151 is_167 rfl).trans w85).trans (by omega)) (((my_up_role fh89 is_151 is_167 rfl).trans w86).trans (by omega)) Mw_h89t91 Mw3_h89t90 Wrd_h89 (by rw [a167]; first | exact k67 | exact z6_93_0) (by intro k a b c e; rw [a164] at c; rw [a165] at e; rw [a166]; first | exact u9_93_0 k a b c e | exact un_9_0 (by omega) k a (by omega) c e) (Tok_h89) (by omega)
            ·
              refine w_aload_n gz_168_72 rfl ?_
              refine w_iconst gz_168_73 (by decide) ?_
              refine v_putI (j := 2) gz_168_74 rfl is_151 rd_10 rfl (by omega) (by omega) rfl (fun h92 fh92 => ?_)
              have gh92 : my_fr [(10, 0), (10, 2), (10, 3), (10, 7), (10, 8), (10, 27), (10, 32), (10, 33), (52, -1), (53, -1), (54, -1), (63, -1), (64, -1), (65, -1), (66, -1), (67, -1), (68, -1), (69, -1), (70, -1), (71, -1), (72, -1), (73, -1), (74, -1), (75, -1), (76, -1), (77, -1), (78, -1), (79, -1)] h h92 := my_fr.up gh_9_0 is_151 fh92 rfl
              have Mw_h92 : Mw h92 := Mw_ag (my_ag.up fh92 is_151 rfl) n_Mw_9_0
              have Mw3_h92 : Mw3 h92 := Mw3_ag (my_ag.up fh92 is_151 rfl) n_Mw3_9_0
              have Wrd_h92 : Wrd h92 := Wrd_ag (my_ag.up fh92 is_151 rfl) n_Wrd_9_0
              refine w_iconst gz_168_77 (by decide) ?_
              have c93 := ((my_up_fld fh92 (by decide)).trans c151_0_9_0)
              have c94 := (my_up_self fh92)
              exact w_iret gz_168_78 gm_168 (k0 h92 (gh92) (by omega) (by omega) Mw_h92 Mw3_h92 Wrd_h92)
      ·
        refine w_iload_n gz_168_15 rfl ?_
        refine w_ifne (t := 47) gz_168_16 rfl (fun u95 => ?_) (fun u95 => ?_)
        ·
          refine w_iconst gz_168_47 (by decide) ?_
          refine w_goto (t := 52) gz_168_48 rfl ?_
          refine w_istore_n (ls' := [(2, 151), (0, x1), (0, 1), (0, p9_1)]) gz_168_52 gm_168 rfl rfl rfl ?_
          refine w_iinc (ls' := [(2, 151), (0, x1), (0, 1), (0, (p9_1 + 1))]) gz_168_53 rfl gm_168 rfl rfl rfl ⟨by omega, by omega⟩ ?_
          refine w_goto (t := 9) gz_168_56 rfl ?_
          have a164 : ∀ j : Int, h9_0 164 j = h9_0 164 j := fun _ => rfl
          have a165 : ∀ j : Int, h9_0 165 j = h9_0 165 j := fun _ => rfl
          have a166 : ∀ j : Int, h9_0 166 j = h9_0 166 j := fun _ => rfl
          exact ih_9_0 (1) ((p9_1 + 1)) h9_0 (gh_9_0) (by omega) (by omega) (by omega) (by omega) (by omega) (c151_0_9_0.trans (by omega)) n_Mw_9_0 n_Mw3_9_0 n_Wrd_9_0 (by first | (intro _ k a b; exfalso; omega) | (intro q; exfalso; omega) | (intro q k a b c e; rw [a164] at c; rw [a165] at e; rw [a166]; rcases (by omega : k = p9_1 ∨ k < p9_1) with z | z <;> first | exact un_9_0 (by omega) k a z c e | (subst z; omega) | (subst_vars; omega)) | omega) (by omega)
        ·
          refine w_aload_n gz_168_19 rfl ?_
          refine w_getX (v := 164) gz_168_20 is_151 rd_10 rfl (by decide) rfl ?_
          refine w_iload_n gz_168_23 rfl ?_
          refine w_bald gz_168_24 is_164 rd_63 (by omega) (by omega) (fun v97 ev97 pv97 qv97 => ?_)
          refine w_ifeq (t := 51) gz_168_25 rfl (fun u98 => ?_) (fun u98 => ?_)
          ·
            refine w_iconst gz_168_51 (by decide) ?_
            refine w_istore_n (ls' := [(2, 151), (0, x1), (0, 0), (0, p9_1)]) gz_168_52 gm_168 rfl rfl rfl ?_
            refine w_iinc (ls' := [(2, 151), (0, x1), (0, 0), (0, (p9_1 + 1))]) gz_168_53 rfl gm_168 rfl rfl rfl ⟨by omega, by omega⟩ ?_
            refine w_goto (t := 9) gz_168_56 rfl ?_
            have a164 : ∀ j : Int, h9_0 164 j = h9_0 164 j := fun _ => rfl
            have a165 : ∀ j : Int, h9_0 165 j = h9_0 165 j := fun _ => rfl
            have a166 : ∀ j : Int, h9_0 166 j = h9_0 166 j := fun _ => rfl
            exact ih_9_0 (0) ((p9_1 + 1)) h9_0 (gh_9_0) (by omega) (by omega) (by omega) (by omega) (by omega) (c151_0_9_0.trans (by omega)) n_Mw_9_0 n_Mw3_9_0 n_Wrd_9_0 (by first | (intro _ k a b; exfalso; omega) | (intro q; exfalso; omega) | (intro q k a b c e; rw [a164] at c; rw [a165] at e; rw [a166]; rcases (by omega : k = p9_1 ∨ k < p9_1) with z | z <;> first | exact un_9_0 (by omega) k a z c e | (subst z; omega) | (subst_vars; omega)) | omega) (by omega)
          ·
            refine w_aload_n gz_168_28 rfl ?_
            refine w_getX (v := 165) gz_168_29 is_151 rd_10 rfl (by decide) rfl ?_
            refine w_iload_n gz_168_32 rfl ?_
            refine w_bald gz_168_33 is_165 rd_64 (by omega) (by omega) (fun v100 ev100 pv100 qv100 => ?_)
            refine w_ifne (t := 51) gz_168_34 rfl (fun u101 => ?_) (fun u101 => ?_)
            ·
              refine w_iconst gz_168_51 (by decide) ?_
              refine w_istore_n (ls' := [(2, 151), (0, x1), (0, 0), (0, p9_1)]) gz_168_52 gm_168 rfl rfl rfl ?_
              refine w_iinc (ls' := [(2, 151), (0, x1), (0, 0), (0, (p9_1 + 1))]) gz_168_53 rfl gm_168 rfl rfl rfl ⟨by omega, by omega⟩ ?_
              refine w_goto (t := 9) gz_168_56 rfl ?_
              have a164 : ∀ j : Int, h9_0 164 j = h9_0 164 j := fun _ => rfl
              have a165 : ∀ j : Int, h9_0 165 j = h9_0 165 j := fun _ => rfl
              have a166 : ∀ j : Int, h9_0 166 j = h9_0 166 j := fun _ => rfl
              exact ih_9_0 (0) ((p9_1 + 1)) h9_0 (gh_9_0) (by omega) (by omega) (by omega) (by omega) (by omega) (c151_0_9_0.trans (by omega)) n_Mw_9_0 n_Mw3_9_0 n_Wrd_9_0 (by first | (intro _ k a b; exfalso; omega) | (intro q; exfalso; omega) | (intro q k a b c e; rw [a164] at c; rw [a165] at e; rw [a166]; rcases (by omega : k = p9_1 ∨ k < p9_1) with z | z <;> first | exact un_9_0 (by omega) k a z c e | (subst z; omega) | (subst_vars; omega)) | omega) (by omega)
            ·
              refine w_aload_n gz_168_37 rfl ?_
              refine w_getX (v := 166) gz_168_38 is_151 rd_10 rfl (by decide) rfl ?_
              refine w_iload_n gz_168_41 rfl ?_
              refine w_iald gz_168_42 is_166 rd_65 (by omega) (by omega) (fun v103 ev103 pv103 qv103 => ?_)
              refine w_iload_n gz_168_43 rfl ?_
              refine w_icne (t := 51) gz_168_44 rfl (fun u104 => ?_) (fun u104 => ?_)
              ·
                refine w_iconst gz_168_51 (by decide) ?_
                refine w_istore_n (ls' := [(2, 151), (0, x1), (0, 0), (0, p9_1)]) gz_168_52 gm_168 rfl rfl rfl ?_
                refine w_iinc (ls' := [(2, 151), (0, x1), (0, 0), (0, (p9_1 + 1))]) gz_168_53 rfl gm_168 rfl rfl rfl ⟨by omega, by omega⟩ ?_
                refine w_goto (t := 9) gz_168_56 rfl ?_
                have a164 : ∀ j : Int, h9_0 164 j = h9_0 164 j := fun _ => rfl
                have a165 : ∀ j : Int, h9_0 165 j = h9_0 165 j := fun _ => rfl
                have a166 : ∀ j : Int, h9_0 166 j = h9_0 166 j := fun _ => rfl
                exact ih_9_0 (0) ((p9_1 + 1)) h9_0 (gh_9_0) (by omega) (by omega) (by omega) (by omega) (by omega) (c151_0_9_0.trans (by omega)) n_Mw_9_0 n_Mw3_9_0 n_Wrd_9_0 (by first | (intro _ k a b; exfalso; omega) | (intro q; exfalso; omega) | (intro q k a b c e; rw [a164] at c; rw [a165] at e; rw [a166]; rcases (by omega : k = p9_1 ∨ k < p9_1) with z | z <;> first | exact un_9_0 (by omega) k a z c e | (subst z; omega) | (subst_vars; omega)) | omega) (by omega)
              ·
                refine w_iconst gz_168_47 (by decide) ?_
                refine w_goto (t := 52) gz_168_48 rfl ?_
                refine w_istore_n (ls' := [(2, 151), (0, x1), (0, 1), (0, p9_1)]) gz_168_52 gm_168 rfl rfl rfl ?_
                refine w_iinc (ls' := [(2, 151), (0, x1), (0, 1), (0, (p9_1 + 1))]) gz_168_53 rfl gm_168 rfl rfl rfl ⟨by omega, by omega⟩ ?_
                refine w_goto (t := 9) gz_168_56 rfl ?_
                have a164 : ∀ j : Int, h9_0 164 j = h9_0 164 j := fun _ => rfl
                have a165 : ∀ j : Int, h9_0 165 j = h9_0 165 j := fun _ => rfl
                have a166 : ∀ j : Int, h9_0 166 j = h9_0 166 j := fun _ => rfl
                exact ih_9_0 (1) ((p9_1 + 1)) h9_0 (gh_9_0) (by omega) (by omega) (by omega) (by omega) (by omega) (c151_0_9_0.trans (by omega)) n_Mw_9_0 n_Mw3_9_0 n_Wrd_9_0 (by first | (intro _ k a b; exfalso; omega) | (intro q; exfalso; omega) | (intro q k a b c e; rw [a164] at c; rw [a165] at e; rw [a166]; rcases (by omega : k = p9_1 ∨ k < p9_1) with z | z <;> first | exact un_9_0 (by omega) k a z c e | (subst z; omega) | (subst_vars; omega)) | omega) (by omega)
  refine w_aload_n gz_168_0 rfl ?_
  refine w_iconst gz_168_1 (by decide) ?_
  refine v_putI (j := 0) gz_168_2 rfl is_151 rd_10 rfl (by omega) (by omega) rfl (fun h105 fh105 => ?_)
  have gh105 : my_fr [(10, 0), (10, 2), (10, 3), (10, 7), (10, 8), (10, 27), (10, 32), (10, 33), (52, -1), (53, -1), (54, -1), (63, -1), (64, -1), (65, -1), (66, -1), (67, -1), (68, -1), (69, -1), (70, -1), (71, -1), (72, -1), (73, -1), (74, -1), (75, -1), (76, -1), (77, -1), (78, -1), (79, -1)] h h105 := my_fr.up my_fr.rf is_151 fh105 rfl
  have Mw_h105 : Mw h105 := Mw_ag (my_ag.up fh105 is_151 rfl) n_Mw
  have Mw3_h105 : Mw3 h105 := Mw3_ag (my_ag.up fh105 is_151 rfl) n_Mw3
  have Wrd_h105 : Wrd h105 := Wrd_ag (my_ag.up fh105 is_151 rfl) n_Wrd
  refine w_iconst gz_168_5 (by decide) ?_
  refine w_istore_n (ls' := [(2, 151), (0, x1), (0, 0), (9, 0)]) gz_168_6 gm_168 rfl rfl rfl ?_
  refine w_iconst gz_168_7 (by decide) ?_
  refine w_istore_n (ls' := [(2, 151), (0, x1), (0, 0), (0, 0)]) gz_168_8 gm_168 rfl rfl rfl ?_
  have a164 : ∀ j : Int, h105 164 j = h 164 j := fun j => ((my_up_role fh105 is_164 is_151 rfl).trans (rfl : h 164 j = h 164 j))
  have a165 : ∀ j : Int, h105 165 j = h 165 j := fun j => ((my_up_role fh105 is_165 is_151 rfl).trans (rfl : h 165 j = h 165 j))
  have a166 : ∀ j : Int, h105 166 j = h 166 j := fun j => ((my_up_role fh105 is_166 is_151 rfl).trans (rfl : h 166 j = h 166 j))
  exact J9_0 7 (0) (0) h105 (gh105) (by omega) (by omega) (by omega) (by omega) (by omega) ((my_up_self fh105).trans (by omega)) Mw_h105 Mw3_h105 Wrd_h105 (by first | (intro _ k a b; exfalso; omega) | (intro q; exfalso; omega) | (intro q k a b c e; rw [a164] at c; rw [a165] at e; rw [a166]; rcases (by omega : k = p9_1 ∨ k < p9_1) with z | z <;> first | exact un_9_0 (by omega) k a z c e | (subst z; omega) | (subst_vars; omega)) | omega) (by omega)
theorem c_Model_seen {l : Launch} {rho : Nat → Int32} {d : Nat} {h : my_H} {Q : my_H → my_V → Prop} {x1 x2 x3 : Int} (n_Mw : Mw h) (n_Mw3 : Mw3 h) (n_Rws : Rws h) (k0 : ∀ (h' : my_H), my_fr [(10, 0), (10, 27), (10, 32), (10, 33), (10, 37), (73, -1), (74, -1), (75, -1), (76, -1), (77, -1), (78, -1), (79, -1), (80, -1), (81, -1), (82, -1), (83, -1), (84, -1), (85, -1), (86, -1)] h h' → h' 151 0 = 0 → Q h' (0, (-1))) (k1 : ∀ (h' : my_H) (y : Int), my_fr [(10, 0), (10, 27), (10, 32), (10, 33), (10, 37), (73, -1), (74, -1), (75, -1), (76, -1), (77, -1), (78, -1), (79, -1), (80, -1), (81, -1), (82, -1), (83, -1), (84, -1), (85, -1), (86, -1)] h h' → 0 ≤ y → 0 ≤ x1 → x1 ≤ 5 → 0 ≤ x2 → x2 ≤ 9 → 0 ≤ x3 → x3 ≤ 7 → h' 151 0 = 0 → 1 ≤ h' 151 27 → h' 151 27 ≤ 8 → 1 ≤ h' 151 37 → h' 151 37 ≤ 10 → Q h' (0, y)) : wp l rho (d + 4) 192 0 [(2, 151), (0, x1), (0, x2), (0, x3)] [] h Q := by
  refine w_aload_n gz_192_0 rfl ?_
  refine w_iconst gz_192_1 (by decide) ?_
  refine v_putI (j := 0) gz_192_2 rfl is_151 rd_10 rfl (by omega) (by omega) rfl (fun h1 fh1 => ?_)
  have gh1 : my_fr [(10, 0), (10, 27), (10, 32), (10, 33), (10, 37), (73, -1), (74, -1), (75, -1), (76, -1), (77, -1), (78, -1), (79, -1), (80, -1), (81, -1), (82, -1), (83, -1), (84, -1), (85, -1), (86, -1)] h h1 := my_fr.up my_fr.rf is_151 fh1 rfl
  have Mw_h1 : Mw h1 := Mw_ag (my_ag.up fh1 is_151 rfl) n_Mw
  have Mw3_h1 : Mw3 h1 := Mw3_ag (my_ag.up fh1 is_151 rfl) n_Mw3
  have Rws_h1 : Rws h1 := Rws_ag (my_ag.up fh1 is_151 rfl) n_Rws
  refine w_aload_n gz_192_5 rfl ?_
  refine w_iload_n gz_192_6 rfl ?_
  refine w_inv (k := 0) (as := [(0, x1)]) (r := []) (x := 151) (ls0 := [(2, 151), (0, x1)]) gz_192_7 gm_193 rfl is_151 rd_10 rfl rfl rfl rfl rfl ?_
  refine w_iload_n gz_193_0 rfl ?_
  refine w_iflt (t := 23) gz_193_1 rfl (fun u2 => ?_) (fun u2 => ?_)
  ·
    refine w_iconst gz_193_23 (by decide) ?_
    refine w_bret gz_193_24 gm_193 (by omega) (by omega) ?_
    show wp l rho (d + 4) 192 10 [(2, 151), (0, x1), (0, x2), (0, x3)] [(0, 0)] h1 Q
    refine w_ifne (t := 15) gz_192_10 rfl (fun u3 => by exfalso; omega) (fun u3 => ?_)
    refine w_iconst gz_192_13 (by decide) ?_
    have c4 := (my_up_self fh1)
    exact w_iret gz_192_14 gm_192 (k0 h1 (gh1) (by omega))
  ·
    refine w_iload_n gz_193_4 rfl ?_
    refine w_bipush gz_193_5 (by decide) ?_
    refine w_icge (t := 23) gz_193_7 rfl (fun u5 => ?_) (fun u5 => ?_)
    ·
      refine w_iconst gz_193_23 (by decide) ?_
      refine w_bret gz_193_24 gm_193 (by omega) (by omega) ?_
      show wp l rho (d + 4) 192 10 [(2, 151), (0, x1), (0, x2), (0, x3)] [(0, 0)] h1 Q
      refine w_ifne (t := 15) gz_192_10 rfl (fun u6 => by exfalso; omega) (fun u6 => ?_)
      refine w_iconst gz_192_13 (by decide) ?_
      have c7 := (my_up_self fh1)
      exact w_iret gz_192_14 gm_192 (k0 h1 (gh1) (by omega))
    ·
      refine w_aload_n gz_193_10 rfl ?_
      refine w_getX (v := 164) gz_193_11 is_151 rd_10 rfl (by decide) rfl ?_
      refine w_iload_n gz_193_14 rfl ?_
      refine w_bald gz_193_15 is_164 rd_63 (by omega) (by omega) (fun v9 ev9 pv9 qv9 => ?_)
      refine w_ifeq (t := 23) gz_193_16 rfl (fun u10 => ?_) (fun u10 => ?_)
      ·
        refine w_iconst gz_193_23 (by decide) ?_
        refine w_bret gz_193_24 gm_193 (by omega) (by omega) ?_
        show wp l rho (d + 4) 192 10 [(2, 151), (0, x1), (0, x2), (0, x3)] [(0, 0)] h1 Q
        refine w_ifne (t := 15) gz_192_10 rfl (fun u11 => by exfalso; omega) (fun u11 => ?_)
        refine w_iconst gz_192_13 (by decide) ?_
        have c12 := (my_up_self fh1)
        exact w_iret gz_192_14 gm_192 (k0 h1 (gh1) (by omega))
      ·
        refine w_iconst gz_193_19 (by decide) ?_
        refine w_goto (t := 24) gz_193_20 rfl ?_
        refine w_bret gz_193_24 gm_193 (by omega) (by omega) ?_
        show wp l rho (d + 4) 192 10 [(2, 151), (0, x1), (0, x2), (0, x3)] [(0, 1)] h1 Q
        refine w_ifne (t := 15) gz_192_10 rfl (fun u13 => ?_) (fun u13 => by exfalso; omega)
        refine w_aload_n gz_192_15 rfl ?_
        refine w_iconst gz_192_16 (by decide) ?_
        refine w_iload_n gz_192_17 rfl ?_
        have Fp_h1t14 : Fp h1 x1 := Fp_told (by omega) (by omega)
        refine w_inv (k := 5) (as := [(0, x1), (0, 0)]) (r := []) (x := 151) (ls0 := [(2, 151), (0, 0), (0, x1), (9, 0), (9, 0), (9, 0), (9, 0), (9, 0)]) gz_192_18 gm_194 rfl is_151 rd_10 rfl rfl rfl rfl rfl (c_Model_shows (d := d) (x1 := 0) (x2 := x1) (by omega) (by omega) (by omega) (by omega) Mw_h1 Mw3_h1 Rws_h1 (by first | assumption | exact Fp_h1t14 | exact Fp_told (by omega) (by omega) | omega | (subst_vars; omega) | omega) (fun h15 frh15 xp16 => ?_))
        have gh15 : my_fr [(10, 0), (10, 27), (10, 32), (10, 33), (10, 37), (73, -1), (74, -1), (75, -1), (76, -1), (77, -1), (78, -1), (79, -1), (80, -1), (81, -1), (82, -1), (83, -1), (84, -1), (85, -1), (86, -1)] h h15 := my_fr.tr gh1 (frh15.mo rfl)
        have Mw_h15 : Mw h15 := Mw_ag (my_ag.fr frh15 rfl) Mw_h1
        have Mw3_h15 : Mw3 h15 := Mw3_ag (my_ag.fr frh15 rfl) Mw3_h1
        have Rws_h15 : Rws h15 := Rws_ag (my_ag.fr frh15 rfl) Rws_h1
        have Fp_h15 : Fp h15 x1 := Fp_ag (my_ag.fr frh15 rfl) Fp_h1t14
        show wp l rho (d + 4) 192 21 [(2, 151), (0, x1), (0, x2), (0, x3)] [] h15 Q
        refine w_iload_n gz_192_21 rfl ?_
        refine w_iconst gz_192_22 (by decide) ?_
        refine w_aload_n gz_192_23 rfl ?_
        refine v_getI (j := 37) gz_192_24 rfl is_151 rd_10 rfl (fun v17 ev17 pv17 qv17 => ?_)
        refine w_iconst gz_192_27 (by decide) ?_
        refine w_isub gz_192_28 ⟨by omega, by omega⟩ ?_
        refine w_inS (k := 0) (as := [(0, (v17 - 1)), (0, 0), (0, x2)]) (r := []) (ls0 := [(0, x2), (0, 0), (0, (v17 - 1))]) gz_192_29 gm_147 rfl rfl rfl rfl rfl rfl ?_
        refine w_iload_n gz_147_0 rfl ?_
        refine w_iload_n gz_147_1 rfl ?_
        refine w_iclt (t := 14) gz_147_2 rfl (fun u18 => ?_) (fun u18 => ?_)
        ·
          refine w_iconst gz_147_14 (by decide) ?_
          refine w_bret gz_147_15 gm_147 (by omega) (by omega) ?_
          show wp l rho (d + 4) 192 32 [(2, 151), (0, x1), (0, x2), (0, x3)] [(0, 0)] h15 Q
          refine w_ifeq (t := 63) gz_192_32 rfl (fun u19 => ?_) (fun u19 => by exfalso; omega)
          refine w_iconst gz_192_63 (by decide) ?_
          have c20 := ((my_fr.at frh15 is_151 rfl).trans (my_up_self fh1))
          exact w_iret gz_192_64 gm_192 (k0 h15 (gh15) (by omega))
        ·
          refine w_iload_n gz_147_5 rfl ?_
          refine w_iload_n gz_147_6 rfl ?_
          refine w_icgt (t := 14) gz_147_7 rfl (fun u21 => ?_) (fun u21 => ?_)
          ·
            refine w_iconst gz_147_14 (by decide) ?_
            refine w_bret gz_147_15 gm_147 (by omega) (by omega) ?_
            show wp l rho (d + 4) 192 32 [(2, 151), (0, x1), (0, x2), (0, x3)] [(0, 0)] h15 Q
            refine w_ifeq (t := 63) gz_192_32 rfl (fun u22 => ?_) (fun u22 => by exfalso; omega)
            refine w_iconst gz_192_63 (by decide) ?_
            have c23 := ((my_fr.at frh15 is_151 rfl).trans (my_up_self fh1))
            exact w_iret gz_192_64 gm_192 (k0 h15 (gh15) (by omega))
          ·
            refine w_iconst gz_147_10 (by decide) ?_
            refine w_goto (t := 15) gz_147_11 rfl ?_
            refine w_bret gz_147_15 gm_147 (by omega) (by omega) ?_
            show wp l rho (d + 4) 192 32 [(2, 151), (0, x1), (0, x2), (0, x3)] [(0, 1)] h15 Q
            refine w_ifeq (t := 63) gz_192_32 rfl (fun u24 => by exfalso; omega) (fun u24 => ?_)
            refine w_iload_n gz_192_35 rfl ?_
            refine w_iconst gz_192_36 (by decide) ?_
            refine w_aload_n gz_192_37 rfl ?_
            refine v_getI (j := 27) gz_192_38 rfl is_151 rd_10 rfl (fun v25 ev25 pv25 qv25 => ?_)
            refine w_iconst gz_192_41 (by decide) ?_
            refine w_isub gz_192_42 ⟨by omega, by omega⟩ ?_
            refine w_inS (k := 0) (as := [(0, (v25 - 1)), (0, 0), (0, x3)]) (r := []) (ls0 := [(0, x3), (0, 0), (0, (v25 - 1))]) gz_192_43 gm_147 rfl rfl rfl rfl rfl rfl ?_
            refine w_iload_n gz_147_0 rfl ?_
            refine w_iload_n gz_147_1 rfl ?_
            refine w_iclt (t := 14) gz_147_2 rfl (fun u26 => ?_) (fun u26 => ?_)
            ·
              refine w_iconst gz_147_14 (by decide) ?_
              refine w_bret gz_147_15 gm_147 (by omega) (by omega) ?_
              show wp l rho (d + 4) 192 46 [(2, 151), (0, x1), (0, x2), (0, x3)] [(0, 0)] h15 Q
              refine w_ifeq (t := 63) gz_192_46 rfl (fun u27 => ?_) (fun u27 => by exfalso; omega)
              refine w_iconst gz_192_63 (by decide) ?_
              have c28 := ((my_fr.at frh15 is_151 rfl).trans (my_up_self fh1))
              exact w_iret gz_192_64 gm_192 (k0 h15 (gh15) (by omega))
            ·
              refine w_iload_n gz_147_5 rfl ?_
              refine w_iload_n gz_147_6 rfl ?_
              refine w_icgt (t := 14) gz_147_7 rfl (fun u29 => ?_) (fun u29 => ?_)
              ·
                refine w_iconst gz_147_14 (by decide) ?_
                refine w_bret gz_147_15 gm_147 (by omega) (by omega) ?_
                show wp l rho (d + 4) 192 46 [(2, 151), (0, x1), (0, x2), (0, x3)] [(0, 0)] h15 Q
                refine w_ifeq (t := 63) gz_192_46 rfl (fun u30 => ?_) (fun u30 => by exfalso; omega)
                refine w_iconst gz_192_63 (by decide) ?_
                have c31 := ((my_fr.at frh15 is_151 rfl).trans (my_up_self fh1))
                exact w_iret gz_192_64 gm_192 (k0 h15 (gh15) (by omega))
              ·
                refine w_iconst gz_147_10 (by decide) ?_
                refine w_goto (t := 15) gz_147_11 rfl ?_
                refine w_bret gz_147_15 gm_147 (by omega) (by omega) ?_
                show wp l rho (d + 4) 192 46 [(2, 151), (0, x1), (0, x2), (0, x3)] [(0, 1)] h15 Q
                refine w_ifeq (t := 63) gz_192_46 rfl (fun u32 => by exfalso; omega) (fun u32 => ?_)
                refine w_aload_n gz_192_49 rfl ?_
                refine w_getX (v := 182) gz_192_50 is_151 rd_10 rfl (by decide) rfl ?_
                refine w_bipush gz_192_53 (by decide) ?_
                refine w_iload_n gz_192_55 rfl ?_
                refine w_imul gz_192_56 ⟨by omega, by omega⟩ ?_
                refine w_iload_n gz_192_57 rfl ?_
                refine w_iadd gz_192_58 ⟨by omega, by omega⟩ ?_
                refine w_iald gz_192_59 is_182 rd_81 (by omega) (by omega) (fun v34 ev34 pv34 qv34 => ?_)
                refine w_goto (t := 64) gz_192_60 rfl ?_
                have c35 := ((my_fr.at frh15 is_151 rfl).trans (my_up_self fh1))
                have c36 := ev25.symm
                have c37 := ev17.symm
                exact w_iret gz_192_64 gm_192 (k1 h15 (v34) (gh15) (by omega) (by omega) (by omega) (by omega) (by omega) (by omega) (by omega) (by omega) (by omega) (by omega) (by omega) (by omega))
theorem c_Model_findWays {l : Launch} {rho : Nat → Int32} {d : Nat} {h : my_H} {Q : my_H → my_V → Prop} {x1 x2 x3 x4 x5 x6 : Int} (a1 : 0 ≤ x1) (b1 : x1 ≤ 15) (a2 : 0 ≤ x2) (b2 : x2 ≤ 5) (a3 : 0 ≤ x3) (b3 : x3 ≤ 2) (n_Mw : Mw h) (n_Mw3 : Mw3 h) (n_Rws : Rws h) (n_Fp : Fp h x2) (hv : x3 = 0 → 0 ≤ x6) (s8 : x1 ≠ 8) (k0 : ∀ (h' : my_H), my_fr [(10, 27), (10, 32), (10, 33), (10, 37), (10, 46), (10, 48), (61, -1), (62, -1), (73, -1), (74, -1), (75, -1), (76, -1), (77, -1), (78, -1), (79, -1), (80, -1), (81, -1), (82, -1), (83, -1), (84, -1), (85, -1), (86, -1), (88, -1), (89, -1), (90, -1), (91, -1), (92, -1), (93, -1), (94, -1)] h h' → Rws h' → Wys h' → Q h' (9, 0)) : wp l rho (d + 6) 209 0 [(2, 151), (0, x1), (0, x2), (0, x3), (0, x4), (0, x5), (0, x6), (9, 0), (9, 0), (9, 0), (9, 0)] [] h Q := by
  refine v_knowA (x := 162) is_162 rd_61 (fun kT => ?_)
  have J136_0 : ∀ (n : Nat) (p136_0 p136_1 : Int) (h136_0 : my_H), my_fr [(10, 27), (10, 32), (10, 33), (10, 37), (10, 46), (10, 48), (61, -1), (62, -1), (73, -1), (74, -1), (75, -1), (76, -1), (77, -1), (78, -1), (79, -1), (80, -1), (81, -1), (82, -1), (83, -1), (84, -1), (85, -1), (86, -1), (88, -1), (89, -1), (90, -1), (91, -1), (92, -1), (93, -1), (94, -1)] h h136_0 → 0 ≤ p136_1 → p136_1 ≤ 60 → Mw h136_0 → Mw3 h136_0 → Rws h136_0 → Fp h136_0 x2 → (∀ j : Int, 60 * x1 ≤ j → j < 60 * x1 + 60 → h136_0 162 j = h 162 j) → (∀ j : Int, 0 ≤ j → j < 60 → h136_0 162 (480 + j) = h 162 (60 * x1 + j)) → h136_0 151 48 ≤ 1711 + rc h (60 * x1) p136_1.toNat → Wys h136_0 → 61 - p136_1 ≤ (n : Int) → wp l rho (d + 6) 209 136 [(2, 151), (0, x1), (0, x2), (0, x3), (0, x4), (0, x5), (0, x6), (0, p136_0), (0, p136_1), (9, 0), (9, 0)] [] h136_0 Q := by
    intro n
    induction n with
    | zero => intro p136_0 p136_1 h136_0 gh_136_0 q0_136_0 q1_136_0 n_Mw_136_0 n_Mw3_136_0 n_Rws_136_0 n_Fp_136_0 ts_136_0 tp8_136_0 wb_136_0 wy_136_0 hm_136_0; exfalso; omega
    | succ n ih_136_0 =>
      intro p136_0 p136_1 h136_0 gh_136_0 q0_136_0 q1_136_0 n_Mw_136_0 n_Mw3_136_0 n_Rws_136_0 n_Fp_136_0 ts_136_0 tp8_136_0 wb_136_0 wy_136_0 hm_136_0
      have Wys_h136_0t1 : Wys h136_0 := wy_136_0
      refine w_iload gz_209_136 rfl ?_
      refine w_bipush gz_209_138 (by decide) ?_
      refine w_icge (t := 238) gz_209_140 rfl (fun u2 => ?_) (fun u2 => ?_)
      ·
        have r3 := rc_60 (s := x1) kT n_Rws (by omega) (by omega) p136_1 (by omega) (by omega)
        refine w_aload_n gz_209_238 rfl ?_
        refine w_bipush gz_209_239 (by decide) ?_
        refine w_iload_n gz_209_241 rfl ?_
        refine w_inv (k := 0) (as := [(0, x2), (0, 8)]) (r := []) (x := 151) (ls0 := [(2, 151), (0, 8), (0, x2)]) gz_209_242 gm_216 rfl is_151 rd_10 rfl rfl rfl rfl rfl (c_Model_comes (d := (d + 2)) (x1 := 8) (x2 := x2) (by omega) (by omega) (by omega) (by omega) n_Mw_136_0 n_Rws_136_0 (by first | assumption | exact n_Fp_136_0 | exact Fp_told (by omega) (by omega) | omega | (subst_vars; omega) | omega) (fun h3 frh3 Rws_h3t4 => ?_) (fun h5 frh5 Rws_h5t6 => ?_))
        ·
          have gh3 : my_fr [(10, 27), (10, 32), (10, 33), (10, 37), (10, 46), (10, 48), (61, -1), (62, -1), (73, -1), (74, -1), (75, -1), (76, -1), (77, -1), (78, -1), (79, -1), (80, -1), (81, -1), (82, -1), (83, -1), (84, -1), (85, -1), (86, -1), (88, -1), (89, -1), (90, -1), (91, -1), (92, -1), (93, -1), (94, -1)] h h3 := my_fr.tr gh_136_0 (frh3.mo rfl)
          have Mw_h3 : Mw h3 := Mw_ag (my_ag.fr frh3 rfl) n_Mw_136_0
          have Mw3_h3 : Mw3 h3 := Mw3_ag (my_ag.fr frh3 rfl) n_Mw3_136_0
          have Fp_h3 : Fp h3 x2 := Fp_ag (my_ag.fr frh3 rfl) n_Fp_136_0
          have Wys_h3 : Wys h3 := Wys_ag (my_ag.fr frh3 rfl) Wys_h136_0t1
          show wp l rho (d + 6) 209 245 [(2, 151), (0, x1), (0, x2), (0, x3), (0, x4), (0, x5), (0, x6), (0, p136_0), (0, p136_1), (9, 0), (9, 0)] [(0, 0)] h3 Q
          refine w_ifeq (t := 284) gz_209_245 rfl (fun u7 => ?_) (fun u7 => by exfalso; omega)
          exact w_vret gz_209_284 gm_209 (k0 h3 (gh3) Rws_h3t4 Wys_h3)
        ·
          have gh5 : my_fr [(10, 27), (10, 32), (10, 33), (10, 37), (10, 46), (10, 48), (61, -1), (62, -1), (73, -1), (74, -1), (75, -1), (76, -1), (77, -1), (78, -1), (79, -1), (80, -1), (81, -1), (82, -1), (83, -1), (84, -1), (85, -1), (86, -1), (88, -1), (89, -1), (90, -1), (91, -1), (92, -1), (93, -1), (94, -1)] h h5 := my_fr.tr gh_136_0 (frh5.mo rfl)
          have Mw_h5 : Mw h5 := Mw_ag (my_ag.fr frh5 rfl) n_Mw_136_0
          have Mw3_h5 : Mw3 h5 := Mw3_ag (my_ag.fr frh5 rfl) n_Mw3_136_0
          have Fp_h5 : Fp h5 x2 := Fp_ag (my_ag.fr frh5 rfl) n_Fp_136_0
          have Wys_h5 : Wys h5 := Wys_ag (my_ag.fr frh5 rfl) Wys_h136_0t1
          show wp l rho (d + 6) 209 245 [(2, 151), (0, x1), (0, x2), (0, x3), (0, x4), (0, x5), (0, x6), (0, p136_0), (0, p136_1), (9, 0), (9, 0)] [(0, 1)] h5 Q
          refine w_ifeq (t := 284) gz_209_245 rfl (fun u8 => by exfalso; omega) (fun u8 => ?_)
          refine w_aload_n gz_209_248 rfl ?_
          refine w_bipush gz_209_249 (by decide) ?_
          refine w_inv (k := 2) (as := [(0, 8)]) (r := []) (x := 151) (ls0 := [(2, 151), (0, 8), (9, 0), (9, 0)]) gz_209_251 gm_155 rfl is_151 rd_10 rfl rfl rfl rfl rfl (c_Model_isLawful (d := (d + 2)) (x1 := 8) (by omega) (by omega) ?_ ?_)
          ·
            show wp l rho (d + 6) 209 254 [(2, 151), (0, x1), (0, x2), (0, x3), (0, x4), (0, x5), (0, x6), (0, p136_0), (0, p136_1), (9, 0), (9, 0)] [(0, 0)] h5 Q
            refine w_ifeq (t := 284) gz_209_254 rfl (fun u9 => ?_) (fun u9 => by exfalso; omega)
            exact w_vret gz_209_284 gm_209 (k0 h5 (gh5) Rws_h5t6 Wys_h5)
          ·
            show wp l rho (d + 6) 209 254 [(2, 151), (0, x1), (0, x2), (0, x3), (0, x4), (0, x5), (0, x6), (0, p136_0), (0, p136_1), (9, 0), (9, 0)] [(0, 1)] h5 Q
            refine w_ifeq (t := 284) gz_209_254 rfl (fun u10 => by exfalso; omega) (fun u10 => ?_)
            refine w_aload_n gz_209_257 rfl ?_
            refine w_bipush gz_209_258 (by decide) ?_
            refine w_iload_n gz_209_260 rfl ?_
            refine w_inv (k := 3) (as := [(0, x2), (0, 8)]) (r := []) (x := 151) (ls0 := [(2, 151), (0, 8), (0, x2), (9, 0), (9, 0), (9, 0)]) gz_209_261 gm_213 rfl is_151 rd_10 rfl rfl rfl rfl rfl (c_Model_isWanted (d := (d + 1)) (x1 := 8) (x2 := x2) (by omega) (by omega) (by omega) (by omega) Mw_h5 Mw3_h5 Rws_h5t6 Fp_h5 (fun h11 v12 frh11 w13 w14 => ?_))
            have gh11 : my_fr [(10, 27), (10, 32), (10, 33), (10, 37), (10, 46), (10, 48), (61, -1), (62, -1), (73, -1), (74, -1), (75, -1), (76, -1), (77, -1), (78, -1), (79, -1), (80, -1), (81, -1), (82, -1), (83, -1), (84, -1), (85, -1), (86, -1), (88, -1), (89, -1), (90, -1), (91, -1), (92, -1), (93, -1), (94, -1)] h h11 := my_fr.tr gh5 (frh11.mo rfl)
            have Mw_h11 : Mw h11 := Mw_ag (my_ag.fr frh11 rfl) Mw_h5
            have Mw3_h11 : Mw3 h11 := Mw3_ag (my_ag.fr frh11 rfl) Mw3_h5
            have Fp_h11 : Fp h11 x2 := Fp_ag (my_ag.fr frh11 rfl) Fp_h5
            have Wys_h11 : Wys h11 := Wys_ag (my_ag.fr frh11 rfl) Wys_h5
            have Rws_h11 : Rws h11 := Rws_ag (my_ag.fr frh11 rfl) Rws_h5t6
            show wp l rho (d + 6) 209 264 [(2, 151), (0, x1), (0, x2), (0, x3), (0, x4), (0, x5), (0, x6), (0, p136_0), (0, p136_1), (9, 0), (9, 0)] [(0, v12)] h11 Q
            refine w_ifeq (t := 284) gz_209_264 rfl (fun u15 => ?_) (fun u15 => ?_)
            ·
              exact w_vret gz_209_284 gm_209 (k0 h11 (gh11) Rws_h11 Wys_h11)
            ·
              refine w_aload_n gz_209_267 rfl ?_
              refine w_iconst gz_209_268 (by decide) ?_
              refine w_aload_n gz_209_269 rfl ?_
              refine v_getI (j := 33) gz_209_270 rfl is_151 rd_10 rfl (fun v16 ev16 pv16 qv16 => ?_)
              refine w_aload_n gz_209_273 rfl ?_
              refine w_getX (v := 195) gz_209_274 is_151 rd_10 rfl (by decide) rfl ?_
              refine w_iconst gz_209_277 (by decide) ?_
              refine w_iald gz_209_278 is_195 rd_94 (by omega) (by omega) (fun v18 ev18 pv18 qv18 => ?_)
              refine w_iconst gz_209_279 (by decide) ?_
              refine w_iconst gz_209_280 (by decide) ?_
              have ce19 : h11 151 48 = h136_0 151 48 := ((my_fr.at frh11 is_151 rfl).trans ((my_fr.at frh5 is_151 rfl).trans (rfl : h136_0 151 48 = h136_0 151 48)))
              refine w_inv (k := 0) (as := [(0, (-1)), (0, (-1)), (0, v18), (0, v16), (0, 3)]) (r := []) (x := 151) (ls0 := [(2, 151), (0, 3), (0, v16), (0, v18), (0, (-1)), (0, (-1))]) gz_209_281 gm_214 rfl is_151 rd_10 rfl rfl rfl rfl rfl (c_Model_finds (d := (d + 5)) (x1 := 3) (x2 := v16) (x3 := v18) (x4 := (-1)) (x5 := (-1)) (by omega) (by omega) (by omega) (by omega) (by omega) (by omega) (by omega) (by omega) (by omega) (by omega) Wys_h11 (by first | assumption | exact Fp_h11 | exact Fp_told (by omega) (by omega) | omega | (subst_vars; omega) | omega) (by first | assumption | exact Fp_h11 | exact Fp_told (by omega) (by omega) | omega | (subst_vars; omega) | omega) (by first | assumption | exact Fp_h11 | exact Fp_told (by omega) (by omega) | omega | (subst_vars; omega) | omega) (fun h20 frh20 w21 w22 xp23 Wys_h20t24 => ?_))
              have gh20 : my_fr [(10, 27), (10, 32), (10, 33), (10, 37), (10, 46), (10, 48), (61, -1), (62, -1), (73, -1), (74, -1), (75, -1), (76, -1), (77, -1), (78, -1), (79, -1), (80, -1), (81, -1), (82, -1), (83, -1), (84, -1), (85, -1), (86, -1), (88, -1), (89, -1), (90, -1), (91, -1), (92, -1), (93, -1), (94, -1)] h h20 := my_fr.tr gh11 (frh20.mo rfl)
              have Mw_h20 : Mw h20 := Mw_ag (my_ag.fr frh20 rfl) Mw_h11
              have Mw3_h20 : Mw3 h20 := Mw3_ag (my_ag.fr frh20 rfl) Mw3_h11
              have Fp_h20 : Fp h20 x2 := Fp_ag (my_ag.fr frh20 rfl) Fp_h11
              have Rws_h20 : Rws h20 := Rws_ag (my_ag.fr frh20 rfl) Rws_h11
              show wp l rho (d + 6) 209 284 [(2, 151), (0, x1), (0, x2), (0, x3), (0, x4), (0, x5), (0, x6), (0, p136_0), (0, p136_1), (9, 0), (9, 0)] [] h20 Q
              exact w_vret gz_209_284 gm_209 (k0 h20 (gh20) Rws_h20 Wys_h20t24)
      ·
        refine w_iload gz_209_143 rfl ?_
        refine w_iload gz_209_145 rfl ?_
        refine w_bipush gz_209_147 (by decide) ?_
        refine w_idiv gz_209_149 (by omega) (by decide) ?_
        refine w_ishrX gz_209_150 (fun v25 ev25 pv25 qv25 => ?_)
        refine w_iconst gz_209_151 (by decide) ?_
        refine w_iandXM gz_209_152 (by decide) (fun v26 ev26 pv26 qv26 => ?_)
        refine w_iconst gz_209_153 (by decide) ?_
        refine w_icne (t := 232) gz_209_154 rfl (fun u27 => ?_) (fun u27 => ?_)
        ·
          have r1 := rc_60s (h := h) (s := x1) (k := p136_1) (by omega)
          have r4 := kT (60 * x1 + p136_1) (by omega) (by omega)
          refine w_iinc (ls' := [(2, 151), (0, x1), (0, x2), (0, x3), (0, x4), (0, x5), (0, x6), (0, p136_0), (0, (p136_1 + 1)), (9, 0), (9, 0)]) gz_209_232 rfl gm_209 rfl rfl rfl ⟨by omega, by omega⟩ ?_
          refine w_goto (t := 136) gz_209_235 rfl ?_
          have a162 : ∀ j : Int, h136_0 162 j = h136_0 162 j := fun _ => rfl
          exact ih_136_0 (p136_0) ((p136_1 + 1)) h136_0 (gh_136_0) (by omega) (by omega) n_Mw_136_0 n_Mw3_136_0 n_Rws_136_0 n_Fp_136_0 (by first | (intro j a b; rw [a162]; first | exact ts_74_0 j a b | exact ts_57_0 j a b | exact ts_136_0 j a b) | (intro j a b; rw [Row_back f183 b162 f231 (by omega) (by have z := tp8_136_0 p136_1 (by omega) (by omega); omega)]; exact ts_136_0 j a b) | (intro j a b; exact (cp8.2 j (by omega)).trans (c162 j)) | omega) (by first | (intro j a b; rw [a162]; first | exact tp8_74_0 j a b | exact tp8_57_0 j a b | exact tp8_136_0 j a b) | (intro j a b; rw [Row_back f183 b162 f231 (by omega) (by have z := tp8_136_0 p136_1 (by omega) (by omega); omega)]; exact tp8_136_0 j a b) | (intro j a b; rw [show (480 : Int) + j = 60 * 8 + j by omega, cp8.1 j a b]; exact c162 _) | omega) (by first | omega | (show _ ≤ 1 + 57 * (0 : Int); omega) | (rw [r1]; omega) | (show _ ≤ 1711 + (0 : Int); omega) | omega) (Wys_h136_0t1) (by omega)
        ·
          refine w_aload_n gz_209_157 rfl ?_
          refine w_getX (v := 162) gz_209_158 is_151 rd_10 rfl (by decide) rfl ?_
          refine w_bipush gz_209_161 (by decide) ?_
          refine w_iload_n gz_209_163 rfl ?_
          refine w_imul gz_209_164 ⟨by omega, by omega⟩ ?_
          refine w_iload gz_209_165 rfl ?_
          refine w_iadd gz_209_167 ⟨by omega, by omega⟩ ?_
          refine w_bald gz_209_168 is_162 rd_61 (by omega) (by omega) (fun v29 ev29 pv29 qv29 => ?_)
          have rt := ts_136_0 (60 * x1 + p136_1) (by omega) (by omega)
          refine w_ifeq (t := 232) gz_209_169 rfl (fun u30 => ?_) (fun u30 => ?_)
          ·
            have r1 := rc_60s (h := h) (s := x1) (k := p136_1) (by omega)
            have r4 := kT (60 * x1 + p136_1) (by omega) (by omega)
            refine w_iinc (ls' := [(2, 151), (0, x1), (0, x2), (0, x3), (0, x4), (0, x5), (0, x6), (0, p136_0), (0, (p136_1 + 1)), (9, 0), (9, 0)]) gz_209_232 rfl gm_209 rfl rfl rfl ⟨by omega, by omega⟩ ?_
            refine w_goto (t := 136) gz_209_235 rfl ?_
            have a162 : ∀ j : Int, h136_0 162 j = h136_0 162 j := fun _ => rfl
            exact ih_136_0 (p136_0) ((p136_1 + 1)) h136_0 (gh_136_0) (by omega) (by omega) n_Mw_136_0 n_Mw3_136_0 n_Rws_136_0 n_Fp_136_0 (by first | (intro j a b; rw [a162]; first | exact ts_74_0 j a b | exact ts_57_0 j a b | exact ts_136_0 j a b) | (intro j a b; rw [Row_back f183 b162 f231 (by omega) (by have z := tp8_136_0 p136_1 (by omega) (by omega); omega)]; exact ts_136_0 j a b) | (intro j a b; exact (cp8.2 j (by omega)).trans (c162 j)) | omega) (by first | (intro j a b; rw [a162]; first | exact tp8_74_0 j a b | exact tp8_57_0 j a b | exact tp8_136_0 j a b) | (intro j a b; rw [Row_back f183 b162 f231 (by omega) (by have z := tp8_136_0 p136_1 (by omega) (by omega); omega)]; exact tp8_136_0 j a b) | (intro j a b; rw [show (480 : Int) + j = 60 * 8 + j by omega, cp8.1 j a b]; exact c162 _) | omega) (by first | omega | (show _ ≤ 1 + 57 * (0 : Int); omega) | (rw [r1]; omega) | (show _ ≤ 1711 + (0 : Int); omega) | omega) (Wys_h136_0t1) (by omega)
          ·
            refine w_aload_n gz_209_172 rfl ?_
            refine w_getX (v := 162) gz_209_173 is_151 rd_10 rfl (by decide) rfl ?_
            refine w_sipush gz_209_176 (by decide) ?_
            refine w_iload gz_209_179 rfl ?_
            refine w_iadd gz_209_181 ⟨by omega, by omega⟩ ?_
            refine w_iconst gz_209_182 (by decide) ?_
            refine w_bast gz_209_183 is_162 rd_61 (by omega) (by omega) (by omega) (by omega) (fun h32 fh32 => ?_)
            have gh32 : my_fr [(10, 27), (10, 32), (10, 33), (10, 37), (10, 46), (10, 48), (61, -1), (62, -1), (73, -1), (74, -1), (75, -1), (76, -1), (77, -1), (78, -1), (79, -1), (80, -1), (81, -1), (82, -1), (83, -1), (84, -1), (85, -1), (86, -1), (88, -1), (89, -1), (90, -1), (91, -1), (92, -1), (93, -1), (94, -1)] h h32 := my_fr.up gh_136_0 is_162 fh32 rfl
            have Mw_h32 : Mw h32 := Mw_ag (my_ag.up fh32 is_162 rfl) n_Mw_136_0
            have Mw3_h32 : Mw3 h32 := Mw3_ag (my_ag.up fh32 is_162 rfl) n_Mw3_136_0
            have Fp_h32 : Fp h32 x2 := Fp_ag (my_ag.up fh32 is_162 rfl) n_Fp_136_0
            have Wys_h32 : Wys h32 := Wys_ag (my_ag.up fh32 is_162 rfl) Wys_h136_0t1
            have f183 := fh32
            have Rws_h32t33 : Rws h32 := Rws_off fh32 (by have z := tp8_136_0 p136_1 (by omega) (by omega); have z2 := (kT (60 * x1 + p136_1) (by omega) (by omega)).1; omega) n_Rws_136_0
            refine w_aload_n gz_209_184 rfl ?_
            refine w_bipush gz_209_185 (by decide) ?_
            refine w_inv (k := 2) (as := [(0, 8)]) (r := []) (x := 151) (ls0 := [(2, 151), (0, 8), (9, 0), (9, 0)]) gz_209_187 gm_155 rfl is_151 rd_10 rfl rfl rfl rfl rfl (c_Model_isLawful (d := (d + 2)) (x1 := 8) (by omega) (by omega) ?_ ?_)
            ·
              show wp l rho (d + 6) 209 190 [(2, 151), (0, x1), (0, x2), (0, x3), (0, x4), (0, x5), (0, x6), (0, p136_0), (0, p136_1), (9, 0), (9, 0)] [(0, 0)] h32 Q
              refine w_ifeq (t := 220) gz_209_190 rfl (fun u34 => ?_) (fun u34 => by exfalso; omega)
              refine w_aload_n gz_209_220 rfl ?_
              refine w_getX (v := 162) gz_209_221 is_151 rd_10 rfl (by decide) rfl ?_
              refine w_sipush gz_209_224 (by decide) ?_
              refine w_iload gz_209_227 rfl ?_
              refine w_iadd gz_209_229 ⟨by omega, by omega⟩ ?_
              refine w_iconst gz_209_230 (by decide) ?_
              have b162 : ∀ j : Int, h32 162 j = h32 162 j := fun j => rfl
              refine w_bast gz_209_231 is_162 rd_61 (by omega) (by omega) (by omega) (by omega) (fun h36 fh36 => ?_)
              have gh36 : my_fr [(10, 27), (10, 32), (10, 33), (10, 37), (10, 46), (10, 48), (61, -1), (62, -1), (73, -1), (74, -1), (75, -1), (76, -1), (77, -1), (78, -1), (79, -1), (80, -1), (81, -1), (82, -1), (83, -1), (84, -1), (85, -1), (86, -1), (88, -1), (89, -1), (90, -1), (91, -1), (92, -1), (93, -1), (94, -1)] h h36 := my_fr.up gh32 is_162 fh36 rfl
              have Mw_h36 : Mw h36 := Mw_ag (my_ag.up fh36 is_162 rfl) Mw_h32
              have Mw3_h36 : Mw3 h36 := Mw3_ag (my_ag.up fh36 is_162 rfl) Mw3_h32
              have Fp_h36 : Fp h36 x2 := Fp_ag (my_ag.up fh36 is_162 rfl) Fp_h32
              have Wys_h36 : Wys h36 := Wys_ag (my_ag.up fh36 is_162 rfl) Wys_h32
              have Rws_h36t37 : Rws h36 := Rws_eq (Row_back f183 b162 fh36 (by omega) (by have z := tp8_136_0 p136_1 (by omega) (by omega); have z2 := ts_136_0 (60 * x1 + p136_1) (by omega) (by omega); omega)) n_Rws_136_0
              have f231 := fh36
              have r1 := rc_60s (h := h) (s := x1) (k := p136_1) (by omega)
              have r4 := kT (60 * x1 + p136_1) (by omega) (by omega)
              refine w_iinc (ls' := [(2, 151), (0, x1), (0, x2), (0, x3), (0, x4), (0, x5), (0, x6), (0, p136_0), (0, (p136_1 + 1)), (9, 0), (9, 0)]) gz_209_232 rfl gm_209 rfl rfl rfl ⟨by omega, by omega⟩ ?_
              refine w_goto (t := 136) gz_209_235 rfl ?_
              have ce38 : h36 151 48 = h136_0 151 48 := ((my_up_role fh36 is_151 is_162 rfl).trans ((my_up_role fh32 is_151 is_162 rfl).trans (rfl : h136_0 151 48 = h136_0 151 48)))
              have a162 : ∀ j : Int, h36 162 j = h36 162 j := fun j => rfl
              exact ih_136_0 (p136_0) ((p136_1 + 1)) h36 (gh36) (by omega) (by omega) Mw_h36 Mw3_h36 Rws_h36t37 Fp_h36 (by first | (intro j a b; rw [a162]; first | exact ts_74_0 j a b | exact ts_57_0 j a b | exact ts_136_0 j a b) | (intro j a b; rw [Row_back f183 b162 f231 (by omega) (by have z := tp8_136_0 p136_1 (by omega) (by omega); omega)]; exact ts_136_0 j a b) | (intro j a b; exact (cp8.2 j (by omega)).trans (c162 j)) | omega) (by first | (intro j a b; rw [a162]; first | exact tp8_74_0 j a b | exact tp8_57_0 j a b | exact tp8_136_0 j a b) | (intro j a b; rw [Row_back f183 b162 f231 (by omega) (by have z := tp8_136_0 p136_1 (by omega) (by omega); omega)]; exact tp8_136_0 j a b) | (intro j a b; rw [show (480 : Int) + j = 60 * 8 + j by omega, cp8.1 j a b]; exact c162 _) | omega) (by first | omega | (show _ ≤ 1 + 57 * (0 : Int); omega) | (rw [r1]; omega) | (show _ ≤ 1711 + (0 : Int); omega) | omega) (Wys_h36) (by omega)
            ·
              show wp l rho (d + 6) 209 190 [(2, 151), (0, x1), (0, x2), (0, x3), (0, x4), (0, x5), (0, x6), (0, p136_0), (0, p136_1), (9, 0), (9, 0)] [(0, 1)] h32 Q
              refine w_ifeq (t := 220) gz_209_190 rfl (fun u39 => by exfalso; omega) (fun u39 => ?_)
              refine w_aload_n gz_209_193 rfl ?_
              refine w_bipush gz_209_194 (by decide) ?_
              refine w_iload_n gz_209_196 rfl ?_
              refine w_inv (k := 3) (as := [(0, x2), (0, 8)]) (r := []) (x := 151) (ls0 := [(2, 151), (0, 8), (0, x2), (9, 0), (9, 0), (9, 0)]) gz_209_197 gm_213 rfl is_151 rd_10 rfl rfl rfl rfl rfl (c_Model_isWanted (d := (d + 1)) (x1 := 8) (x2 := x2) (by omega) (by omega) (by omega) (by omega) Mw_h32 Mw3_h32 Rws_h32t33 Fp_h32 (fun h40 v41 frh40 w42 w43 => ?_))
              have gh40 : my_fr [(10, 27), (10, 32), (10, 33), (10, 37), (10, 46), (10, 48), (61, -1), (62, -1), (73, -1), (74, -1), (75, -1), (76, -1), (77, -1), (78, -1), (79, -1), (80, -1), (81, -1), (82, -1), (83, -1), (84, -1), (85, -1), (86, -1), (88, -1), (89, -1), (90, -1), (91, -1), (92, -1), (93, -1), (94, -1)] h h40 := my_fr.tr gh32 (frh40.mo rfl)
              have Mw_h40 : Mw h40 := Mw_ag (my_ag.fr frh40 rfl) Mw_h32
              have Mw3_h40 : Mw3 h40 := Mw3_ag (my_ag.fr frh40 rfl) Mw3_h32
              have Fp_h40 : Fp h40 x2 := Fp_ag (my_ag.fr frh40 rfl) Fp_h32
              have Wys_h40 : Wys h40 := Wys_ag (my_ag.fr frh40 rfl) Wys_h32
              have Rws_h40 : Rws h40 := Rws_ag (my_ag.fr frh40 rfl) Rws_h32t33
              show wp l rho (d + 6) 209 200 [(2, 151), (0, x1), (0, x2), (0, x3), (0, x4), (0, x5), (0, x6), (0, p136_0), (0, p136_1), (9, 0), (9, 0)] [(0, v41)] h40 Q
              refine w_ifeq (t := 220) gz_209_200 rfl (fun u44 => ?_) (fun u44 => ?_)
              ·
                refine w_aload_n gz_209_220 rfl ?_
                refine w_getX (v := 162) gz_209_221 is_151 rd_10 rfl (by decide) rfl ?_
                refine w_sipush gz_209_224 (by decide) ?_
                refine w_iload gz_209_227 rfl ?_
                refine w_iadd gz_209_229 ⟨by omega, by omega⟩ ?_
                refine w_iconst gz_209_230 (by decide) ?_
                have b162 : ∀ j : Int, h40 162 j = h32 162 j := fun j => ((my_fr.at frh40 is_162 rfl).trans (rfl : h32 162 j = h32 162 j))
                refine w_bast gz_209_231 is_162 rd_61 (by omega) (by omega) (by omega) (by omega) (fun h46 fh46 => ?_)
                have gh46 : my_fr [(10, 27), (10, 32), (10, 33), (10, 37), (10, 46), (10, 48), (61, -1), (62, -1), (73, -1), (74, -1), (75, -1), (76, -1), (77, -1), (78, -1), (79, -1), (80, -1), (81, -1), (82, -1), (83, -1), (84, -1), (85, -1), (86, -1), (88, -1), (89, -1), (90, -1), (91, -1), (92, -1), (93, -1), (94, -1)] h h46 := my_fr.up gh40 is_162 fh46 rfl
                have Mw_h46 : Mw h46 := Mw_ag (my_ag.up fh46 is_162 rfl) Mw_h40
                have Mw3_h46 : Mw3 h46 := Mw3_ag (my_ag.up fh46 is_162 rfl) Mw3_h40
                have Fp_h46 : Fp h46 x2 := Fp_ag (my_ag.up fh46 is_162 rfl) Fp_h40
                have Wys_h46 : Wys h46 := Wys_ag (my_ag.up fh46 is_162 rfl) Wys_h40
                have Rws_h46t47 : Rws h46 := Rws_eq (Row_back f183 b162 fh46 (by omega) (by have z := tp8_136_0 p136_1 (by omega) (by omega); have z2 := ts_136_0 (60 * x1 + p136_1) (by omega) (by omega); omega)) n_Rws_136_0
                have f231 := fh46
                have r1 := rc_60s (h := h) (s := x1) (k := p136_1) (by omega)
                have r4 := kT (60 * x1 + p136_1) (by omega) (by omega)
                refine w_iinc (ls' := [(2, 151), (0, x1), (0, x2), (0, x3), (0, x4), (0, x5), (0, x6), (0, p136_0), (0, (p136_1 + 1)), (9, 0), (9, 0)]) gz_209_232 rfl gm_209 rfl rfl rfl ⟨by omega, by omega⟩ ?_
                refine w_goto (t := 136) gz_209_235 rfl ?_
                have ce48 : h46 151 48 = h136_0 151 48 := ((my_up_role fh46 is_151 is_162 rfl).trans ((my_fr.at frh40 is_151 rfl).trans ((my_up_role fh32 is_151 is_162 rfl).trans (rfl : h136_0 151 48 = h136_0 151 48))))
                have a162 : ∀ j : Int, h46 162 j = h46 162 j := fun j => rfl
                exact ih_136_0 (p136_0) ((p136_1 + 1)) h46 (gh46) (by omega) (by omega) Mw_h46 Mw3_h46 Rws_h46t47 Fp_h46 (by first | (intro j a b; rw [a162]; first | exact ts_74_0 j a b | exact ts_57_0 j a b | exact ts_136_0 j a b) | (intro j a b; rw [Row_back f183 b162 f231 (by omega) (by have z := tp8_136_0 p136_1 (by omega) (by omega); omega)]; exact ts_136_0 j a b) | (intro j a b; exact (cp8.2 j (by omega)).trans (c162 j)) | omega) (by first | (intro j a b; rw [a162]; first | exact tp8_74_0 j a b | exact tp8_57_0 j a b | exact tp8_136_0 j a b) | (intro j a b; rw [Row_back f183 b162 f231 (by omega) (by have z := tp8_136_0 p136_1 (by omega) (by omega); omega)]; exact tp8_136_0 j a b) | (intro j a b; rw [show (480 : Int) + j = 60 * 8 + j by omega, cp8.1 j a b]; exact c162 _) | omega) (by first | omega | (show _ ≤ 1 + 57 * (0 : Int); omega) | (rw [r1]; omega) | (show _ ≤ 1711 + (0 : Int); omega) | omega) (Wys_h46) (by omega)
              ·
                have r3 := rc_60 (s := x1) kT n_Rws (by omega) (by omega) p136_1 (by omega) (by omega)
                refine w_aload_n gz_209_203 rfl ?_
                refine w_iconst gz_209_204 (by decide) ?_
                refine w_iload gz_209_205 rfl ?_
                refine w_bipush gz_209_207 (by decide) ?_
                refine w_idiv gz_209_209 (by omega) (by decide) ?_
                refine w_iload gz_209_210 rfl ?_
                refine w_bipush gz_209_212 (by decide) ?_
                refine w_irem gz_209_214 (by omega) (by decide) ?_
                refine w_iconst gz_209_215 (by decide) ?_
                refine w_iconst gz_209_216 (by decide) ?_
                have ce49 : h40 151 48 = h136_0 151 48 := ((my_fr.at frh40 is_151 rfl).trans ((my_up_role fh32 is_151 is_162 rfl).trans (rfl : h136_0 151 48 = h136_0 151 48)))
                refine w_inv (k := 0) (as := [(0, (-1)), (0, (-1)), (0, (p136_1 % 20)), (0, (p136_1 / 20)), (0, 2)]) (r := []) (x := 151) (ls0 := [(2, 151), (0, 2), (0, (p136_1 / 20)), (0, (p136_1 % 20)), (0, (-1)), (0, (-1))]) gz_209_217 gm_214 rfl is_151 rd_10 rfl rfl rfl rfl rfl (c_Model_finds (d := (d + 5)) (x1 := 2) (x2 := (p136_1 / 20)) (x3 := (p136_1 % 20)) (x4 := (-1)) (x5 := (-1)) (by omega) (by omega) (by omega) (by omega) (by omega) (by omega) (by omega) (by omega) (by omega) (by omega) Wys_h40 (by first | assumption | exact Fp_h40 | exact Fp_told (by omega) (by omega) | omega | (subst_vars; omega) | omega) (by first | assumption | exact Fp_h40 | exact Fp_told (by omega) (by omega) | omega | (subst_vars; omega) | omega) (by first | assumption | exact Fp_h40 | exact Fp_told (by omega) (by omega) | omega | (subst_vars; omega) | omega) (fun h50 frh50 w51 w52 xp53 Wys_h50t54 => ?_))
                have gh50 : my_fr [(10, 27), (10, 32), (10, 33), (10, 37), (10, 46), (10, 48), (61, -1), (62, -1), (73, -1), (74, -1), (75, -1), (76, -1), (77, -1), (78, -1), (79, -1), (80, -1), (81, -1), (82, -1), (83, -1), (84, -1), (85, -1), (86, -1), (88, -1), (89, -1), (90, -1), (91, -1), (92, -1), (93, -1), (94, -1)] h h50 := my_fr.tr gh40 (frh50.mo rfl)
                have Mw_h50 : Mw h50 := Mw_ag (my_ag.fr frh50 rfl) Mw_h40
                have Mw3_h50 : Mw3 h50 := Mw3_ag (my_ag.fr frh50 rfl) Mw3_h40
                have Fp_h50 : Fp h50 x2 := Fp_ag (my_ag.fr frh50 rfl) Fp_h40
                have Rws_h50 : Rws h50 := Rws_ag (my_ag.fr frh50 rfl) Rws_h40
                show wp l rho (d + 6) 209 220 [(2, 151), (0, x1), (0, x2), (0, x3), (0, x4), (0, x5), (0, x6), (0, p136_0), (0, p136_1), (9, 0), (9, 0)] [] h50 Q
                refine w_aload_n gz_209_220 rfl ?_
                refine w_getX (v := 162) gz_209_221 is_151 rd_10 rfl (by decide) rfl ?_
                refine w_sipush gz_209_224 (by decide) ?_
                refine w_iload gz_209_227 rfl ?_
                refine w_iadd gz_209_229 ⟨by omega, by omega⟩ ?_
                refine w_iconst gz_209_230 (by decide) ?_
                have b162 : ∀ j : Int, h50 162 j = h32 162 j := fun j => ((my_fr.at frh50 is_162 rfl).trans ((my_fr.at frh40 is_162 rfl).trans (rfl : h32 162 j = h32 162 j)))
                refine w_bast gz_209_231 is_162 rd_61 (by omega) (by omega) (by omega) (by omega) (fun h56 fh56 => ?_)
                have gh56 : my_fr [(10, 27), (10, 32), (10, 33), (10, 37), (10, 46), (10, 48), (61, -1), (62, -1), (73, -1), (74, -1), (75, -1), (76, -1), (77, -1), (78, -1), (79, -1), (80, -1), (81, -1), (82, -1), (83, -1), (84, -1), (85, -1), (86, -1), (88, -1), (89, -1), (90, -1), (91, -1), (92, -1), (93, -1), (94, -1)] h h56 := my_fr.up gh50 is_162 fh56 rfl
                have Mw_h56 : Mw h56 := Mw_ag (my_ag.up fh56 is_162 rfl) Mw_h50
                have Mw3_h56 : Mw3 h56 := Mw3_ag (my_ag.up fh56 is_162 rfl) Mw3_h50
                have Fp_h56 : Fp h56 x2 := Fp_ag (my_ag.up fh56 is_162 rfl) Fp_h50
                have Wys_h56 : Wys h56 := Wys_ag (my_ag.up fh56 is_162 rfl) Wys_h50t54
                have Rws_h56t57 : Rws h56 := Rws_eq (Row_back f183 b162 fh56 (by omega) (by have z := tp8_136_0 p136_1 (by omega) (by omega); have z2 := ts_136_0 (60 * x1 + p136_1) (by omega) (by omega); omega)) n_Rws_136_0
                have f231 := fh56
                have r1 := rc_60s (h := h) (s := x1) (k := p136_1) (by omega)
                have r4 := kT (60 * x1 + p136_1) (by omega) (by omega)
                refine w_iinc (ls' := [(2, 151), (0, x1), (0, x2), (0, x3), (0, x4), (0, x5), (0, x6), (0, p136_0), (0, (p136_1 + 1)), (9, 0), (9, 0)]) gz_209_232 rfl gm_209 rfl rfl rfl ⟨by omega, by omega⟩ ?_
                refine w_goto (t := 136) gz_209_235 rfl ?_
                have ce58 : h56 151 48 = (h50 151 48) := ((my_up_role fh56 is_151 is_162 rfl).trans (rfl : h50 151 48 = h50 151 48))
                have a162 : ∀ j : Int, h56 162 j = h56 162 j := fun j => rfl
                exact ih_136_0 (p136_0) ((p136_1 + 1)) h56 (gh56) (by omega) (by omega) Mw_h56 Mw3_h56 Rws_h56t57 Fp_h56 (by first | (intro j a b; rw [a162]; first | exact ts_74_0 j a b | exact ts_57_0 j a b | exact ts_136_0 j a b) | (intro j a b; rw [Row_back f183 b162 f231 (by omega) (by have z := tp8_136_0 p136_1 (by omega) (by omega); omega)]; exact ts_136_0 j a b) | (intro j a b; exact (cp8.2 j (by omega)).trans (c162 j)) | omega) (by first | (intro j a b; rw [a162]; first | exact tp8_74_0 j a b | exact tp8_57_0 j a b | exact tp8_136_0 j a b) | (intro j a b; rw [Row_back f183 b162 f231 (by omega) (by have z := tp8_136_0 p136_1 (by omega) (by omega); omega)]; exact tp8_136_0 j a b) | (intro j a b; rw [show (480 : Int) + j = 60 * 8 + j by omega, cp8.1 j a b]; exact c162 _) | omega) (by first | omega | (show _ ≤ 1 + 57 * (0 : Int); omega) | (rw [r1]; omega) | (show _ ≤ 1711 + (0 : Int); omega) | omega) (Wys_h56) (by omega)
  have J57_0 : ∀ (n : Nat) (p57_0 p57_1 : Int) (h57_0 : my_H), my_fr [(10, 27), (10, 32), (10, 33), (10, 37), (10, 46), (10, 48), (61, -1), (62, -1), (73, -1), (74, -1), (75, -1), (76, -1), (77, -1), (78, -1), (79, -1), (80, -1), (81, -1), (82, -1), (83, -1), (84, -1), (85, -1), (86, -1), (88, -1), (89, -1), (90, -1), (91, -1), (92, -1), (93, -1), (94, -1)] h h57_0 → 0 ≤ p57_1 → p57_1 ≤ 60 → Mw h57_0 → Mw3 h57_0 → Rws h57_0 → Fp h57_0 x2 → (∀ j : Int, 60 * x1 ≤ j → j < 60 * x1 + 60 → h57_0 162 j = h 162 j) → (∀ j : Int, 0 ≤ j → j < 60 → h57_0 162 (480 + j) = h 162 (60 * x1 + j)) → h57_0 151 48 ≤ 1 + 57 * rc h (60 * x1) p57_1.toNat → Wys h57_0 → 61 - p57_1 ≤ (n : Int) → wp l rho (d + 6) 209 57 [(2, 151), (0, x1), (0, x2), (0, x3), (0, x4), (0, x5), (0, x6), (0, p57_0), (0, p57_1), (9, 0), (9, 0)] [] h57_0 Q := by
    intro n
    induction n with
    | zero => intro p57_0 p57_1 h57_0 gh_57_0 q0_57_0 q1_57_0 n_Mw_57_0 n_Mw3_57_0 n_Rws_57_0 n_Fp_57_0 ts_57_0 tp8_57_0 wb_57_0 wy_57_0 hm_57_0; exfalso; omega
    | succ n ih_57_0 =>
      intro p57_0 p57_1 h57_0 gh_57_0 q0_57_0 q1_57_0 n_Mw_57_0 n_Mw3_57_0 n_Rws_57_0 n_Fp_57_0 ts_57_0 tp8_57_0 wb_57_0 wy_57_0 hm_57_0
      have Wys_h57_0t59 : Wys h57_0 := wy_57_0
      have J74_0 : ∀ (n : Nat) (p74_0 p74_1 : Int) (h74_0 : my_H), my_fr [(10, 27), (10, 32), (10, 33), (10, 37), (10, 46), (10, 48), (61, -1), (62, -1), (73, -1), (74, -1), (75, -1), (76, -1), (77, -1), (78, -1), (79, -1), (80, -1), (81, -1), (82, -1), (83, -1), (84, -1), (85, -1), (86, -1), (88, -1), (89, -1), (90, -1), (91, -1), (92, -1), (93, -1), (94, -1)] h h74_0 → p57_1 ≤ 59 → 0 ≤ p74_0 → p74_0 ≤ 2 → 1 ≤ p74_1 → p74_1 ≤ 4 → Mw h74_0 → Mw3 h74_0 → Rws h74_0 → Fp h74_0 x2 → (∀ j : Int, 60 * x1 ≤ j → j < 60 * x1 + 60 → h74_0 162 j = h 162 j) → (∀ j : Int, 0 ≤ j → j < 60 → h74_0 162 (480 + j) = h 162 (60 * x1 + j)) → h74_0 151 48 ≤ 1 + 57 * rc h (60 * x1) p57_1.toNat + 19 * (p74_1 - 1) → p74_1 = 1 ∨ h 162 (60 * x1 + p57_1) = 1 → Wys h74_0 → 5 - p74_1 ≤ (n : Int) → wp l rho (d + 6) 209 74 [(2, 151), (0, x1), (0, x2), (0, x3), (0, x4), (0, x5), (0, x6), (0, p57_0), (0, p57_1), (0, p74_0), (0, p74_1)] [] h74_0 Q := by
        intro n
        induction n with
        | zero => intro p74_0 p74_1 h74_0 gh_74_0 q0_74_0 q1_74_0 q2_74_0 q3_74_0 q4_74_0 n_Mw_74_0 n_Mw3_74_0 n_Rws_74_0 n_Fp_74_0 ts_74_0 tp8_74_0 wb_74_0 wo_74_0 wy_74_0 hm_74_0; exfalso; omega
        | succ n ih_74_0 =>
          intro p74_0 p74_1 h74_0 gh_74_0 q0_74_0 q1_74_0 q2_74_0 q3_74_0 q4_74_0 n_Mw_74_0 n_Mw3_74_0 n_Rws_74_0 n_Fp_74_0 ts_74_0 tp8_74_0 wb_74_0 wo_74_0 wy_74_0 hm_74_0
          have Wys_h74_0t60 : Wys h74_0 := wy_74_0
          refine w_iload gz_209_74 rfl ?_
          refine w_aload_n gz_209_76 rfl ?_
          refine w_getX (v := 157) gz_209_77 is_151 rd_10 rfl (by decide) rfl ?_
          refine w_iload gz_209_80 rfl ?_
          refine w_iald gz_209_82 is_157 rd_56 (by omega) (by omega) (fun v62 ev62 pv62 qv62 => ?_)
          refine w_icge (t := 127) gz_209_83 rfl (fun u63 => ?_) (fun u63 => ?_)
          ·
            have r1 := rc_60s (h := h) (s := x1) (k := p57_1) (by omega)
            have r4 := kT (60 * x1 + p57_1) (by omega) (by omega)
            refine w_iinc (ls' := [(2, 151), (0, x1), (0, x2), (0, x3), (0, x4), (0, x5), (0, x6), (0, p57_0), (0, (p57_1 + 1)), (0, p74_0), (0, p74_1)]) gz_209_127 rfl gm_209 rfl rfl rfl ⟨by omega, by omega⟩ ?_
            refine w_goto (t := 57) gz_209_130 rfl ?_
            have a162 : ∀ j : Int, h74_0 162 j = h74_0 162 j := fun _ => rfl
            refine w_weak (ls' := [(2, 151), (0, x1), (0, x2), (0, x3), (0, x4), (0, x5), (0, x6), (0, p57_0), (0, (p57_1 + 1)), (9, 0), (9, 0)]) (wk_e (wk_e (wk_e (wk_e (wk_e (wk_e (wk_e (wk_e (wk_e (wk_9 (wk_9 wk_n))))))))))) ?_
            exact ih_57_0 (p57_0) ((p57_1 + 1)) h74_0 (gh_74_0) (by omega) (by omega) n_Mw_74_0 n_Mw3_74_0 n_Rws_74_0 n_Fp_74_0 (by first | (intro j a b; rw [a162]; first | exact ts_74_0 j a b | exact ts_57_0 j a b | exact ts_136_0 j a b) | (intro j a b; rw [Row_back f183 b162 f231 (by omega) (by have z := tp8_136_0 p57_1 (by omega) (by omega); omega)]; exact ts_136_0 j a b) | (intro j a b; exact (cp8.2 j (by omega)).trans (c162 j)) | omega) (by first | (intro j a b; rw [a162]; first | exact tp8_74_0 j a b | exact tp8_57_0 j a b | exact tp8_136_0 j a b) | (intro j a b; rw [Row_back f183 b162 f231 (by omega) (by have z := tp8_136_0 p57_1 (by omega) (by omega); omega)]; exact tp8_136_0 j a b) | (intro j a b; rw [show (480 : Int) + j = 60 * 8 + j by omega, cp8.1 j a b]; exact c162 _) | omega) (by first | omega | (show _ ≤ 1 + 57 * (0 : Int); omega) | (rw [r1]; omega) | (show _ ≤ 1711 + (0 : Int); omega) | omega) (Wys_h74_0t60) (by omega)
          ·
            refine w_iload gz_209_86 rfl ?_
            refine w_iload gz_209_88 rfl ?_
            refine w_ishrX gz_209_90 (fun v64 ev64 pv64 qv64 => ?_)
            refine w_iconst gz_209_91 (by decide) ?_
            refine w_iandXM gz_209_92 (by decide) (fun v65 ev65 pv65 qv65 => ?_)
            refine w_iconst gz_209_93 (by decide) ?_
            refine w_icne (t := 127) gz_209_94 rfl (fun u66 => ?_) (fun u66 => ?_)
            ·
              have r1 := rc_60s (h := h) (s := x1) (k := p57_1) (by omega)
              have r4 := kT (60 * x1 + p57_1) (by omega) (by omega)
              refine w_iinc (ls' := [(2, 151), (0, x1), (0, x2), (0, x3), (0, x4), (0, x5), (0, x6), (0, p57_0), (0, (p57_1 + 1)), (0, p74_0), (0, p74_1)]) gz_209_127 rfl gm_209 rfl rfl rfl ⟨by omega, by omega⟩ ?_
              refine w_goto (t := 57) gz_209_130 rfl ?_
              have a162 : ∀ j : Int, h74_0 162 j = h74_0 162 j := fun _ => rfl
              refine w_weak (ls' := [(2, 151), (0, x1), (0, x2), (0, x3), (0, x4), (0, x5), (0, x6), (0, p57_0), (0, (p57_1 + 1)), (9, 0), (9, 0)]) (wk_e (wk_e (wk_e (wk_e (wk_e (wk_e (wk_e (wk_e (wk_e (wk_9 (wk_9 wk_n))))))))))) ?_
              exact ih_57_0 (p57_0) ((p57_1 + 1)) h74_0 (gh_74_0) (by omega) (by omega) n_Mw_74_0 n_Mw3_74_0 n_Rws_74_0 n_Fp_74_0 (by first | (intro j a b; rw [a162]; first | exact ts_74_0 j a b | exact ts_57_0 j a b | exact ts_136_0 j a b) | (intro j a b; rw [Row_back f183 b162 f231 (by omega) (by have z := tp8_136_0 p57_1 (by omega) (by omega); omega)]; exact ts_136_0 j a b) | (intro j a b; exact (cp8.2 j (by omega)).trans (c162 j)) | omega) (by first | (intro j a b; rw [a162]; first | exact tp8_74_0 j a b | exact tp8_57_0 j a b | exact tp8_136_0 j a b) | (intro j a b; rw [Row_back f183 b162 f231 (by omega) (by have z := tp8_136_0 p57_1 (by omega) (by omega); omega)]; exact tp8_136_0 j a b) | (intro j a b; rw [show (480 : Int) + j = 60 * 8 + j by omega, cp8.1 j a b]; exact c162 _) | omega) (by first | omega | (show _ ≤ 1 + 57 * (0 : Int); omega) | (rw [r1]; omega) | (show _ ≤ 1711 + (0 : Int); omega) | omega) (Wys_h74_0t60) (by omega)
            ·
              refine w_aload_n gz_209_97 rfl ?_
              refine w_getX (v := 162) gz_209_98 is_151 rd_10 rfl (by decide) rfl ?_
              refine w_bipush gz_209_101 (by decide) ?_
              refine w_iload_n gz_209_103 rfl ?_
              refine w_imul gz_209_104 ⟨by omega, by omega⟩ ?_
              refine w_iload gz_209_105 rfl ?_
              refine w_iadd gz_209_107 ⟨by omega, by omega⟩ ?_
              refine w_bald gz_209_108 is_162 rd_61 (by omega) (by omega) (fun v68 ev68 pv68 qv68 => ?_)
              have rt := ts_74_0 (60 * x1 + p57_1) (by omega) (by omega)
              refine w_ifeq (t := 127) gz_209_109 rfl (fun u69 => ?_) (fun u69 => ?_)
              ·
                have r1 := rc_60s (h := h) (s := x1) (k := p57_1) (by omega)
                have r4 := kT (60 * x1 + p57_1) (by omega) (by omega)
                refine w_iinc (ls' := [(2, 151), (0, x1), (0, x2), (0, x3), (0, x4), (0, x5), (0, x6), (0, p57_0), (0, (p57_1 + 1)), (0, p74_0), (0, p74_1)]) gz_209_127 rfl gm_209 rfl rfl rfl ⟨by omega, by omega⟩ ?_
                refine w_goto (t := 57) gz_209_130 rfl ?_
                have a162 : ∀ j : Int, h74_0 162 j = h74_0 162 j := fun _ => rfl
                refine w_weak (ls' := [(2, 151), (0, x1), (0, x2), (0, x3), (0, x4), (0, x5), (0, x6), (0, p57_0), (0, (p57_1 + 1)), (9, 0), (9, 0)]) (wk_e (wk_e (wk_e (wk_e (wk_e (wk_e (wk_e (wk_e (wk_e (wk_9 (wk_9 wk_n))))))))))) ?_
                exact ih_57_0 (p57_0) ((p57_1 + 1)) h74_0 (gh_74_0) (by omega) (by omega) n_Mw_74_0 n_Mw3_74_0 n_Rws_74_0 n_Fp_74_0 (by first | (intro j a b; rw [a162]; first | exact ts_74_0 j a b | exact ts_57_0 j a b | exact ts_136_0 j a b) | (intro j a b; rw [Row_back f183 b162 f231 (by omega) (by have z := tp8_136_0 p57_1 (by omega) (by omega); omega)]; exact ts_136_0 j a b) | (intro j a b; exact (cp8.2 j (by omega)).trans (c162 j)) | omega) (by first | (intro j a b; rw [a162]; first | exact tp8_74_0 j a b | exact tp8_57_0 j a b | exact tp8_136_0 j a b) | (intro j a b; rw [Row_back f183 b162 f231 (by omega) (by have z := tp8_136_0 p57_1 (by omega) (by omega); omega)]; exact tp8_136_0 j a b) | (intro j a b; rw [show (480 : Int) + j = 60 * 8 + j by omega, cp8.1 j a b]; exact c162 _) | omega) (by first | omega | (show _ ≤ 1 + 57 * (0 : Int); omega) | (rw [r1]; omega) | (show _ ≤ 1711 + (0 : Int); omega) | omega) (Wys_h74_0t60) (by omega)
              ·
                have r1 := rc_60s (h := h) (s := x1) (k := p57_1) (by omega)
                have r2 := rc_60 (s := x1) kT n_Rws (by omega) (by omega) (p57_1 + 1) (by omega) (by omega)
                have r3 := rc_60 (s := x1) kT n_Rws (by omega) (by omega) p57_1 (by omega) (by omega)
                refine w_aload_n gz_209_112 rfl ?_
                refine w_iload_n gz_209_113 rfl ?_
                refine w_iload gz_209_114 rfl ?_
                refine w_iload gz_209_116 rfl ?_
                refine w_inv (k := 3) (as := [(0, p74_1), (0, p57_1), (0, x2)]) (r := []) (x := 151) (ls0 := [(2, 151), (0, x2), (0, p57_1), (0, p74_1), (9, 0), (9, 0), (9, 0)]) gz_209_118 gm_215 rfl is_151 rd_10 rfl rfl rfl rfl rfl (c_Model_findValues (d := d) (x1 := x2) (x2 := p57_1) (x3 := p74_1) (by omega) (by omega) (by omega) (by omega) (by omega) (by omega) n_Mw_74_0 n_Mw3_74_0 n_Rws_74_0 n_Fp_74_0 Wys_h74_0t60 (by first | assumption | exact n_Fp_74_0 | exact Fp_told (by omega) (by omega) | omega | (subst_vars; omega) | omega) (fun h70 frh70 xp71 Wys_h70t72 => ?_))
                have gh70 : my_fr [(10, 27), (10, 32), (10, 33), (10, 37), (10, 46), (10, 48), (61, -1), (62, -1), (73, -1), (74, -1), (75, -1), (76, -1), (77, -1), (78, -1), (79, -1), (80, -1), (81, -1), (82, -1), (83, -1), (84, -1), (85, -1), (86, -1), (88, -1), (89, -1), (90, -1), (91, -1), (92, -1), (93, -1), (94, -1)] h h70 := my_fr.tr gh_74_0 (frh70.mo rfl)
                have Mw_h70 : Mw h70 := Mw_ag (my_ag.fr frh70 rfl) n_Mw_74_0
                have Mw3_h70 : Mw3 h70 := Mw3_ag (my_ag.fr frh70 rfl) n_Mw3_74_0
                have Rws_h70 : Rws h70 := Rws_ag (my_ag.fr frh70 rfl) n_Rws_74_0
                have Fp_h70 : Fp h70 x2 := Fp_ag (my_ag.fr frh70 rfl) n_Fp_74_0
                show wp l rho (d + 6) 209 121 [(2, 151), (0, x1), (0, x2), (0, x3), (0, x4), (0, x5), (0, x6), (0, p57_0), (0, p57_1), (0, p74_0), (0, p74_1)] [] h70 Q
                refine w_iinc (ls' := [(2, 151), (0, x1), (0, x2), (0, x3), (0, x4), (0, x5), (0, x6), (0, p57_0), (0, p57_1), (0, p74_0), (0, (p74_1 + 1))]) gz_209_121 rfl gm_209 rfl rfl rfl ⟨by omega, by omega⟩ ?_
                refine w_goto (t := 74) gz_209_124 rfl ?_
                have a162 : ∀ j : Int, h70 162 j = h74_0 162 j := fun j => ((my_fr.at frh70 is_162 rfl).trans (rfl : h74_0 162 j = h74_0 162 j))
                exact ih_74_0 (p74_0) ((p74_1 + 1)) h70 (gh70) (by omega) (by omega) (by omega) (by omega) (by omega) Mw_h70 Mw3_h70 Rws_h70 Fp_h70 (by first | (intro j a b; rw [a162]; first | exact ts_74_0 j a b | exact ts_57_0 j a b | exact ts_136_0 j a b) | (intro j a b; rw [Row_back f183 b162 f231 (by omega) (by have z := tp8_136_0 0 (by omega) (by omega); omega)]; exact ts_136_0 j a b) | (intro j a b; exact (cp8.2 j (by omega)).trans (c162 j)) | omega) (by first | (intro j a b; rw [a162]; first | exact tp8_74_0 j a b | exact tp8_57_0 j a b | exact tp8_136_0 j a b) | (intro j a b; rw [Row_back f183 b162 f231 (by omega) (by have z := tp8_136_0 0 (by omega) (by omega); omega)]; exact tp8_136_0 j a b) | (intro j a b; rw [show (480 : Int) + j = 60 * 8 + j by omega, cp8.1 j a b]; exact c162 _) | omega) (by first | omega | (show _ ≤ 1 + 57 * (0 : Int); omega) | (rw [r1]; omega) | (show _ ≤ 1711 + (0 : Int); omega) | omega) (by first | omega | (right; omega) | omega) (Wys_h70t72) (by omega)
      refine w_iload gz_209_57 rfl ?_
      refine w_bipush gz_209_59 (by decide) ?_
      refine w_icge (t := 133) gz_209_61 rfl (fun u73 => ?_) (fun u73 => ?_)
      ·
        have r3 := rc_60 (s := x1) kT n_Rws (by omega) (by omega) p57_1 (by omega) (by omega)
        refine w_iconst gz_209_133 (by decide) ?_
        refine w_istore (ls' := [(2, 151), (0, x1), (0, x2), (0, x3), (0, x4), (0, x5), (0, x6), (0, p57_0), (0, 0), (9, 0), (9, 0)]) gz_209_134 gm_209 rfl rfl rfl ?_
        have a162 : ∀ j : Int, h57_0 162 j = h57_0 162 j := fun _ => rfl
        exact J136_0 61 (p57_0) (0) h57_0 (gh_57_0) (by omega) (by omega) n_Mw_57_0 n_Mw3_57_0 n_Rws_57_0 n_Fp_57_0 (by first | (intro j a b; rw [a162]; first | exact ts_74_0 j a b | exact ts_57_0 j a b | exact ts_136_0 j a b) | (intro j a b; rw [Row_back f183 b162 f231 (by omega) (by have z := tp8_136_0 p136_1 (by omega) (by omega); omega)]; exact ts_136_0 j a b) | (intro j a b; exact (cp8.2 j (by omega)).trans (c162 j)) | omega) (by first | (intro j a b; rw [a162]; first | exact tp8_74_0 j a b | exact tp8_57_0 j a b | exact tp8_136_0 j a b) | (intro j a b; rw [Row_back f183 b162 f231 (by omega) (by have z := tp8_136_0 p136_1 (by omega) (by omega); omega)]; exact tp8_136_0 j a b) | (intro j a b; rw [show (480 : Int) + j = 60 * 8 + j by omega, cp8.1 j a b]; exact c162 _) | omega) (by first | omega | (show _ ≤ 1 + 57 * (0 : Int); omega) | (rw [r1]; omega) | (show _ ≤ 1711 + (0 : Int); omega) | omega) (Wys_h57_0t59) (by omega)
      ·
        refine w_iload gz_209_64 rfl ?_
        refine w_bipush gz_209_66 (by decide) ?_
        refine w_idiv gz_209_68 (by omega) (by decide) ?_
        refine w_istore (ls' := [(2, 151), (0, x1), (0, x2), (0, x3), (0, x4), (0, x5), (0, x6), (0, p57_0), (0, p57_1), (0, (p57_1 / 20)), (9, 0)]) gz_209_69 gm_209 rfl rfl rfl ?_
        refine w_iconst gz_209_71 (by decide) ?_
        refine w_istore (ls' := [(2, 151), (0, x1), (0, x2), (0, x3), (0, x4), (0, x5), (0, x6), (0, p57_0), (0, p57_1), (0, (p57_1 / 20)), (0, 1)]) gz_209_72 gm_209 rfl rfl rfl ?_
        have a162 : ∀ j : Int, h57_0 162 j = h57_0 162 j := fun _ => rfl
        exact J74_0 4 ((p57_1 / 20)) (1) h57_0 (gh_57_0) (by omega) (by omega) (by omega) (by omega) (by omega) n_Mw_57_0 n_Mw3_57_0 n_Rws_57_0 n_Fp_57_0 (by first | (intro j a b; rw [a162]; first | exact ts_74_0 j a b | exact ts_57_0 j a b | exact ts_136_0 j a b) | (intro j a b; rw [Row_back f183 b162 f231 (by omega) (by have z := tp8_136_0 0 (by omega) (by omega); omega)]; exact ts_136_0 j a b) | (intro j a b; exact (cp8.2 j (by omega)).trans (c162 j)) | omega) (by first | (intro j a b; rw [a162]; first | exact tp8_74_0 j a b | exact tp8_57_0 j a b | exact tp8_136_0 j a b) | (intro j a b; rw [Row_back f183 b162 f231 (by omega) (by have z := tp8_136_0 0 (by omega) (by omega); omega)]; exact tp8_136_0 j a b) | (intro j a b; rw [show (480 : Int) + j = 60 * 8 + j by omega, cp8.1 j a b]; exact c162 _) | omega) (by first | omega | (show _ ≤ 1 + 57 * (0 : Int); omega) | (rw [r1]; omega) | (show _ ≤ 1711 + (0 : Int); omega) | omega) (by first | omega | (right; omega) | omega) (Wys_h57_0t59) (by omega)
  refine w_aload_n gz_209_0 rfl ?_
  refine w_iload_n gz_209_1 rfl ?_
  refine w_iload_n gz_209_2 rfl ?_
  refine w_inv (k := 5) (as := [(0, x2), (0, x1)]) (r := []) (x := 151) (ls0 := [(2, 151), (0, x1), (0, x2), (9, 0), (9, 0), (9, 0), (9, 0), (9, 0)]) gz_209_3 gm_194 rfl is_151 rd_10 rfl rfl rfl rfl rfl (c_Model_shows (d := (d + 2)) (x1 := x1) (x2 := x2) (by omega) (by omega) (by omega) (by omega) n_Mw n_Mw3 n_Rws (by first | assumption | exact n_Fp | exact Fp_told (by omega) (by omega) | omega | (subst_vars; omega) | omega) (fun h74 frh74 xp75 => ?_))
  have gh74 : my_fr [(10, 27), (10, 32), (10, 33), (10, 37), (10, 46), (10, 48), (61, -1), (62, -1), (73, -1), (74, -1), (75, -1), (76, -1), (77, -1), (78, -1), (79, -1), (80, -1), (81, -1), (82, -1), (83, -1), (84, -1), (85, -1), (86, -1), (88, -1), (89, -1), (90, -1), (91, -1), (92, -1), (93, -1), (94, -1)] h h74 := my_fr.tr my_fr.rf (frh74.mo rfl)
  have Mw_h74 : Mw h74 := Mw_ag (my_ag.fr frh74 rfl) n_Mw
  have Mw3_h74 : Mw3 h74 := Mw3_ag (my_ag.fr frh74 rfl) n_Mw3
  have Rws_h74 : Rws h74 := Rws_ag (my_ag.fr frh74 rfl) n_Rws
  have Fp_h74 : Fp h74 x2 := Fp_ag (my_ag.fr frh74 rfl) n_Fp
  show wp l rho (d + 6) 209 6 [(2, 151), (0, x1), (0, x2), (0, x3), (0, x4), (0, x5), (0, x6), (9, 0), (9, 0), (9, 0), (9, 0)] [] h74 Q
  refine w_aload_n gz_209_6 rfl ?_
  refine w_iload_n gz_209_7 rfl ?_
  refine w_iload gz_209_8 rfl ?_
  refine w_iload gz_209_10 rfl ?_
  refine w_iload gz_209_12 rfl ?_
  refine w_inv (k := 2) (as := [(0, x6), (0, x5), (0, x4), (0, x3)]) (r := []) (x := 151) (ls0 := [(2, 151), (0, x3), (0, x4), (0, x5), (0, x6), (9, 0), (9, 0)]) gz_209_14 gm_210 rfl is_151 rd_10 rfl rfl rfl rfl rfl (c_Model_findWanted (d := (d + 4)) (x1 := x3) (x2 := x4) (x3 := x5) (x4 := x6) (by omega) (by omega) (by first | assumption | exact Fp_h74 | exact Fp_told (by omega) (by omega) | omega | (subst_vars; omega) | omega) (fun h76 frh76 => ?_))
  have gh76 : my_fr [(10, 27), (10, 32), (10, 33), (10, 37), (10, 46), (10, 48), (61, -1), (62, -1), (73, -1), (74, -1), (75, -1), (76, -1), (77, -1), (78, -1), (79, -1), (80, -1), (81, -1), (82, -1), (83, -1), (84, -1), (85, -1), (86, -1), (88, -1), (89, -1), (90, -1), (91, -1), (92, -1), (93, -1), (94, -1)] h h76 := my_fr.tr gh74 (frh76.mo rfl)
  have Mw_h76 : Mw h76 := Mw_ag (my_ag.fr frh76 rfl) Mw_h74
  have Mw3_h76 : Mw3 h76 := Mw3_ag (my_ag.fr frh76 rfl) Mw3_h74
  have Rws_h76 : Rws h76 := Rws_ag (my_ag.fr frh76 rfl) Rws_h74
  have Fp_h76 : Fp h76 x2 := Fp_ag (my_ag.fr frh76 rfl) Fp_h74
  show wp l rho (d + 6) 209 17 [(2, 151), (0, x1), (0, x2), (0, x3), (0, x4), (0, x5), (0, x6), (9, 0), (9, 0), (9, 0), (9, 0)] [] h76 Q
  refine w_aload_n gz_209_17 rfl ?_
  refine w_iconst gz_209_18 (by decide) ?_
  refine v_putI (j := 48) gz_209_19 rfl is_151 rd_10 rfl (by omega) (by omega) rfl (fun h77 fh77 => ?_)
  have gh77 : my_fr [(10, 27), (10, 32), (10, 33), (10, 37), (10, 46), (10, 48), (61, -1), (62, -1), (73, -1), (74, -1), (75, -1), (76, -1), (77, -1), (78, -1), (79, -1), (80, -1), (81, -1), (82, -1), (83, -1), (84, -1), (85, -1), (86, -1), (88, -1), (89, -1), (90, -1), (91, -1), (92, -1), (93, -1), (94, -1)] h h77 := my_fr.up gh76 is_151 fh77 rfl
  have Mw_h77 : Mw h77 := Mw_ag (my_ag.up fh77 is_151 rfl) Mw_h76
  have Mw3_h77 : Mw3 h77 := Mw3_ag (my_ag.up fh77 is_151 rfl) Mw3_h76
  have Rws_h77 : Rws h77 := Rws_ag (my_ag.up fh77 is_151 rfl) Rws_h76
  have Fp_h77 : Fp h77 x2 := Fp_ag (my_ag.up fh77 is_151 rfl) Fp_h76
  have Wys_h77t78 : Wys h77 := Wys_0 fh77
  have k19 := my_up_self fh77
  refine w_aload_n gz_209_22 rfl ?_
  refine w_iload_n gz_209_23 rfl ?_
  refine w_iload_n gz_209_24 rfl ?_
  refine w_inv (k := 3) (as := [(0, x2), (0, x1)]) (r := []) (x := 151) (ls0 := [(2, 151), (0, x1), (0, x2), (9, 0), (9, 0), (9, 0)]) gz_209_25 gm_213 rfl is_151 rd_10 rfl rfl rfl rfl rfl (c_Model_isWanted (d := (d + 1)) (x1 := x1) (x2 := x2) (by omega) (by omega) (by omega) (by omega) Mw_h77 Mw3_h77 Rws_h77 Fp_h77 (fun h79 v80 frh79 w81 w82 => ?_))
  have gh79 : my_fr [(10, 27), (10, 32), (10, 33), (10, 37), (10, 46), (10, 48), (61, -1), (62, -1), (73, -1), (74, -1), (75, -1), (76, -1), (77, -1), (78, -1), (79, -1), (80, -1), (81, -1), (82, -1), (83, -1), (84, -1), (85, -1), (86, -1), (88, -1), (89, -1), (90, -1), (91, -1), (92, -1), (93, -1), (94, -1)] h h79 := my_fr.tr gh77 (frh79.mo rfl)
  have Mw_h79 : Mw h79 := Mw_ag (my_ag.fr frh79 rfl) Mw_h77
  have Mw3_h79 : Mw3 h79 := Mw3_ag (my_ag.fr frh79 rfl) Mw3_h77
  have Rws_h79 : Rws h79 := Rws_ag (my_ag.fr frh79 rfl) Rws_h77
  have Fp_h79 : Fp h79 x2 := Fp_ag (my_ag.fr frh79 rfl) Fp_h77
  have Wys_h79 : Wys h79 := Wys_ag (my_ag.fr frh79 rfl) Wys_h77t78
  show wp l rho (d + 6) 209 28 [(2, 151), (0, x1), (0, x2), (0, x3), (0, x4), (0, x5), (0, x6), (9, 0), (9, 0), (9, 0), (9, 0)] [(0, v80)] h79 Q
  refine w_ifeq (t := 40) gz_209_28 rfl (fun u83 => ?_) (fun u83 => ?_)
  ·
    refine w_aload_n gz_209_40 rfl ?_
    refine w_iload_n gz_209_41 rfl ?_
    refine w_inv (k := 4) (as := [(0, x2)]) (r := []) (x := 151) (ls0 := [(2, 151), (0, x2), (9, 0), (9, 0), (9, 0), (9, 0)]) gz_209_42 gm_205 rfl is_151 rd_10 rfl rfl rfl rfl rfl (c_Model_wallsUnder (d := (d + 4)) (x1 := x2) (by omega) (by omega) Mw_h79 (by first | assumption | exact Fp_h79 | exact Fp_told (by omega) (by omega) | omega | (subst_vars; omega) | omega) (fun h84 v85 frh84 => ?_))
    have gh84 : my_fr [(10, 27), (10, 32), (10, 33), (10, 37), (10, 46), (10, 48), (61, -1), (62, -1), (73, -1), (74, -1), (75, -1), (76, -1), (77, -1), (78, -1), (79, -1), (80, -1), (81, -1), (82, -1), (83, -1), (84, -1), (85, -1), (86, -1), (88, -1), (89, -1), (90, -1), (91, -1), (92, -1), (93, -1), (94, -1)] h h84 := my_fr.tr gh79 (frh84.mo rfl)
    have Mw_h84 : Mw h84 := Mw_ag (my_ag.fr frh84 rfl) Mw_h79
    have Mw3_h84 : Mw3 h84 := Mw3_ag (my_ag.fr frh84 rfl) Mw3_h79
    have Rws_h84 : Rws h84 := Rws_ag (my_ag.fr frh84 rfl) Rws_h79
    have Fp_h84 : Fp h84 x2 := Fp_ag (my_ag.fr frh84 rfl) Fp_h79
    have Wys_h84 : Wys h84 := Wys_ag (my_ag.fr frh84 rfl) Wys_h79
    show wp l rho (d + 6) 209 45 [(2, 151), (0, x1), (0, x2), (0, x3), (0, x4), (0, x5), (0, x6), (9, 0), (9, 0), (9, 0), (9, 0)] [(0, v85)] h84 Q
    refine w_istore (ls' := [(2, 151), (0, x1), (0, x2), (0, x3), (0, x4), (0, x5), (0, x6), (0, v85), (9, 0), (9, 0), (9, 0)]) gz_209_45 gm_209 rfl rfl rfl ?_
    refine w_aload_n gz_209_47 rfl ?_
    refine w_iload_n gz_209_48 rfl ?_
    refine w_bipush gz_209_49 (by decide) ?_
    have c162 : ∀ j : Int, h84 162 j = h 162 j := fun j => ((my_fr.at frh84 is_162 rfl).trans ((my_fr.at frh79 is_162 rfl).trans ((my_up_role fh77 is_162 is_151 rfl).trans ((my_fr.at frh76 is_162 rfl).trans ((my_fr.at frh74 is_162 rfl).trans (rfl : h 162 j = h 162 j))))))
    refine w_inv (k := 1) (as := [(0, 8), (0, x1)]) (r := []) (x := 151) (ls0 := [(2, 151), (0, x1), (0, 8), (9, 0)]) gz_209_51 gm_152 rfl is_151 rd_10 rfl rfl rfl rfl rfl (c_Model_copies2 (d := (d + 5)) (x1 := x1) (x2 := 8) (by omega) (by omega) (by omega) (by omega) Rws_h84 (fun h86 frh86 xp87 Rws_h86t88 => ?_))
    have gh86 : my_fr [(10, 27), (10, 32), (10, 33), (10, 37), (10, 46), (10, 48), (61, -1), (62, -1), (73, -1), (74, -1), (75, -1), (76, -1), (77, -1), (78, -1), (79, -1), (80, -1), (81, -1), (82, -1), (83, -1), (84, -1), (85, -1), (86, -1), (88, -1), (89, -1), (90, -1), (91, -1), (92, -1), (93, -1), (94, -1)] h h86 := my_fr.tr gh84 (frh86.mo rfl)
    have Mw_h86 : Mw h86 := Mw_ag (my_ag.fr frh86 rfl) Mw_h84
    have Mw3_h86 : Mw3 h86 := Mw3_ag (my_ag.fr frh86 rfl) Mw3_h84
    have Fp_h86 : Fp h86 x2 := Fp_ag (my_ag.fr frh86 rfl) Fp_h84
    have Wys_h86 : Wys h86 := Wys_ag (my_ag.fr frh86 rfl) Wys_h84
    show wp l rho (d + 6) 209 54 [(2, 151), (0, x1), (0, x2), (0, x3), (0, x4), (0, x5), (0, x6), (0, v85), (9, 0), (9, 0), (9, 0)] [] h86 Q
    have cp8 := xp87
    refine w_iconst gz_209_54 (by decide) ?_
    refine w_istore (ls' := [(2, 151), (0, x1), (0, x2), (0, x3), (0, x4), (0, x5), (0, x6), (0, v85), (0, 0), (9, 0), (9, 0)]) gz_209_55 gm_209 rfl rfl rfl ?_
    have ce89 : h86 151 48 = 0 := ((my_fr.at frh86 is_151 rfl).trans ((my_fr.at frh84 is_151 rfl).trans ((my_fr.at frh79 is_151 rfl).trans (my_up_self fh77))))
    have a162 : ∀ j : Int, h86 162 j = h86 162 j := fun j => rfl
    exact J57_0 61 (v85) (0) h86 (gh86) (by omega) (by omega) Mw_h86 Mw3_h86 Rws_h86t88 Fp_h86 (by first | (intro j a b; rw [a162]; first | exact ts_74_0 j a b | exact ts_57_0 j a b | exact ts_136_0 j a b) | (intro j a b; rw [Row_back f183 b162 f231 (by omega) (by have z := tp8_136_0 p57_1 (by omega) (by omega); omega)]; exact ts_136_0 j a b) | (intro j a b; exact (cp8.2 j (by omega)).trans (c162 j)) | omega) (by first | (intro j a b; rw [a162]; first | exact tp8_74_0 j a b | exact tp8_57_0 j a b | exact tp8_136_0 j a b) | (intro j a b; rw [Row_back f183 b162 f231 (by omega) (by have z := tp8_136_0 p57_1 (by omega) (by omega); omega)]; exact tp8_136_0 j a b) | (intro j a b; rw [show (480 : Int) + j = 60 * 8 + j by omega, cp8.1 j a b]; exact c162 _) | omega) (by first | omega | (show _ ≤ 1 + 57 * (0 : Int); omega) | (rw [r1]; omega) | (show _ ≤ 1711 + (0 : Int); omega) | omega) (Wys_h86) (by omega)
  ·
    refine w_aload_n gz_209_31 rfl ?_
    refine w_iconst gz_209_32 (by decide) ?_
    refine w_iconst gz_209_33 (by decide) ?_
    refine w_iconst gz_209_34 (by decide) ?_
    refine w_iconst gz_209_35 (by decide) ?_
    refine w_iconst gz_209_36 (by decide) ?_
    have ce90 : h79 151 48 = 0 := ((my_fr.at frh79 is_151 rfl).trans (my_up_self fh77))
    refine w_inv (k := 0) (as := [(0, (-1)), (0, (-1)), (0, (-1)), (0, (-1)), (0, 0)]) (r := []) (x := 151) (ls0 := [(2, 151), (0, 0), (0, (-1)), (0, (-1)), (0, (-1)), (0, (-1))]) gz_209_37 gm_214 rfl is_151 rd_10 rfl rfl rfl rfl rfl (c_Model_finds (d := (d + 5)) (x1 := 0) (x2 := (-1)) (x3 := (-1)) (x4 := (-1)) (x5 := (-1)) (by omega) (by omega) (by omega) (by omega) (by omega) (by omega) (by omega) (by omega) (by omega) (by omega) Wys_h79 (by first | assumption | exact Fp_h79 | exact Fp_told (by omega) (by omega) | omega | (subst_vars; omega) | omega) (by first | assumption | exact Fp_h79 | exact Fp_told (by omega) (by omega) | omega | (subst_vars; omega) | omega) (by first | assumption | exact Fp_h79 | exact Fp_told (by omega) (by omega) | omega | (subst_vars; omega) | omega) (fun h91 frh91 w92 w93 xp94 Wys_h91t95 => ?_))
    have gh91 : my_fr [(10, 27), (10, 32), (10, 33), (10, 37), (10, 46), (10, 48), (61, -1), (62, -1), (73, -1), (74, -1), (75, -1), (76, -1), (77, -1), (78, -1), (79, -1), (80, -1), (81, -1), (82, -1), (83, -1), (84, -1), (85, -1), (86, -1), (88, -1), (89, -1), (90, -1), (91, -1), (92, -1), (93, -1), (94, -1)] h h91 := my_fr.tr gh79 (frh91.mo rfl)
    have Mw_h91 : Mw h91 := Mw_ag (my_ag.fr frh91 rfl) Mw_h79
    have Mw3_h91 : Mw3 h91 := Mw3_ag (my_ag.fr frh91 rfl) Mw3_h79
    have Rws_h91 : Rws h91 := Rws_ag (my_ag.fr frh91 rfl) Rws_h79
    have Fp_h91 : Fp h91 x2 := Fp_ag (my_ag.fr frh91 rfl) Fp_h79
    show wp l rho (d + 6) 209 40 [(2, 151), (0, x1), (0, x2), (0, x3), (0, x4), (0, x5), (0, x6), (9, 0), (9, 0), (9, 0), (9, 0)] [] h91 Q
    refine w_aload_n gz_209_40 rfl ?_
    refine w_iload_n gz_209_41 rfl ?_
    refine w_inv (k := 4) (as := [(0, x2)]) (r := []) (x := 151) (ls0 := [(2, 151), (0, x2), (9, 0), (9, 0), (9, 0), (9, 0)]) gz_209_42 gm_205 rfl is_151 rd_10 rfl rfl rfl rfl rfl (c_Model_wallsUnder (d := (d + 4)) (x1 := x2) (by omega) (by omega) Mw_h91 (by first | assumption | exact Fp_h91 | exact Fp_told (by omega) (by omega) | omega | (subst_vars; omega) | omega) (fun h96 v97 frh96 => ?_))
    have gh96 : my_fr [(10, 27), (10, 32), (10, 33), (10, 37), (10, 46), (10, 48), (61, -1), (62, -1), (73, -1), (74, -1), (75, -1), (76, -1), (77, -1), (78, -1), (79, -1), (80, -1), (81, -1), (82, -1), (83, -1), (84, -1), (85, -1), (86, -1), (88, -1), (89, -1), (90, -1), (91, -1), (92, -1), (93, -1), (94, -1)] h h96 := my_fr.tr gh91 (frh96.mo rfl)
    have Mw_h96 : Mw h96 := Mw_ag (my_ag.fr frh96 rfl) Mw_h91
    have Mw3_h96 : Mw3 h96 := Mw3_ag (my_ag.fr frh96 rfl) Mw3_h91
    have Rws_h96 : Rws h96 := Rws_ag (my_ag.fr frh96 rfl) Rws_h91
    have Fp_h96 : Fp h96 x2 := Fp_ag (my_ag.fr frh96 rfl) Fp_h91
    have Wys_h96 : Wys h96 := Wys_ag (my_ag.fr frh96 rfl) Wys_h91t95
    show wp l rho (d + 6) 209 45 [(2, 151), (0, x1), (0, x2), (0, x3), (0, x4), (0, x5), (0, x6), (9, 0), (9, 0), (9, 0), (9, 0)] [(0, v97)] h96 Q
    refine w_istore (ls' := [(2, 151), (0, x1), (0, x2), (0, x3), (0, x4), (0, x5), (0, x6), (0, v97), (9, 0), (9, 0), (9, 0)]) gz_209_45 gm_209 rfl rfl rfl ?_
    refine w_aload_n gz_209_47 rfl ?_
    refine w_iload_n gz_209_48 rfl ?_
    refine w_bipush gz_209_49 (by decide) ?_
    have c162 : ∀ j : Int, h96 162 j = h 162 j := fun j => ((my_fr.at frh96 is_162 rfl).trans ((my_fr.at frh91 is_162 rfl).trans ((my_fr.at frh79 is_162 rfl).trans ((my_up_role fh77 is_162 is_151 rfl).trans ((my_fr.at frh76 is_162 rfl).trans ((my_fr.at frh74 is_162 rfl).trans (rfl : h 162 j = h 162 j)))))))
    refine w_inv (k := 1) (as := [(0, 8), (0, x1)]) (r := []) (x := 151) (ls0 := [(2, 151), (0, x1), (0, 8), (9, 0)]) gz_209_51 gm_152 rfl is_151 rd_10 rfl rfl rfl rfl rfl (c_Model_copies2 (d := (d + 5)) (x1 := x1) (x2 := 8) (by omega) (by omega) (by omega) (by omega) Rws_h96 (fun h98 frh98 xp99 Rws_h98t100 => ?_))
    have gh98 : my_fr [(10, 27), (10, 32), (10, 33), (10, 37), (10, 46), (10, 48), (61, -1), (62, -1), (73, -1), (74, -1), (75, -1), (76, -1), (77, -1), (78, -1), (79, -1), (80, -1), (81, -1), (82, -1), (83, -1), (84, -1), (85, -1), (86, -1), (88, -1), (89, -1), (90, -1), (91, -1), (92, -1), (93, -1), (94, -1)] h h98 := my_fr.tr gh96 (frh98.mo rfl)
    have Mw_h98 : Mw h98 := Mw_ag (my_ag.fr frh98 rfl) Mw_h96
    have Mw3_h98 : Mw3 h98 := Mw3_ag (my_ag.fr frh98 rfl) Mw3_h96
    have Fp_h98 : Fp h98 x2 := Fp_ag (my_ag.fr frh98 rfl) Fp_h96
    have Wys_h98 : Wys h98 := Wys_ag (my_ag.fr frh98 rfl) Wys_h96
    show wp l rho (d + 6) 209 54 [(2, 151), (0, x1), (0, x2), (0, x3), (0, x4), (0, x5), (0, x6), (0, v97), (9, 0), (9, 0), (9, 0)] [] h98 Q
    have cp8 := xp99
    refine w_iconst gz_209_54 (by decide) ?_
    refine w_istore (ls' := [(2, 151), (0, x1), (0, x2), (0, x3), (0, x4), (0, x5), (0, x6), (0, v97), (0, 0), (9, 0), (9, 0)]) gz_209_55 gm_209 rfl rfl rfl ?_
    have ce101 : h98 151 48 = (h91 151 48) := ((my_fr.at frh98 is_151 rfl).trans ((my_fr.at frh96 is_151 rfl).trans (rfl : h91 151 48 = h91 151 48)))
    have a162 : ∀ j : Int, h98 162 j = h98 162 j := fun j => rfl
    exact J57_0 61 (v97) (0) h98 (gh98) (by omega) (by omega) Mw_h98 Mw3_h98 Rws_h98t100 Fp_h98 (by first | (intro j a b; rw [a162]; first | exact ts_74_0 j a b | exact ts_57_0 j a b | exact ts_136_0 j a b) | (intro j a b; rw [Row_back f183 b162 f231 (by omega) (by have z := tp8_136_0 p57_1 (by omega) (by omega); omega)]; exact ts_136_0 j a b) | (intro j a b; exact (cp8.2 j (by omega)).trans (c162 j)) | omega) (by first | (intro j a b; rw [a162]; first | exact tp8_74_0 j a b | exact tp8_57_0 j a b | exact tp8_136_0 j a b) | (intro j a b; rw [Row_back f183 b162 f231 (by omega) (by have z := tp8_136_0 p57_1 (by omega) (by omega); omega)]; exact tp8_136_0 j a b) | (intro j a b; rw [show (480 : Int) + j = 60 * 8 + j by omega, cp8.1 j a b]; exact c162 _) | omega) (by first | omega | (show _ ≤ 1 + 57 * (0 : Int); omega) | (rw [r1]; omega) | (show _ ≤ 1711 + (0 : Int); omega) | omega) (Wys_h98) (by omega)
theorem c_Model_way {l : Launch} {rho : Nat → Int32} {d : Nat} {h : my_H} {Q : my_H → my_V → Prop} {x1 x2 x3 x4 x5 x6 x7 : Int} (n_Mw : Mw h) (n_Mw3 : Mw3 h) (n_Rws : Rws h) (k0 : ∀ (h' : my_H), my_fr [(10, 0), (10, 27), (10, 32), (10, 33), (10, 37), (10, 46), (10, 48), (61, -1), (62, -1), (73, -1), (74, -1), (75, -1), (76, -1), (77, -1), (78, -1), (79, -1), (80, -1), (81, -1), (82, -1), (83, -1), (84, -1), (85, -1), (86, -1), (88, -1), (89, -1), (90, -1), (91, -1), (92, -1), (93, -1), (94, -1)] h h' → h' 151 0 = 0 → Rws h' → Q h' (0, (-1))) (k1 : ∀ (h' : my_H) (y : Int), my_fr [(10, 0), (10, 27), (10, 32), (10, 33), (10, 37), (10, 46), (10, 48), (61, -1), (62, -1), (73, -1), (74, -1), (75, -1), (76, -1), (77, -1), (78, -1), (79, -1), (80, -1), (81, -1), (82, -1), (83, -1), (84, -1), (85, -1), (86, -1), (88, -1), (89, -1), (90, -1), (91, -1), (92, -1), (93, -1), (94, -1)] h h' → (-1) ≤ y → y ≤ 19 → 0 ≤ x1 → x1 ≤ 5 → 0 ≤ x2 → x2 ≤ 2 → (-1) ≤ x6 → x6 ≤ 1799 → 0 ≤ x7 → x7 ≤ 5 → h' 151 0 = 0 → 1 ≤ h' 151 48 → h' 151 48 ≤ 1800 → Rws h' → Q h' (0, y)) : wp l rho (d + 7) 219 0 [(2, 151), (0, x1), (0, x2), (0, x3), (0, x4), (0, x5), (0, x6), (0, x7), (9, 0)] [] h Q := by
  refine w_aload_n gz_219_0 rfl ?_
  refine w_iconst gz_219_1 (by decide) ?_
  refine v_putI (j := 0) gz_219_2 rfl is_151 rd_10 rfl (by omega) (by omega) rfl (fun h1 fh1 => ?_)
  have gh1 : my_fr [(10, 0), (10, 27), (10, 32), (10, 33), (10, 37), (10, 46), (10, 48), (61, -1), (62, -1), (73, -1), (74, -1), (75, -1), (76, -1), (77, -1), (78, -1), (79, -1), (80, -1), (81, -1), (82, -1), (83, -1), (84, -1), (85, -1), (86, -1), (88, -1), (89, -1), (90, -1), (91, -1), (92, -1), (93, -1), (94, -1)] h h1 := my_fr.up my_fr.rf is_151 fh1 rfl
  have Mw_h1 : Mw h1 := Mw_ag (my_ag.up fh1 is_151 rfl) n_Mw
  have Mw3_h1 : Mw3 h1 := Mw3_ag (my_ag.up fh1 is_151 rfl) n_Mw3
  have Rws_h1 : Rws h1 := Rws_ag (my_ag.up fh1 is_151 rfl) n_Rws
  refine w_iload gz_219_5 rfl ?_
  refine w_iconst gz_219_7 (by decide) ?_
  refine w_iconst gz_219_8 (by decide) ?_
  refine w_inS (k := 0) (as := [(0, 5), (0, 0), (0, x7)]) (r := []) (ls0 := [(0, x7), (0, 0), (0, 5)]) gz_219_9 gm_147 rfl rfl rfl rfl rfl rfl ?_
  refine w_iload_n gz_147_0 rfl ?_
  refine w_iload_n gz_147_1 rfl ?_
  refine w_iclt (t := 14) gz_147_2 rfl (fun u2 => ?_) (fun u2 => ?_)
  ·
    refine w_iconst gz_147_14 (by decide) ?_
    refine w_bret gz_147_15 gm_147 (by omega) (by omega) ?_
    show wp l rho (d + 7) 219 12 [(2, 151), (0, x1), (0, x2), (0, x3), (0, x4), (0, x5), (0, x6), (0, x7), (9, 0)] [(0, 0)] h1 Q
    refine w_ifeq (t := 30) gz_219_12 rfl (fun u3 => ?_) (fun u3 => by exfalso; omega)
    refine w_iconst gz_219_30 (by decide) ?_
    have c4 := (my_up_self fh1)
    exact w_iret gz_219_31 gm_219 (k0 h1 (gh1) (by omega) Rws_h1)
  ·
    refine w_iload_n gz_147_5 rfl ?_
    refine w_iload_n gz_147_6 rfl ?_
    refine w_icgt (t := 14) gz_147_7 rfl (fun u5 => ?_) (fun u5 => ?_)
    ·
      refine w_iconst gz_147_14 (by decide) ?_
      refine w_bret gz_147_15 gm_147 (by omega) (by omega) ?_
      show wp l rho (d + 7) 219 12 [(2, 151), (0, x1), (0, x2), (0, x3), (0, x4), (0, x5), (0, x6), (0, x7), (9, 0)] [(0, 0)] h1 Q
      refine w_ifeq (t := 30) gz_219_12 rfl (fun u6 => ?_) (fun u6 => by exfalso; omega)
      refine w_iconst gz_219_30 (by decide) ?_
      have c7 := (my_up_self fh1)
      exact w_iret gz_219_31 gm_219 (k0 h1 (gh1) (by omega) Rws_h1)
    ·
      refine w_iconst gz_147_10 (by decide) ?_
      refine w_goto (t := 15) gz_147_11 rfl ?_
      refine w_bret gz_147_15 gm_147 (by omega) (by omega) ?_
      show wp l rho (d + 7) 219 12 [(2, 151), (0, x1), (0, x2), (0, x3), (0, x4), (0, x5), (0, x6), (0, x7), (9, 0)] [(0, 1)] h1 Q
      refine w_ifeq (t := 30) gz_219_12 rfl (fun u8 => by exfalso; omega) (fun u8 => ?_)
      refine w_aload_n gz_219_15 rfl ?_
      refine w_iconst gz_219_16 (by decide) ?_
      refine w_iload_n gz_219_17 rfl ?_
      refine w_iload_n gz_219_18 rfl ?_
      refine w_iload_n gz_219_19 rfl ?_
      refine w_iload gz_219_20 rfl ?_
      refine w_iload gz_219_22 rfl ?_
      refine w_inv (k := 1) (as := [(0, x5), (0, x4), (0, x3), (0, x2), (0, x1), (0, 0)]) (r := []) (x := 151) (ls0 := [(2, 151), (0, 0), (0, x1), (0, x2), (0, x3), (0, x4), (0, x5), (9, 0)]) gz_219_24 gm_208 rfl is_151 rd_10 rfl rfl rfl rfl rfl (c_Model_isEdit (d := (d + 2)) (x1 := 0) (x2 := x1) (x3 := x2) (x4 := x3) (x5 := x4) (x6 := x5) (by omega) (by omega) Mw_h1 Mw3_h1 Rws_h1 (fun h9 frh9 => ?_) (fun h10 frh10 w11 w12 w13 w14 xp15 xp16 xp17 xp18 xp19 xp20 xp21 xp22 => ?_))
      ·
        have gh9 : my_fr [(10, 0), (10, 27), (10, 32), (10, 33), (10, 37), (10, 46), (10, 48), (61, -1), (62, -1), (73, -1), (74, -1), (75, -1), (76, -1), (77, -1), (78, -1), (79, -1), (80, -1), (81, -1), (82, -1), (83, -1), (84, -1), (85, -1), (86, -1), (88, -1), (89, -1), (90, -1), (91, -1), (92, -1), (93, -1), (94, -1)] h h9 := my_fr.tr gh1 (frh9.mo rfl)
        have Mw_h9 : Mw h9 := Mw_ag (my_ag.fr frh9 rfl) Mw_h1
        have Mw3_h9 : Mw3 h9 := Mw3_ag (my_ag.fr frh9 rfl) Mw3_h1
        have Rws_h9 : Rws h9 := Rws_ag (my_ag.fr frh9 rfl) Rws_h1
        show wp l rho (d + 7) 219 27 [(2, 151), (0, x1), (0, x2), (0, x3), (0, x4), (0, x5), (0, x6), (0, x7), (9, 0)] [(0, 0)] h9 Q
        refine w_ifne (t := 32) gz_219_27 rfl (fun u23 => by exfalso; omega) (fun u23 => ?_)
        refine w_iconst gz_219_30 (by decide) ?_
        have c24 := ((my_fr.at frh9 is_151 rfl).trans (my_up_self fh1))
        exact w_iret gz_219_31 gm_219 (k0 h9 (gh9) (by omega) Rws_h9)
      ·
        have gh10 : my_fr [(10, 0), (10, 27), (10, 32), (10, 33), (10, 37), (10, 46), (10, 48), (61, -1), (62, -1), (73, -1), (74, -1), (75, -1), (76, -1), (77, -1), (78, -1), (79, -1), (80, -1), (81, -1), (82, -1), (83, -1), (84, -1), (85, -1), (86, -1), (88, -1), (89, -1), (90, -1), (91, -1), (92, -1), (93, -1), (94, -1)] h h10 := my_fr.tr gh1 (frh10.mo rfl)
        have Mw_h10 : Mw h10 := Mw_ag (my_ag.fr frh10 rfl) Mw_h1
        have Mw3_h10 : Mw3 h10 := Mw3_ag (my_ag.fr frh10 rfl) Mw3_h1
        have Rws_h10 : Rws h10 := Rws_ag (my_ag.fr frh10 rfl) Rws_h1
        show wp l rho (d + 7) 219 27 [(2, 151), (0, x1), (0, x2), (0, x3), (0, x4), (0, x5), (0, x6), (0, x7), (9, 0)] [(0, 1)] h10 Q
        have Fp_h10t25 : Fp h10 x1 := xp17
        refine w_ifne (t := 32) gz_219_27 rfl (fun u26 => ?_) (fun u26 => by exfalso; omega)
        refine w_aload_n gz_219_32 rfl ?_
        refine w_iconst gz_219_33 (by decide) ?_
        refine w_iload_n gz_219_34 rfl ?_
        refine w_iload_n gz_219_35 rfl ?_
        refine w_iload_n gz_219_36 rfl ?_
        refine w_iload gz_219_37 rfl ?_
        refine w_iload gz_219_39 rfl ?_
        refine w_inv (k := 4) (as := [(0, x5), (0, x4), (0, x3), (0, x2), (0, x1), (0, 0)]) (r := []) (x := 151) (ls0 := [(2, 151), (0, 0), (0, x1), (0, x2), (0, x3), (0, x4), (0, x5), (9, 0), (9, 0), (9, 0), (9, 0)]) gz_219_41 gm_209 rfl is_151 rd_10 rfl rfl rfl rfl rfl (c_Model_findWays (d := d) (x1 := 0) (x2 := x1) (x3 := x2) (x4 := x3) (x5 := x4) (x6 := x5) (by omega) (by omega) (by omega) (by omega) (by omega) (by omega) Mw_h10 Mw3_h10 Rws_h10 Fp_h10t25 (by first | assumption | exact Fp_h10t25 | exact Fp_told (by omega) (by omega) | omega | (subst_vars; omega) | omega) (by first | assumption | exact Fp_h10t25 | exact Fp_told (by omega) (by omega) | omega | (subst_vars; omega) | omega) (fun h27 frh27 Rws_h27t28 Wys_h27t29 => ?_))
        have gh27 : my_fr [(10, 0), (10, 27), (10, 32), (10, 33), (10, 37), (10, 46), (10, 48), (61, -1), (62, -1), (73, -1), (74, -1), (75, -1), (76, -1), (77, -1), (78, -1), (79, -1), (80, -1), (81, -1), (82, -1), (83, -1), (84, -1), (85, -1), (86, -1), (88, -1), (89, -1), (90, -1), (91, -1), (92, -1), (93, -1), (94, -1)] h h27 := my_fr.tr gh10 (frh27.mo rfl)
        have Mw_h27 : Mw h27 := Mw_ag (my_ag.fr frh27 rfl) Mw_h10
        have Mw3_h27 : Mw3 h27 := Mw3_ag (my_ag.fr frh27 rfl) Mw3_h10
        have Fp_h27 : Fp h27 x1 := Fp_ag (my_ag.fr frh27 rfl) Fp_h10t25
        show wp l rho (d + 7) 219 44 [(2, 151), (0, x1), (0, x2), (0, x3), (0, x4), (0, x5), (0, x6), (0, x7), (9, 0)] [] h27 Q
        refine w_iload gz_219_44 rfl ?_
        refine w_iconst gz_219_46 (by decide) ?_
        refine w_icne (t := 57) gz_219_47 rfl (fun u30 => ?_) (fun u30 => ?_)
        ·
          refine w_iload gz_219_57 rfl ?_
          refine w_istore (ls' := [(2, 151), (0, x1), (0, x2), (0, x3), (0, x4), (0, x5), (0, x6), (0, x7), (0, x6)]) gz_219_59 gm_219 rfl rfl rfl ?_
          refine w_iload gz_219_61 rfl ?_
          refine w_iconst gz_219_63 (by decide) ?_
          refine w_aload_n gz_219_64 rfl ?_
          refine v_getI (j := 48) gz_219_65 rfl is_151 rd_10 rfl (fun v31 ev31 pv31 qv31 => ?_)
          refine w_iconst gz_219_68 (by decide) ?_
          refine w_isub gz_219_69 ⟨by omega, by omega⟩ ?_
          refine w_inS (k := 0) (as := [(0, (v31 - 1)), (0, 0), (0, x6)]) (r := []) (ls0 := [(0, x6), (0, 0), (0, (v31 - 1))]) gz_219_70 gm_147 rfl rfl rfl rfl rfl rfl ?_
          refine w_iload_n gz_147_0 rfl ?_
          refine w_iload_n gz_147_1 rfl ?_
          refine w_iclt (t := 14) gz_147_2 rfl (fun u32 => ?_) (fun u32 => ?_)
          ·
            refine w_iconst gz_147_14 (by decide) ?_
            refine w_bret gz_147_15 gm_147 (by omega) (by omega) ?_
            show wp l rho (d + 7) 219 73 [(2, 151), (0, x1), (0, x2), (0, x3), (0, x4), (0, x5), (0, x6), (0, x7), (0, x6)] [(0, 0)] h27 Q
            refine w_ifne (t := 78) gz_219_73 rfl (fun u33 => by exfalso; omega) (fun u33 => ?_)
            refine w_iconst gz_219_76 (by decide) ?_
            have c34 := ((my_fr.at frh27 is_151 rfl).trans ((my_fr.at frh10 is_151 rfl).trans (my_up_self fh1)))
            exact w_iret gz_219_77 gm_219 (k0 h27 (gh27) (by omega) Rws_h27t28)
          ·
            refine w_iload_n gz_147_5 rfl ?_
            refine w_iload_n gz_147_6 rfl ?_
            refine w_icgt (t := 14) gz_147_7 rfl (fun u35 => ?_) (fun u35 => ?_)
            ·
              refine w_iconst gz_147_14 (by decide) ?_
              refine w_bret gz_147_15 gm_147 (by omega) (by omega) ?_
              show wp l rho (d + 7) 219 73 [(2, 151), (0, x1), (0, x2), (0, x3), (0, x4), (0, x5), (0, x6), (0, x7), (0, x6)] [(0, 0)] h27 Q
              refine w_ifne (t := 78) gz_219_73 rfl (fun u36 => by exfalso; omega) (fun u36 => ?_)
              refine w_iconst gz_219_76 (by decide) ?_
              have c37 := ((my_fr.at frh27 is_151 rfl).trans ((my_fr.at frh10 is_151 rfl).trans (my_up_self fh1)))
              exact w_iret gz_219_77 gm_219 (k0 h27 (gh27) (by omega) Rws_h27t28)
            ·
              refine w_iconst gz_147_10 (by decide) ?_
              refine w_goto (t := 15) gz_147_11 rfl ?_
              refine w_bret gz_147_15 gm_147 (by omega) (by omega) ?_
              show wp l rho (d + 7) 219 73 [(2, 151), (0, x1), (0, x2), (0, x3), (0, x4), (0, x5), (0, x6), (0, x7), (0, x6)] [(0, 1)] h27 Q
              refine w_ifne (t := 78) gz_219_73 rfl (fun u38 => ?_) (fun u38 => by exfalso; omega)
              refine w_iload gz_219_78 rfl ?_
              by_cases u39 : x7 = 0
              ·
                refine w_tswE (t := 116) gz_219_80 u39 (by decide) (by decide) rfl rfl ?_
                refine w_aload_n gz_219_116 rfl ?_
                refine w_iload gz_219_117 rfl ?_
                refine w_inv (k := 0) (as := [(0, x6)]) (r := []) (x := 151) (ls0 := [(2, 151), (0, x6)]) gz_219_119 gm_221 rfl is_151 rd_10 rfl rfl rfl rfl rfl ?_
                refine w_aload_n gz_221_0 rfl ?_
                refine w_getX (v := 190) gz_221_1 is_151 rd_10 rfl (by decide) rfl ?_
                refine w_iload_n gz_221_4 rfl ?_
                refine w_iald gz_221_5 is_190 rd_89 (by omega) (by omega) (fun v41 ev41 pv41 qv41 => ?_)
                refine w_iconst gz_221_6 (by decide) ?_
                refine w_icge (t := 19) gz_221_7 rfl (fun u42 => ?_) (fun u42 => ?_)
                ·
                  refine w_aload_n gz_221_19 rfl ?_
                  refine w_getX (v := 157) gz_221_20 is_151 rd_10 rfl (by decide) rfl ?_
                  refine w_aload_n gz_221_23 rfl ?_
                  refine w_getX (v := 191) gz_221_24 is_151 rd_10 rfl (by decide) rfl ?_
                  refine w_iload_n gz_221_27 rfl ?_
                  refine w_iald gz_221_28 is_191 rd_90 (by omega) (by omega) (fun v45 ev45 pv45 qv45 => ?_)
                  have hi46 : 0 ≤ v45 := by have q := Wys_h27t29 x6 (by omega) (by omega); omega
                  have hi47 : v45 ≤ 2 := by have q := Wys_h27t29 x6 (by omega) (by omega); omega
                  refine w_iald gz_221_29 is_157 rd_56 (by omega) (by omega) (fun v48 ev48 pv48 qv48 => ?_)
                  refine w_iret gz_221_30 gm_221 ?_
                  show wp l rho (d + 7) 219 122 [(2, 151), (0, x1), (0, x2), (0, x3), (0, x4), (0, x5), (0, x6), (0, x7), (0, x6)] [(0, v48)] h27 Q
                  have c49 := ((my_fr.at frh27 is_151 rfl).trans ((my_fr.at frh10 is_151 rfl).trans (my_up_self fh1)))
                  have c50 := ev31.symm
                  exact w_iret gz_219_122 gm_219 (k1 h27 (v48) (gh27) (by omega) (by omega) (by omega) (by omega) (by omega) (by omega) (by omega) (by omega) (by omega) (by omega) (by omega) (by omega) (by omega) Rws_h27t28)
                ·
                  refine w_aload_n gz_221_10 rfl ?_
                  refine w_getX (v := 190) gz_221_11 is_151 rd_10 rfl (by decide) rfl ?_
                  refine w_iload_n gz_221_14 rfl ?_
                  refine w_iald gz_221_15 is_190 rd_89 (by omega) (by omega) (fun v52 ev52 pv52 qv52 => ?_)
                  have zv52 := ev52.trans ev41.symm
                  refine w_goto (t := 30) gz_221_16 rfl ?_
                  refine w_iret gz_221_30 gm_221 ?_
                  show wp l rho (d + 7) 219 122 [(2, 151), (0, x1), (0, x2), (0, x3), (0, x4), (0, x5), (0, x6), (0, x7), (0, x6)] [(0, v52)] h27 Q
                  have c53 := ((my_fr.at frh27 is_151 rfl).trans ((my_fr.at frh10 is_151 rfl).trans (my_up_self fh1)))
                  have c54 := ev31.symm
                  exact w_iret gz_219_122 gm_219 (k1 h27 (v52) (gh27) (by omega) (by omega) (by omega) (by omega) (by omega) (by omega) (by omega) (by omega) (by omega) (by omega) (by omega) (by omega) (by omega) Rws_h27t28)
              ·
                by_cases u55 : x7 = 1
                ·
                  refine w_tswE (t := 123) gz_219_80 u55 (by decide) (by decide) rfl rfl ?_
                  refine w_aload_n gz_219_123 rfl ?_
                  refine w_getX (v := 190) gz_219_124 is_151 rd_10 rfl (by decide) rfl ?_
                  refine w_iload gz_219_127 rfl ?_
                  refine w_iald gz_219_129 is_190 rd_89 (by omega) (by omega) (fun v57 ev57 pv57 qv57 => ?_)
                  have c58 := ((my_fr.at frh27 is_151 rfl).trans ((my_fr.at frh10 is_151 rfl).trans (my_up_self fh1)))
                  have c59 := ev31.symm
                  exact w_iret gz_219_130 gm_219 (k1 h27 (v57) (gh27) (by omega) (by omega) (by omega) (by omega) (by omega) (by omega) (by omega) (by omega) (by omega) (by omega) (by omega) (by omega) (by omega) Rws_h27t28)
                ·
                  by_cases u60 : x7 = 2
                  ·
                    refine w_tswE (t := 131) gz_219_80 u60 (by decide) (by decide) rfl rfl ?_
                    refine w_aload_n gz_219_131 rfl ?_
                    refine w_getX (v := 191) gz_219_132 is_151 rd_10 rfl (by decide) rfl ?_
                    refine w_iload gz_219_135 rfl ?_
                    refine w_iald gz_219_137 is_191 rd_90 (by omega) (by omega) (fun v62 ev62 pv62 qv62 => ?_)
                    have c63 := ((my_fr.at frh27 is_151 rfl).trans ((my_fr.at frh10 is_151 rfl).trans (my_up_self fh1)))
                    have c64 := ev31.symm
                    exact w_iret gz_219_138 gm_219 (k1 h27 (v62) (gh27) (by omega) (by omega) (by omega) (by omega) (by omega) (by omega) (by omega) (by omega) (by omega) (by omega) (by omega) (by omega) (by omega) Rws_h27t28)
                  ·
                    by_cases u65 : x7 = 3
                    ·
                      refine w_tswE (t := 139) gz_219_80 u65 (by decide) (by decide) rfl rfl ?_
                      refine w_aload_n gz_219_139 rfl ?_
                      refine w_getX (v := 192) gz_219_140 is_151 rd_10 rfl (by decide) rfl ?_
                      refine w_iload gz_219_143 rfl ?_
                      refine w_iald gz_219_145 is_192 rd_91 (by omega) (by omega) (fun v67 ev67 pv67 qv67 => ?_)
                      have c68 := ((my_fr.at frh27 is_151 rfl).trans ((my_fr.at frh10 is_151 rfl).trans (my_up_self fh1)))
                      have c69 := ev31.symm
                      exact w_iret gz_219_146 gm_219 (k1 h27 (v67) (gh27) (by omega) (by omega) (by omega) (by omega) (by omega) (by omega) (by omega) (by omega) (by omega) (by omega) (by omega) (by omega) (by omega) Rws_h27t28)
                    ·
                      by_cases u70 : x7 = 4
                      ·
                        refine w_tswE (t := 147) gz_219_80 u70 (by decide) (by decide) rfl rfl ?_
                        refine w_aload_n gz_219_147 rfl ?_
                        refine w_getX (v := 193) gz_219_148 is_151 rd_10 rfl (by decide) rfl ?_
                        refine w_iload gz_219_151 rfl ?_
                        refine w_iald gz_219_153 is_193 rd_92 (by omega) (by omega) (fun v72 ev72 pv72 qv72 => ?_)
                        have c73 := ((my_fr.at frh27 is_151 rfl).trans ((my_fr.at frh10 is_151 rfl).trans (my_up_self fh1)))
                        have c74 := ev31.symm
                        exact w_iret gz_219_154 gm_219 (k1 h27 (v72) (gh27) (by omega) (by omega) (by omega) (by omega) (by omega) (by omega) (by omega) (by omega) (by omega) (by omega) (by omega) (by omega) (by omega) Rws_h27t28)
                      ·
                        refine w_tswD (t := 155) gz_219_80 (by omega) rfl ?_
                        refine w_aload_n gz_219_155 rfl ?_
                        refine w_getX (v := 194) gz_219_156 is_151 rd_10 rfl (by decide) rfl ?_
                        refine w_iload gz_219_159 rfl ?_
                        refine w_iald gz_219_161 is_194 rd_93 (by omega) (by omega) (fun v76 ev76 pv76 qv76 => ?_)
                        have c77 := ((my_fr.at frh27 is_151 rfl).trans ((my_fr.at frh10 is_151 rfl).trans (my_up_self fh1)))
                        have c78 := ev31.symm
                        exact w_iret gz_219_162 gm_219 (k1 h27 (v76) (gh27) (by omega) (by omega) (by omega) (by omega) (by omega) (by omega) (by omega) (by omega) (by omega) (by omega) (by omega) (by omega) (by omega) Rws_h27t28)
        ·
          refine w_aload_n gz_219_50 rfl ?_
          refine w_inv (k := 2) (as := []) (r := []) (x := 151) (ls0 := [(2, 151), (9, 0), (9, 0)]) gz_219_51 gm_220 rfl is_151 rd_10 rfl rfl rfl rfl rfl (c_Model_leastWay (d := (d + 5))  Wys_h27t29 (fun v79 w80 w81 xp82 => ?_))
          show wp l rho (d + 7) 219 54 [(2, 151), (0, x1), (0, x2), (0, x3), (0, x4), (0, x5), (0, x6), (0, x7), (9, 0)] [(0, v79)] h27 Q
          refine w_goto (t := 59) gz_219_54 rfl ?_
          refine w_istore (ls' := [(2, 151), (0, x1), (0, x2), (0, x3), (0, x4), (0, x5), (0, x6), (0, x7), (0, v79)]) gz_219_59 gm_219 rfl rfl rfl ?_
          refine w_iload gz_219_61 rfl ?_
          refine w_iconst gz_219_63 (by decide) ?_
          refine w_aload_n gz_219_64 rfl ?_
          refine v_getI (j := 48) gz_219_65 rfl is_151 rd_10 rfl (fun v83 ev83 pv83 qv83 => ?_)
          refine w_iconst gz_219_68 (by decide) ?_
          refine w_isub gz_219_69 ⟨by omega, by omega⟩ ?_
          refine w_inS (k := 0) (as := [(0, (v83 - 1)), (0, 0), (0, v79)]) (r := []) (ls0 := [(0, v79), (0, 0), (0, (v83 - 1))]) gz_219_70 gm_147 rfl rfl rfl rfl rfl rfl ?_
          refine w_iload_n gz_147_0 rfl ?_
          refine w_iload_n gz_147_1 rfl ?_
          refine w_iclt (t := 14) gz_147_2 rfl (fun u84 => ?_) (fun u84 => ?_)
          ·
            refine w_iconst gz_147_14 (by decide) ?_
            refine w_bret gz_147_15 gm_147 (by omega) (by omega) ?_
            show wp l rho (d + 7) 219 73 [(2, 151), (0, x1), (0, x2), (0, x3), (0, x4), (0, x5), (0, x6), (0, x7), (0, v79)] [(0, 0)] h27 Q
            refine w_ifne (t := 78) gz_219_73 rfl (fun u85 => by exfalso; omega) (fun u85 => ?_)
            refine w_iconst gz_219_76 (by decide) ?_
            have c86 := ((my_fr.at frh27 is_151 rfl).trans ((my_fr.at frh10 is_151 rfl).trans (my_up_self fh1)))
            exact w_iret gz_219_77 gm_219 (k0 h27 (gh27) (by omega) Rws_h27t28)
          ·
            refine w_iload_n gz_147_5 rfl ?_
            refine w_iload_n gz_147_6 rfl ?_
            refine w_icgt (t := 14) gz_147_7 rfl (fun u87 => ?_) (fun u87 => ?_)
            ·
              refine w_iconst gz_147_14 (by decide) ?_
              refine w_bret gz_147_15 gm_147 (by omega) (by omega) ?_
              show wp l rho (d + 7) 219 73 [(2, 151), (0, x1), (0, x2), (0, x3), (0, x4), (0, x5), (0, x6), (0, x7), (0, v79)] [(0, 0)] h27 Q
              refine w_ifne (t := 78) gz_219_73 rfl (fun u88 => by exfalso; omega) (fun u88 => ?_)
              refine w_iconst gz_219_76 (by decide) ?_
              have c89 := ((my_fr.at frh27 is_151 rfl).trans ((my_fr.at frh10 is_151 rfl).trans (my_up_self fh1)))
              exact w_iret gz_219_77 gm_219 (k0 h27 (gh27) (by omega) Rws_h27t28)
            ·
              refine w_iconst gz_147_10 (by decide) ?_
              refine w_goto (t := 15) gz_147_11 rfl ?_
              refine w_bret gz_147_15 gm_147 (by omega) (by omega) ?_
              show wp l rho (d + 7) 219 73 [(2, 151), (0, x1), (0, x2), (0, x3), (0, x4), (0, x5), (0, x6), (0, x7), (0, v79)] [(0, 1)] h27 Q
              refine w_ifne (t := 78) gz_219_73 rfl (fun u90 => ?_) (fun u90 => by exfalso; omega)
              refine w_iload gz_219_78 rfl ?_
              by_cases u91 : x7 = 0
              ·
                refine w_tswE (t := 116) gz_219_80 u91 (by decide) (by decide) rfl rfl ?_
                refine w_aload_n gz_219_116 rfl ?_
                refine w_iload gz_219_117 rfl ?_
                refine w_inv (k := 0) (as := [(0, v79)]) (r := []) (x := 151) (ls0 := [(2, 151), (0, v79)]) gz_219_119 gm_221 rfl is_151 rd_10 rfl rfl rfl rfl rfl ?_
                refine w_aload_n gz_221_0 rfl ?_
                refine w_getX (v := 190) gz_221_1 is_151 rd_10 rfl (by decide) rfl ?_
                refine w_iload_n gz_221_4 rfl ?_
                refine w_iald gz_221_5 is_190 rd_89 (by omega) (by omega) (fun v93 ev93 pv93 qv93 => ?_)
                refine w_iconst gz_221_6 (by decide) ?_
                refine w_icge (t := 19) gz_221_7 rfl (fun u94 => ?_) (fun u94 => ?_)
                ·
                  refine w_aload_n gz_221_19 rfl ?_
                  refine w_getX (v := 157) gz_221_20 is_151 rd_10 rfl (by decide) rfl ?_
                  refine w_aload_n gz_221_23 rfl ?_
                  refine w_getX (v := 191) gz_221_24 is_151 rd_10 rfl (by decide) rfl ?_
                  refine w_iload_n gz_221_27 rfl ?_
                  refine w_iald gz_221_28 is_191 rd_90 (by omega) (by omega) (fun v97 ev97 pv97 qv97 => ?_)
                  have hi98 : 0 ≤ v97 := by have q := Wys_h27t29 v79 (by omega) (by omega); omega
                  have hi99 : v97 ≤ 2 := by have q := Wys_h27t29 v79 (by omega) (by omega); omega
                  refine w_iald gz_221_29 is_157 rd_56 (by omega) (by omega) (fun v100 ev100 pv100 qv100 => ?_)
                  refine w_iret gz_221_30 gm_221 ?_
                  show wp l rho (d + 7) 219 122 [(2, 151), (0, x1), (0, x2), (0, x3), (0, x4), (0, x5), (0, x6), (0, x7), (0, v79)] [(0, v100)] h27 Q
                  have c101 := ((my_fr.at frh27 is_151 rfl).trans ((my_fr.at frh10 is_151 rfl).trans (my_up_self fh1)))
                  have c102 := ev83.symm
                  exact w_iret gz_219_122 gm_219 (k1 h27 (v100) (gh27) (by omega) (by omega) (by omega) (by omega) (by omega) (by omega) (by omega) (by omega) (by omega) (by omega) (by omega) (by omega) (by omega) Rws_h27t28)
                ·
                  refine w_aload_n gz_221_10 rfl ?_
                  refine w_getX (v := 190) gz_221_11 is_151 rd_10 rfl (by decide) rfl ?_
                  refine w_iload_n gz_221_14 rfl ?_
                  refine w_iald gz_221_15 is_190 rd_89 (by omega) (by omega) (fun v104 ev104 pv104 qv104 => ?_)
                  have zv104 := ev104.trans ev93.symm
                  refine w_goto (t := 30) gz_221_16 rfl ?_
                  refine w_iret gz_221_30 gm_221 ?_
                  show wp l rho (d + 7) 219 122 [(2, 151), (0, x1), (0, x2), (0, x3), (0, x4), (0, x5), (0, x6), (0, x7), (0, v79)] [(0, v104)] h27 Q
                  have c105 := ((my_fr.at frh27 is_151 rfl).trans ((my_fr.at frh10 is_151 rfl).trans (my_up_self fh1)))
                  have c106 := ev83.symm
                  exact w_iret gz_219_122 gm_219 (k1 h27 (v104) (gh27) (by omega) (by omega) (by omega) (by omega) (by omega) (by omega) (by omega) (by omega) (by omega) (by omega) (by omega) (by omega) (by omega) Rws_h27t28)
              ·
                by_cases u107 : x7 = 1
                ·
                  refine w_tswE (t := 123) gz_219_80 u107 (by decide) (by decide) rfl rfl ?_
                  refine w_aload_n gz_219_123 rfl ?_
                  refine w_getX (v := 190) gz_219_124 is_151 rd_10 rfl (by decide) rfl ?_
                  refine w_iload gz_219_127 rfl ?_
                  refine w_iald gz_219_129 is_190 rd_89 (by omega) (by omega) (fun v109 ev109 pv109 qv109 => ?_)
                  have c110 := ((my_fr.at frh27 is_151 rfl).trans ((my_fr.at frh10 is_151 rfl).trans (my_up_self fh1)))
                  have c111 := ev83.symm
                  exact w_iret gz_219_130 gm_219 (k1 h27 (v109) (gh27) (by omega) (by omega) (by omega) (by omega) (by omega) (by omega) (by omega) (by omega) (by omega) (by omega) (by omega) (by omega) (by omega) Rws_h27t28)
                ·
                  by_cases u112 : x7 = 2
                  ·
                    refine w_tswE (t := 131) gz_219_80 u112 (by decide) (by decide) rfl rfl ?_
                    refine w_aload_n gz_219_131 rfl ?_
                    refine w_getX (v := 191) gz_219_132 is_151 rd_10 rfl (by decide) rfl ?_
                    refine w_iload gz_219_135 rfl ?_
                    refine w_iald gz_219_137 is_191 rd_90 (by omega) (by omega) (fun v114 ev114 pv114 qv114 => ?_)
                    have c115 := ((my_fr.at frh27 is_151 rfl).trans ((my_fr.at frh10 is_151 rfl).trans (my_up_self fh1)))
                    have c116 := ev83.symm
                    exact w_iret gz_219_138 gm_219 (k1 h27 (v114) (gh27) (by omega) (by omega) (by omega) (by omega) (by omega) (by omega) (by omega) (by omega) (by omega) (by omega) (by omega) (by omega) (by omega) Rws_h27t28)
                  ·
                    by_cases u117 : x7 = 3
                    ·
                      refine w_tswE (t := 139) gz_219_80 u117 (by decide) (by decide) rfl rfl ?_
                      refine w_aload_n gz_219_139 rfl ?_
                      refine w_getX (v := 192) gz_219_140 is_151 rd_10 rfl (by decide) rfl ?_
                      refine w_iload gz_219_143 rfl ?_
                      refine w_iald gz_219_145 is_192 rd_91 (by omega) (by omega) (fun v119 ev119 pv119 qv119 => ?_)
                      have c120 := ((my_fr.at frh27 is_151 rfl).trans ((my_fr.at frh10 is_151 rfl).trans (my_up_self fh1)))
                      have c121 := ev83.symm
                      exact w_iret gz_219_146 gm_219 (k1 h27 (v119) (gh27) (by omega) (by omega) (by omega) (by omega) (by omega) (by omega) (by omega) (by omega) (by omega) (by omega) (by omega) (by omega) (by omega) Rws_h27t28)
                    ·
                      by_cases u122 : x7 = 4
                      ·
                        refine w_tswE (t := 147) gz_219_80 u122 (by decide) (by decide) rfl rfl ?_
                        refine w_aload_n gz_219_147 rfl ?_
                        refine w_getX (v := 193) gz_219_148 is_151 rd_10 rfl (by decide) rfl ?_
                        refine w_iload gz_219_151 rfl ?_
                        refine w_iald gz_219_153 is_193 rd_92 (by omega) (by omega) (fun v124 ev124 pv124 qv124 => ?_)
                        have c125 := ((my_fr.at frh27 is_151 rfl).trans ((my_fr.at frh10 is_151 rfl).trans (my_up_self fh1)))
                        have c126 := ev83.symm
                        exact w_iret gz_219_154 gm_219 (k1 h27 (v124) (gh27) (by omega) (by omega) (by omega) (by omega) (by omega) (by omega) (by omega) (by omega) (by omega) (by omega) (by omega) (by omega) (by omega) Rws_h27t28)
                      ·
                        refine w_tswD (t := 155) gz_219_80 (by omega) rfl ?_
                        refine w_aload_n gz_219_155 rfl ?_
                        refine w_getX (v := 194) gz_219_156 is_151 rd_10 rfl (by decide) rfl ?_
                        refine w_iload gz_219_159 rfl ?_
                        refine w_iald gz_219_161 is_194 rd_93 (by omega) (by omega) (fun v128 ev128 pv128 qv128 => ?_)
                        have c129 := ((my_fr.at frh27 is_151 rfl).trans ((my_fr.at frh10 is_151 rfl).trans (my_up_self fh1)))
                        have c130 := ev83.symm
                        exact w_iret gz_219_162 gm_219 (k1 h27 (v128) (gh27) (by omega) (by omega) (by omega) (by omega) (by omega) (by omega) (by omega) (by omega) (by omega) (by omega) (by omega) (by omega) (by omega) Rws_h27t28)
theorem c_Model_puts {l : Launch} {rho : Nat → Int32} {d : Nat} {h : my_H} {Q : my_H → my_V → Prop} {x1 x2 x3 x4 x5 x6 : Int} (a1 : 0 ≤ x1) (b1 : x1 ≤ 15) (n_Mw : Mw h) (n_Mw3 : Mw3 h) (n_Rws : Rws h) (s8 : x1 ≠ 8) (k0 : ∀ (h' : my_H), my_fr [(10, 27), (10, 32), (10, 33), (10, 37), (10, 46), (10, 48), (61, -1), (62, -1), (73, -1), (74, -1), (75, -1), (76, -1), (77, -1), (78, -1), (79, -1), (80, -1), (81, -1), (82, -1), (83, -1), (84, -1), (85, -1), (86, -1), (88, -1), (89, -1), (90, -1), (91, -1), (92, -1), (93, -1), (94, -1)] h h' → Rws h' → Q h' (0, (-1))) (k1 : ∀ (h' : my_H) (y : Int), my_fr [(10, 27), (10, 32), (10, 33), (10, 37), (10, 46), (10, 48), (61, -1), (62, -1), (73, -1), (74, -1), (75, -1), (76, -1), (77, -1), (78, -1), (79, -1), (80, -1), (81, -1), (82, -1), (83, -1), (84, -1), (85, -1), (86, -1), (88, -1), (89, -1), (90, -1), (91, -1), (92, -1), (93, -1), (94, -1)] h h' → 0 ≤ y → y ≤ 4 → 0 ≤ x2 → x2 ≤ 5 → 0 ≤ x3 → x3 ≤ 2 → Rws h' → Q h' (0, y)) : wp l rho (d + 7) 223 0 [(2, 151), (0, x1), (0, x2), (0, x3), (0, x4), (0, x5), (0, x6), (9, 0), (9, 0)] [] h Q := by
  refine w_aload_n gz_223_0 rfl ?_
  refine w_iload_n gz_223_1 rfl ?_
  refine w_iload_n gz_223_2 rfl ?_
  refine w_iload_n gz_223_3 rfl ?_
  refine w_iload gz_223_4 rfl ?_
  refine w_iload gz_223_6 rfl ?_
  refine w_iload gz_223_8 rfl ?_
  refine w_inv (k := 1) (as := [(0, x6), (0, x5), (0, x4), (0, x3), (0, x2), (0, x1)]) (r := []) (x := 151) (ls0 := [(2, 151), (0, x1), (0, x2), (0, x3), (0, x4), (0, x5), (0, x6), (9, 0)]) gz_223_10 gm_208 rfl is_151 rd_10 rfl rfl rfl rfl rfl (c_Model_isEdit (d := (d + 2)) (x1 := x1) (x2 := x2) (x3 := x3) (x4 := x4) (x5 := x5) (x6 := x6) (by omega) (by omega) n_Mw n_Mw3 n_Rws (fun h1 frh1 => ?_) (fun h2 frh2 w3 w4 w5 w6 xp7 xp8 xp9 xp10 xp11 xp12 xp13 xp14 => ?_))
  ·
    have gh1 : my_fr [(10, 27), (10, 32), (10, 33), (10, 37), (10, 46), (10, 48), (61, -1), (62, -1), (73, -1), (74, -1), (75, -1), (76, -1), (77, -1), (78, -1), (79, -1), (80, -1), (81, -1), (82, -1), (83, -1), (84, -1), (85, -1), (86, -1), (88, -1), (89, -1), (90, -1), (91, -1), (92, -1), (93, -1), (94, -1)] h h1 := my_fr.tr my_fr.rf (frh1.mo rfl)
    have Mw_h1 : Mw h1 := Mw_ag (my_ag.fr frh1 rfl) n_Mw
    have Mw3_h1 : Mw3 h1 := Mw3_ag (my_ag.fr frh1 rfl) n_Mw3
    have Rws_h1 : Rws h1 := Rws_ag (my_ag.fr frh1 rfl) n_Rws
    show wp l rho (d + 7) 223 13 [(2, 151), (0, x1), (0, x2), (0, x3), (0, x4), (0, x5), (0, x6), (9, 0), (9, 0)] [(0, 0)] h1 Q
    refine w_ifne (t := 18) gz_223_13 rfl (fun u15 => by exfalso; omega) (fun u15 => ?_)
    refine w_iconst gz_223_16 (by decide) ?_
    exact w_iret gz_223_17 gm_223 (k0 h1 (gh1) Rws_h1)
  ·
    have gh2 : my_fr [(10, 27), (10, 32), (10, 33), (10, 37), (10, 46), (10, 48), (61, -1), (62, -1), (73, -1), (74, -1), (75, -1), (76, -1), (77, -1), (78, -1), (79, -1), (80, -1), (81, -1), (82, -1), (83, -1), (84, -1), (85, -1), (86, -1), (88, -1), (89, -1), (90, -1), (91, -1), (92, -1), (93, -1), (94, -1)] h h2 := my_fr.tr my_fr.rf (frh2.mo rfl)
    have Mw_h2 : Mw h2 := Mw_ag (my_ag.fr frh2 rfl) n_Mw
    have Mw3_h2 : Mw3 h2 := Mw3_ag (my_ag.fr frh2 rfl) n_Mw3
    have Rws_h2 : Rws h2 := Rws_ag (my_ag.fr frh2 rfl) n_Rws
    show wp l rho (d + 7) 223 13 [(2, 151), (0, x1), (0, x2), (0, x3), (0, x4), (0, x5), (0, x6), (9, 0), (9, 0)] [(0, 1)] h2 Q
    have Fp_h2t16 : Fp h2 x2 := xp9
    refine w_ifne (t := 18) gz_223_13 rfl (fun u17 => ?_) (fun u17 => by exfalso; omega)
    refine w_aload_n gz_223_18 rfl ?_
    refine w_iload_n gz_223_19 rfl ?_
    refine w_iload_n gz_223_20 rfl ?_
    refine w_iload_n gz_223_21 rfl ?_
    refine w_iload gz_223_22 rfl ?_
    refine w_iload gz_223_24 rfl ?_
    refine w_iload gz_223_26 rfl ?_
    refine w_inv (k := 4) (as := [(0, x6), (0, x5), (0, x4), (0, x3), (0, x2), (0, x1)]) (r := []) (x := 151) (ls0 := [(2, 151), (0, x1), (0, x2), (0, x3), (0, x4), (0, x5), (0, x6), (9, 0), (9, 0), (9, 0), (9, 0)]) gz_223_28 gm_209 rfl is_151 rd_10 rfl rfl rfl rfl rfl (c_Model_findWays (d := d) (x1 := x1) (x2 := x2) (x3 := x3) (x4 := x4) (x5 := x5) (x6 := x6) (by omega) (by omega) (by omega) (by omega) (by omega) (by omega) Mw_h2 Mw3_h2 Rws_h2 Fp_h2t16 (by first | assumption | exact Fp_h2t16 | exact Fp_told (by omega) (by omega) | omega | (subst_vars; omega) | omega) (by first | assumption | exact Fp_h2t16 | exact Fp_told (by omega) (by omega) | omega | (subst_vars; omega) | omega) (fun h18 frh18 Rws_h18t19 Wys_h18t20 => ?_))
    have gh18 : my_fr [(10, 27), (10, 32), (10, 33), (10, 37), (10, 46), (10, 48), (61, -1), (62, -1), (73, -1), (74, -1), (75, -1), (76, -1), (77, -1), (78, -1), (79, -1), (80, -1), (81, -1), (82, -1), (83, -1), (84, -1), (85, -1), (86, -1), (88, -1), (89, -1), (90, -1), (91, -1), (92, -1), (93, -1), (94, -1)] h h18 := my_fr.tr gh2 (frh18.mo rfl)
    have Mw_h18 : Mw h18 := Mw_ag (my_ag.fr frh18 rfl) Mw_h2
    have Mw3_h18 : Mw3 h18 := Mw3_ag (my_ag.fr frh18 rfl) Mw3_h2
    have Fp_h18 : Fp h18 x2 := Fp_ag (my_ag.fr frh18 rfl) Fp_h2t16
    show wp l rho (d + 7) 223 31 [(2, 151), (0, x1), (0, x2), (0, x3), (0, x4), (0, x5), (0, x6), (9, 0), (9, 0)] [] h18 Q
    refine w_aload_n gz_223_31 rfl ?_
    refine w_inv (k := 2) (as := []) (r := []) (x := 151) (ls0 := [(2, 151), (9, 0), (9, 0)]) gz_223_32 gm_220 rfl is_151 rd_10 rfl rfl rfl rfl rfl (c_Model_leastWay (d := (d + 5))  Wys_h18t20 (fun v21 w22 w23 xp24 => ?_))
    show wp l rho (d + 7) 223 35 [(2, 151), (0, x1), (0, x2), (0, x3), (0, x4), (0, x5), (0, x6), (9, 0), (9, 0)] [(0, v21)] h18 Q
    refine w_istore (ls' := [(2, 151), (0, x1), (0, x2), (0, x3), (0, x4), (0, x5), (0, x6), (0, v21), (9, 0)]) gz_223_35 gm_223 rfl rfl rfl ?_
    refine w_iload gz_223_37 rfl ?_
    refine w_ifge (t := 44) gz_223_39 rfl (fun u25 => ?_) (fun u25 => ?_)
    ·
      refine v_know (x := 151) (j := 48) (b := 48) rfl is_151 rd_10 rfl (fun k48 ek48 pk48 qk48 => ?_)
      have wq := Wys_h18t20 v21 (by omega) (by omega)
      refine w_aload_n gz_223_44 rfl ?_
      refine w_getX (v := 190) gz_223_45 is_151 rd_10 rfl (by decide) rfl ?_
      refine w_iload gz_223_48 rfl ?_
      have hi27 : 0 ≤ v21 := by omega
      have hi28 : v21 ≤ 1799 := by omega
      refine w_iald gz_223_50 is_190 rd_89 (by omega) (by omega) (fun v29 ev29 pv29 qv29 => ?_)
      refine w_iconst gz_223_51 (by decide) ?_
      refine w_icne (t := 98) gz_223_52 rfl (fun u30 => ?_) (fun u30 => ?_)
      ·
        refine w_aload_n gz_223_98 rfl ?_
        refine w_getX (v := 190) gz_223_99 is_151 rd_10 rfl (by decide) rfl ?_
        refine w_iload gz_223_102 rfl ?_
        refine w_iald gz_223_104 is_190 rd_89 (by omega) (by omega) (fun v32 ev32 pv32 qv32 => ?_)
        have zv32 := ev32.trans ev29.symm
        refine w_iconst gz_223_105 (by decide) ?_
        refine w_icne (t := 136) gz_223_106 rfl (fun u33 => ?_) (fun u33 => ?_)
        ·
          refine w_aload_n gz_223_136 rfl ?_
          refine w_getX (v := 190) gz_223_137 is_151 rd_10 rfl (by decide) rfl ?_
          refine w_iload gz_223_140 rfl ?_
          refine w_iald gz_223_142 is_190 rd_89 (by omega) (by omega) (fun v35 ev35 pv35 qv35 => ?_)
          have zv35 := ev35.trans ev32.symm
          refine w_iconst gz_223_143 (by decide) ?_
          refine w_icne (t := 155) gz_223_144 rfl (fun u36 => ?_) (fun u36 => ?_)
          ·
            refine w_aload_n gz_223_155 rfl ?_
            refine w_iload gz_223_156 rfl ?_
            refine w_inv (k := 0) (as := [(0, v21)]) (r := []) (x := 151) (ls0 := [(2, 151), (0, v21)]) gz_223_158 gm_221 rfl is_151 rd_10 rfl rfl rfl rfl rfl ?_
            refine w_aload_n gz_221_0 rfl ?_
            refine w_getX (v := 190) gz_221_1 is_151 rd_10 rfl (by decide) rfl ?_
            refine w_iload_n gz_221_4 rfl ?_
            refine w_iald gz_221_5 is_190 rd_89 (by omega) (by omega) (fun v38 ev38 pv38 qv38 => ?_)
            have zv38 := ev38.trans ev35.symm
            refine w_iconst gz_221_6 (by decide) ?_
            refine w_icge (t := 19) gz_221_7 rfl (fun u39 => ?_) (fun u39 => ?_)
            ·
              refine w_aload_n gz_221_19 rfl ?_
              refine w_getX (v := 157) gz_221_20 is_151 rd_10 rfl (by decide) rfl ?_
              refine w_aload_n gz_221_23 rfl ?_
              refine w_getX (v := 191) gz_221_24 is_151 rd_10 rfl (by decide) rfl ?_
              refine w_iload_n gz_221_27 rfl ?_
              refine w_iald gz_221_28 is_191 rd_90 (by omega) (by omega) (fun v42 ev42 pv42 qv42 => ?_)
              have hi43 : 0 ≤ v42 := by have q := Wys_h18t20 v21 (by omega) (by omega); omega
              have hi44 : v42 ≤ 2 := by have q := Wys_h18t20 v21 (by omega) (by omega); omega
              refine w_iald gz_221_29 is_157 rd_56 (by omega) (by omega) (fun v45 ev45 pv45 qv45 => ?_)
              refine w_iret gz_221_30 gm_221 ?_
              show wp l rho (d + 7) 223 161 [(2, 151), (0, x1), (0, x2), (0, x3), (0, x4), (0, x5), (0, x6), (0, v21), (9, 0)] [(0, v45)] h18 Q
              exact w_iret gz_223_161 gm_223 (k1 h18 (v45) (gh18) (by omega) (by omega) (by omega) (by omega) (by omega) (by omega) Rws_h18t19)
            ·
              refine w_aload_n gz_221_10 rfl ?_
              refine w_getX (v := 190) gz_221_11 is_151 rd_10 rfl (by decide) rfl ?_
              refine w_iload_n gz_221_14 rfl ?_
              refine w_iald gz_221_15 is_190 rd_89 (by omega) (by omega) (fun v47 ev47 pv47 qv47 => ?_)
              have zv47 := ev47.trans ev38.symm
              refine w_goto (t := 30) gz_221_16 rfl ?_
              refine w_iret gz_221_30 gm_221 ?_
              show wp l rho (d + 7) 223 161 [(2, 151), (0, x1), (0, x2), (0, x3), (0, x4), (0, x5), (0, x6), (0, v21), (9, 0)] [(0, v47)] h18 Q
              exact w_iret gz_223_161 gm_223 (k1 h18 (v47) (gh18) (by omega) (by omega) (by omega) (by omega) (by omega) (by omega) Rws_h18t19)
          ·
            refine w_aload_n gz_223_147 rfl ?_
            refine w_iload_n gz_223_148 rfl ?_
            refine w_iload_n gz_223_149 rfl ?_
            refine w_inv (k := 0) (as := [(0, x2), (0, x1)]) (r := []) (x := 151) (ls0 := [(2, 151), (0, x1), (0, x2)]) gz_223_150 gm_216 rfl is_151 rd_10 rfl rfl rfl rfl rfl (c_Model_comes (d := (d + 3)) (x1 := x1) (x2 := x2) (by omega) (by omega) (by omega) (by omega) Mw_h18 Rws_h18t19 (by first | assumption | exact Fp_h18 | exact Fp_told (by omega) (by omega) | omega | (subst_vars; omega) | omega) (fun h48 frh48 Rws_h48t49 => ?_) (fun h50 frh50 Rws_h50t51 => ?_))
            ·
              have gh48 : my_fr [(10, 27), (10, 32), (10, 33), (10, 37), (10, 46), (10, 48), (61, -1), (62, -1), (73, -1), (74, -1), (75, -1), (76, -1), (77, -1), (78, -1), (79, -1), (80, -1), (81, -1), (82, -1), (83, -1), (84, -1), (85, -1), (86, -1), (88, -1), (89, -1), (90, -1), (91, -1), (92, -1), (93, -1), (94, -1)] h h48 := my_fr.tr gh18 (frh48.mo rfl)
              have Mw_h48 : Mw h48 := Mw_ag (my_ag.fr frh48 rfl) Mw_h18
              have Mw3_h48 : Mw3 h48 := Mw3_ag (my_ag.fr frh48 rfl) Mw3_h18
              have Fp_h48 : Fp h48 x2 := Fp_ag (my_ag.fr frh48 rfl) Fp_h18
              have Wys_h48 : Wys h48 := Wys_ag (my_ag.fr frh48 rfl) Wys_h18t20
              show wp l rho (d + 7) 223 153 [(2, 151), (0, x1), (0, x2), (0, x3), (0, x4), (0, x5), (0, x6), (0, v21), (9, 0)] [(0, 0)] h48 Q
              refine w_istore (ls' := [(2, 151), (0, x1), (0, x2), (0, x3), (0, x4), (0, x5), (0, x6), (0, v21), (0, 0)]) gz_223_153 gm_223 rfl rfl rfl ?_
              refine w_aload_n gz_223_155 rfl ?_
              refine w_iload gz_223_156 rfl ?_
              have ce52 : h48 151 48 = h18 151 48 := ((my_fr.at frh48 is_151 rfl).trans (rfl : h18 151 48 = h18 151 48))
              refine w_inv (k := 0) (as := [(0, v21)]) (r := []) (x := 151) (ls0 := [(2, 151), (0, v21)]) gz_223_158 gm_221 rfl is_151 rd_10 rfl rfl rfl rfl rfl ?_
              refine w_aload_n gz_221_0 rfl ?_
              refine w_getX (v := 190) gz_221_1 is_151 rd_10 rfl (by decide) rfl ?_
              refine w_iload_n gz_221_4 rfl ?_
              refine w_iald gz_221_5 is_190 rd_89 (by omega) (by omega) (fun v54 ev54 pv54 qv54 => ?_)
              have zv54 := ev54.trans ((my_fr.at frh48 is_190 rfl).trans ev35.symm)
              refine w_iconst gz_221_6 (by decide) ?_
              refine w_icge (t := 19) gz_221_7 rfl (fun u55 => ?_) (fun u55 => by exfalso; omega)
              refine w_aload_n gz_221_19 rfl ?_
              refine w_getX (v := 157) gz_221_20 is_151 rd_10 rfl (by decide) rfl ?_
              refine w_aload_n gz_221_23 rfl ?_
              refine w_getX (v := 191) gz_221_24 is_151 rd_10 rfl (by decide) rfl ?_
              refine w_iload_n gz_221_27 rfl ?_
              refine w_iald gz_221_28 is_191 rd_90 (by omega) (by omega) (fun v58 ev58 pv58 qv58 => ?_)
              have hi59 : 0 ≤ v58 := by have q := Wys_h48 v21 (by omega) (by omega); omega
              have hi60 : v58 ≤ 2 := by have q := Wys_h48 v21 (by omega) (by omega); omega
              refine w_iald gz_221_29 is_157 rd_56 (by omega) (by omega) (fun v61 ev61 pv61 qv61 => ?_)
              refine w_iret gz_221_30 gm_221 ?_
              show wp l rho (d + 7) 223 161 [(2, 151), (0, x1), (0, x2), (0, x3), (0, x4), (0, x5), (0, x6), (0, v21), (0, 0)] [(0, v61)] h48 Q
              exact w_iret gz_223_161 gm_223 (k1 h48 (v61) (gh48) (by omega) (by omega) (by omega) (by omega) (by omega) (by omega) Rws_h48t49)
            ·
              have gh50 : my_fr [(10, 27), (10, 32), (10, 33), (10, 37), (10, 46), (10, 48), (61, -1), (62, -1), (73, -1), (74, -1), (75, -1), (76, -1), (77, -1), (78, -1), (79, -1), (80, -1), (81, -1), (82, -1), (83, -1), (84, -1), (85, -1), (86, -1), (88, -1), (89, -1), (90, -1), (91, -1), (92, -1), (93, -1), (94, -1)] h h50 := my_fr.tr gh18 (frh50.mo rfl)
              have Mw_h50 : Mw h50 := Mw_ag (my_ag.fr frh50 rfl) Mw_h18
              have Mw3_h50 : Mw3 h50 := Mw3_ag (my_ag.fr frh50 rfl) Mw3_h18
              have Fp_h50 : Fp h50 x2 := Fp_ag (my_ag.fr frh50 rfl) Fp_h18
              have Wys_h50 : Wys h50 := Wys_ag (my_ag.fr frh50 rfl) Wys_h18t20
              show wp l rho (d + 7) 223 153 [(2, 151), (0, x1), (0, x2), (0, x3), (0, x4), (0, x5), (0, x6), (0, v21), (9, 0)] [(0, 1)] h50 Q
              refine w_istore (ls' := [(2, 151), (0, x1), (0, x2), (0, x3), (0, x4), (0, x5), (0, x6), (0, v21), (0, 1)]) gz_223_153 gm_223 rfl rfl rfl ?_
              refine w_aload_n gz_223_155 rfl ?_
              refine w_iload gz_223_156 rfl ?_
              have ce62 : h50 151 48 = h18 151 48 := ((my_fr.at frh50 is_151 rfl).trans (rfl : h18 151 48 = h18 151 48))
              refine w_inv (k := 0) (as := [(0, v21)]) (r := []) (x := 151) (ls0 := [(2, 151), (0, v21)]) gz_223_158 gm_221 rfl is_151 rd_10 rfl rfl rfl rfl rfl ?_
              refine w_aload_n gz_221_0 rfl ?_
              refine w_getX (v := 190) gz_221_1 is_151 rd_10 rfl (by decide) rfl ?_
              refine w_iload_n gz_221_4 rfl ?_
              refine w_iald gz_221_5 is_190 rd_89 (by omega) (by omega) (fun v64 ev64 pv64 qv64 => ?_)
              have zv64 := ev64.trans ((my_fr.at frh50 is_190 rfl).trans ev35.symm)
              refine w_iconst gz_221_6 (by decide) ?_
              refine w_icge (t := 19) gz_221_7 rfl (fun u65 => ?_) (fun u65 => by exfalso; omega)
              refine w_aload_n gz_221_19 rfl ?_
              refine w_getX (v := 157) gz_221_20 is_151 rd_10 rfl (by decide) rfl ?_
              refine w_aload_n gz_221_23 rfl ?_
              refine w_getX (v := 191) gz_221_24 is_151 rd_10 rfl (by decide) rfl ?_
              refine w_iload_n gz_221_27 rfl ?_
              refine w_iald gz_221_28 is_191 rd_90 (by omega) (by omega) (fun v68 ev68 pv68 qv68 => ?_)
              have hi69 : 0 ≤ v68 := by have q := Wys_h50 v21 (by omega) (by omega); omega
              have hi70 : v68 ≤ 2 := by have q := Wys_h50 v21 (by omega) (by omega); omega
              refine w_iald gz_221_29 is_157 rd_56 (by omega) (by omega) (fun v71 ev71 pv71 qv71 => ?_)
              refine w_iret gz_221_30 gm_221 ?_
              show wp l rho (d + 7) 223 161 [(2, 151), (0, x1), (0, x2), (0, x3), (0, x4), (0, x5), (0, x6), (0, v21), (0, 1)] [(0, v71)] h50 Q
              exact w_iret gz_223_161 gm_223 (k1 h50 (v71) (gh50) (by omega) (by omega) (by omega) (by omega) (by omega) (by omega) Rws_h50t51)
        ·
          refine w_aload_n gz_223_109 rfl ?_
          refine w_getX (v := 162) gz_223_110 is_151 rd_10 rfl (by decide) rfl ?_
          refine w_iload_n gz_223_113 rfl ?_
          refine w_aload_n gz_223_114 rfl ?_
          refine w_getX (v := 191) gz_223_115 is_151 rd_10 rfl (by decide) rfl ?_
          refine w_iload gz_223_118 rfl ?_
          refine w_iald gz_223_120 is_191 rd_90 (by omega) (by omega) (fun v74 ev74 pv74 qv74 => ?_)
          refine w_aload_n gz_223_121 rfl ?_
          refine w_getX (v := 192) gz_223_122 is_151 rd_10 rfl (by decide) rfl ?_
          refine w_iload gz_223_125 rfl ?_
          refine w_iald gz_223_127 is_192 rd_91 (by omega) (by omega) (fun v76 ev76 pv76 qv76 => ?_)
          refine w_inS (k := 0) (as := [(0, v76), (0, v74), (0, x1)]) (r := [(2, 162)]) (ls0 := [(0, x1), (0, v74), (0, v76)]) gz_223_128 gm_150 rfl rfl rfl rfl rfl rfl ?_
          refine w_bipush gz_150_0 (by decide) ?_
          refine w_iload_n gz_150_2 rfl ?_
          refine w_imul gz_150_3 ⟨by omega, by omega⟩ ?_
          refine w_bipush gz_150_4 (by decide) ?_
          refine w_iload_n gz_150_6 rfl ?_
          refine w_imul gz_150_7 ⟨by omega, by omega⟩ ?_
          refine w_iadd gz_150_8 ⟨by omega, by omega⟩ ?_
          refine w_iload_n gz_150_9 rfl ?_
          refine w_iadd gz_150_10 ⟨by omega, by omega⟩ ?_
          refine w_iret gz_150_11 gm_150 ?_
          show wp l rho (d + 7) 223 131 [(2, 151), (0, x1), (0, x2), (0, x3), (0, x4), (0, x5), (0, x6), (0, v21), (9, 0)] [(0, (((60 * x1) + (20 * v74)) + v76)), (2, 162)] h18 Q
          refine w_iconst gz_223_131 (by decide) ?_
          refine v_knowA (x := 162) is_162 rd_61 (fun kT2 => ?_)
          have q2 := (kT2 (((60 * x1) + (20 * v74)) + v76) (by omega) (by omega)).1
          have hi77 : 0 ≤ (((60 * x1) + (20 * v74)) + v76) := by omega
          have hi78 : (((60 * x1) + (20 * v74)) + v76) ≤ 959 := by omega
          refine w_bast gz_223_132 is_162 rd_61 (by omega) (by omega) (by omega) (by omega) (fun h79 fh79 => ?_)
          have gh79 : my_fr [(10, 27), (10, 32), (10, 33), (10, 37), (10, 46), (10, 48), (61, -1), (62, -1), (73, -1), (74, -1), (75, -1), (76, -1), (77, -1), (78, -1), (79, -1), (80, -1), (81, -1), (82, -1), (83, -1), (84, -1), (85, -1), (86, -1), (88, -1), (89, -1), (90, -1), (91, -1), (92, -1), (93, -1), (94, -1)] h h79 := my_fr.up gh18 is_162 fh79 rfl
          have Mw_h79 : Mw h79 := Mw_ag (my_ag.up fh79 is_162 rfl) Mw_h18
          have Mw3_h79 : Mw3 h79 := Mw3_ag (my_ag.up fh79 is_162 rfl) Mw3_h18
          have Fp_h79 : Fp h79 x2 := Fp_ag (my_ag.up fh79 is_162 rfl) Fp_h18
          have Wys_h79 : Wys h79 := Wys_ag (my_ag.up fh79 is_162 rfl) Wys_h18t20
          have Rws_h79t80 : Rws h79 := Rws_off fh79 (by omega) Rws_h18t19
          refine w_goto (t := 155) gz_223_133 rfl ?_
          refine w_aload_n gz_223_155 rfl ?_
          refine w_iload gz_223_156 rfl ?_
          have ce81 : h79 151 48 = h18 151 48 := ((my_up_role fh79 is_151 is_162 rfl).trans (rfl : h18 151 48 = h18 151 48))
          refine w_inv (k := 0) (as := [(0, v21)]) (r := []) (x := 151) (ls0 := [(2, 151), (0, v21)]) gz_223_158 gm_221 rfl is_151 rd_10 rfl rfl rfl rfl rfl ?_
          refine w_aload_n gz_221_0 rfl ?_
          refine w_getX (v := 190) gz_221_1 is_151 rd_10 rfl (by decide) rfl ?_
          refine w_iload_n gz_221_4 rfl ?_
          refine w_iald gz_221_5 is_190 rd_89 (by omega) (by omega) (fun v83 ev83 pv83 qv83 => ?_)
          have zv83 := ev83.trans ((my_up_role fh79 is_190 is_162 rfl).trans ev32.symm)
          refine w_iconst gz_221_6 (by decide) ?_
          refine w_icge (t := 19) gz_221_7 rfl (fun u84 => ?_) (fun u84 => by exfalso; omega)
          refine w_aload_n gz_221_19 rfl ?_
          refine w_getX (v := 157) gz_221_20 is_151 rd_10 rfl (by decide) rfl ?_
          refine w_aload_n gz_221_23 rfl ?_
          refine w_getX (v := 191) gz_221_24 is_151 rd_10 rfl (by decide) rfl ?_
          refine w_iload_n gz_221_27 rfl ?_
          refine w_iald gz_221_28 is_191 rd_90 (by omega) (by omega) (fun v87 ev87 pv87 qv87 => ?_)
          have zv87 := ev87.trans ((my_up_role fh79 is_191 is_162 rfl).trans ev74.symm)
          have hi88 : 0 ≤ v87 := by have q := Wys_h79 v21 (by omega) (by omega); omega
          have hi89 : v87 ≤ 2 := by have q := Wys_h79 v21 (by omega) (by omega); omega
          refine w_iald gz_221_29 is_157 rd_56 (by omega) (by omega) (fun v90 ev90 pv90 qv90 => ?_)
          refine w_iret gz_221_30 gm_221 ?_
          show wp l rho (d + 7) 223 161 [(2, 151), (0, x1), (0, x2), (0, x3), (0, x4), (0, x5), (0, x6), (0, v21), (9, 0)] [(0, v90)] h79 Q
          exact w_iret gz_223_161 gm_223 (k1 h79 (v90) (gh79) (by omega) (by omega) (by omega) (by omega) (by omega) (by omega) Rws_h79t80)
      ·
        refine w_aload_n gz_223_55 rfl ?_
        refine w_getX (v := 163) gz_223_56 is_151 rd_10 rfl (by decide) rfl ?_
        refine w_iconst gz_223_59 (by decide) ?_
        refine w_iload_n gz_223_60 rfl ?_
        refine w_aload_n gz_223_61 rfl ?_
        refine w_getX (v := 191) gz_223_62 is_151 rd_10 rfl (by decide) rfl ?_
        refine w_iload gz_223_65 rfl ?_
        have hi93 : 0 ≤ v21 := by omega
        have hi94 : v21 ≤ 1799 := by omega
        refine w_iald gz_223_67 is_191 rd_90 (by omega) (by omega) (fun v95 ev95 pv95 qv95 => ?_)
        refine w_aload_n gz_223_68 rfl ?_
        refine w_getX (v := 192) gz_223_69 is_151 rd_10 rfl (by decide) rfl ?_
        refine w_iload gz_223_72 rfl ?_
        refine w_iald gz_223_74 is_192 rd_91 (by omega) (by omega) (fun v97 ev97 pv97 qv97 => ?_)
        refine w_inS (k := 0) (as := [(0, v97), (0, v95), (0, x1)]) (r := [(0, 4), (2, 163)]) (ls0 := [(0, x1), (0, v95), (0, v97)]) gz_223_75 gm_150 rfl rfl rfl rfl rfl rfl ?_
        refine w_bipush gz_150_0 (by decide) ?_
        refine w_iload_n gz_150_2 rfl ?_
        refine w_imul gz_150_3 ⟨by omega, by omega⟩ ?_
        refine w_bipush gz_150_4 (by decide) ?_
        refine w_iload_n gz_150_6 rfl ?_
        refine w_imul gz_150_7 ⟨by omega, by omega⟩ ?_
        refine w_iadd gz_150_8 ⟨by omega, by omega⟩ ?_
        refine w_iload_n gz_150_9 rfl ?_
        refine w_iadd gz_150_10 ⟨by omega, by omega⟩ ?_
        refine w_iret gz_150_11 gm_150 ?_
        show wp l rho (d + 7) 223 78 [(2, 151), (0, x1), (0, x2), (0, x3), (0, x4), (0, x5), (0, x6), (0, v21), (9, 0)] [(0, (((60 * x1) + (20 * v95)) + v97)), (0, 4), (2, 163)] h18 Q
        refine w_imul gz_223_78 ⟨by omega, by omega⟩ ?_
        refine w_aload_n gz_223_79 rfl ?_
        refine w_getX (v := 193) gz_223_80 is_151 rd_10 rfl (by decide) rfl ?_
        refine w_iload gz_223_83 rfl ?_
        refine w_iald gz_223_85 is_193 rd_92 (by omega) (by omega) (fun v99 ev99 pv99 qv99 => ?_)
        refine w_iadd gz_223_86 ⟨by omega, by omega⟩ ?_
        refine w_aload_n gz_223_87 rfl ?_
        refine w_getX (v := 194) gz_223_88 is_151 rd_10 rfl (by decide) rfl ?_
        refine w_iload gz_223_91 rfl ?_
        refine w_iald gz_223_93 is_194 rd_93 (by omega) (by omega) (fun v101 ev101 pv101 qv101 => ?_)
        have hi102 : 0 ≤ ((4 * (((60 * x1) + (20 * v95)) + v97)) + v99) := by omega
        have hi103 : ((4 * (((60 * x1) + (20 * v95)) + v97)) + v99) ≤ 3839 := by omega
        have hi104 : 0 ≤ v101 := by omega
        have hi105 : v101 ≤ 19 := by omega
        refine w_iast gz_223_94 is_163 rd_62 (by omega) (by omega) (by omega) (by omega) (fun h106 fh106 => ?_)
        have gh106 : my_fr [(10, 27), (10, 32), (10, 33), (10, 37), (10, 46), (10, 48), (61, -1), (62, -1), (73, -1), (74, -1), (75, -1), (76, -1), (77, -1), (78, -1), (79, -1), (80, -1), (81, -1), (82, -1), (83, -1), (84, -1), (85, -1), (86, -1), (88, -1), (89, -1), (90, -1), (91, -1), (92, -1), (93, -1), (94, -1)] h h106 := my_fr.up gh18 is_163 fh106 rfl
        have Mw_h106 : Mw h106 := Mw_ag (my_ag.up fh106 is_163 rfl) Mw_h18
        have Mw3_h106 : Mw3 h106 := Mw3_ag (my_ag.up fh106 is_163 rfl) Mw3_h18
        have Fp_h106 : Fp h106 x2 := Fp_ag (my_ag.up fh106 is_163 rfl) Fp_h18
        have Rws_h106 : Rws h106 := Rws_ag (my_ag.up fh106 is_163 rfl) Rws_h18t19
        have Wys_h106 : Wys h106 := Wys_ag (my_ag.up fh106 is_163 rfl) Wys_h18t20
        refine w_goto (t := 155) gz_223_95 rfl ?_
        refine w_aload_n gz_223_155 rfl ?_
        refine w_iload gz_223_156 rfl ?_
        have ce107 : h106 151 48 = h18 151 48 := ((my_up_role fh106 is_151 is_163 rfl).trans (rfl : h18 151 48 = h18 151 48))
        refine w_inv (k := 0) (as := [(0, v21)]) (r := []) (x := 151) (ls0 := [(2, 151), (0, v21)]) gz_223_158 gm_221 rfl is_151 rd_10 rfl rfl rfl rfl rfl ?_
        refine w_aload_n gz_221_0 rfl ?_
        refine w_getX (v := 190) gz_221_1 is_151 rd_10 rfl (by decide) rfl ?_
        refine w_iload_n gz_221_4 rfl ?_
        refine w_iald gz_221_5 is_190 rd_89 (by omega) (by omega) (fun v109 ev109 pv109 qv109 => ?_)
        have zv109 := ev109.trans ((my_up_role fh106 is_190 is_163 rfl).trans ev29.symm)
        refine w_iconst gz_221_6 (by decide) ?_
        refine w_icge (t := 19) gz_221_7 rfl (fun u110 => by exfalso; omega) (fun u110 => ?_)
        refine w_aload_n gz_221_10 rfl ?_
        refine w_getX (v := 190) gz_221_11 is_151 rd_10 rfl (by decide) rfl ?_
        refine w_iload_n gz_221_14 rfl ?_
        refine w_iald gz_221_15 is_190 rd_89 (by omega) (by omega) (fun v112 ev112 pv112 qv112 => ?_)
        have zv112 := ev112.trans ev109.symm
        refine w_goto (t := 30) gz_221_16 rfl ?_
        refine w_iret gz_221_30 gm_221 ?_
        show wp l rho (d + 7) 223 161 [(2, 151), (0, x1), (0, x2), (0, x3), (0, x4), (0, x5), (0, x6), (0, v21), (9, 0)] [(0, v112)] h106 Q
        exact w_iret gz_223_161 gm_223 (k1 h106 (v112) (gh106) (by omega) (by omega) (by omega) (by omega) (by omega) (by omega) Rws_h106)
    ·
      refine w_iconst gz_223_42 (by decide) ?_
      exact w_iret gz_223_43 gm_223 (k0 h18 (gh18) Rws_h18t19)
theorem c_Model_barred {l : Launch} {rho : Nat → Int32} {d : Nat} {h : my_H} {Q : my_H → my_V → Prop} {x1 x2 x3 x4 x5 x6 : Int} (n_Mw : Mw h) (n_Mw3 : Mw3 h) (n_Rws : Rws h) (k0 : ∀ (h' : my_H), my_fr [(10, 0), (10, 27), (10, 32), (10, 33), (10, 37), (61, -1), (62, -1), (73, -1), (74, -1), (75, -1), (76, -1), (77, -1), (78, -1), (79, -1), (80, -1), (81, -1), (82, -1), (83, -1), (84, -1), (85, -1), (86, -1), (94, -1)] h h' → h' 151 0 = 0 → Rws h' → Q h' (0, (-1))) (k1 : ∀ (h' : my_H) (y : Int), my_fr [(10, 0), (10, 27), (10, 32), (10, 33), (10, 37), (61, -1), (62, -1), (73, -1), (74, -1), (75, -1), (76, -1), (77, -1), (78, -1), (79, -1), (80, -1), (81, -1), (82, -1), (83, -1), (84, -1), (85, -1), (86, -1), (94, -1)] h h' → 0 ≤ y → y ≤ 3 → 0 ≤ x1 → x1 ≤ 5 → 0 ≤ x2 → x2 ≤ 2 → 0 ≤ x6 → x6 ≤ 2 → h' 151 0 = 0 → Rws h' → Q h' (0, y)) : wp l rho (d + 5) 224 0 [(2, 151), (0, x1), (0, x2), (0, x3), (0, x4), (0, x5), (0, x6), (9, 0), (9, 0), (9, 0), (9, 0)] [] h Q := by
  have J49_0 : ∀ (n : Nat) (p49_0 : Int) (h49_0 : my_H), my_fr [(10, 0), (10, 27), (10, 32), (10, 33), (10, 37), (61, -1), (62, -1), (73, -1), (74, -1), (75, -1), (76, -1), (77, -1), (78, -1), (79, -1), (80, -1), (81, -1), (82, -1), (83, -1), (84, -1), (85, -1), (86, -1), (94, -1)] h h49_0 → 0 ≤ x1 → x1 ≤ 5 → 0 ≤ x2 → x2 ≤ 2 → 0 ≤ x6 → x6 ≤ 2 → 0 ≤ p49_0 → p49_0 ≤ 12 → h49_0 151 0 = 0 → Mw h49_0 → Mw3 h49_0 → Rws h49_0 → 13 - p49_0 ≤ (n : Int) → wp l rho (d + 5) 224 49 [(2, 151), (0, x1), (0, x2), (0, x3), (0, x4), (0, x5), (0, x6), (0, p49_0), (9, 0), (9, 0), (9, 0)] [] h49_0 Q := by
    intro n
    induction n with
    | zero => intro p49_0 h49_0 gh_49_0 q0_49_0 q1_49_0 q2_49_0 q3_49_0 q4_49_0 q5_49_0 q6_49_0 q7_49_0 c151_0_49_0 n_Mw_49_0 n_Mw3_49_0 n_Rws_49_0 hm_49_0; exfalso; omega
    | succ n ih_49_0 =>
      intro p49_0 h49_0 gh_49_0 q0_49_0 q1_49_0 q2_49_0 q3_49_0 q4_49_0 q5_49_0 q6_49_0 q7_49_0 c151_0_49_0 n_Mw_49_0 n_Mw3_49_0 n_Rws_49_0 hm_49_0
      have J151_0 : ∀ (p151_0 p151_1 : Int) (h151_0 : my_H), my_fr [(10, 0), (10, 27), (10, 32), (10, 33), (10, 37), (61, -1), (62, -1), (73, -1), (74, -1), (75, -1), (76, -1), (77, -1), (78, -1), (79, -1), (80, -1), (81, -1), (82, -1), (83, -1), (84, -1), (85, -1), (86, -1), (94, -1)] h h151_0 → p49_0 ≤ 11 → 1 ≤ p151_0 → p151_0 ≤ 4 → 0 ≤ p151_1 → p151_1 ≤ 20 → h151_0 151 0 = 0 → Mw h151_0 → Mw3 h151_0 → Rws h151_0 → wp l rho (d + 5) 224 151 [(2, 151), (0, x1), (0, x2), (0, x3), (0, x4), (0, x5), (0, x6), (0, p49_0), (0, p151_0), (0, p151_1), (9, 0)] [] h151_0 Q := by
        intro p151_0 p151_1 h151_0 gh_151_0 q0_151_0 q1_151_0 q2_151_0 q3_151_0 q4_151_0 c151_0_151_0 n_Mw_151_0 n_Mw3_151_0 n_Rws_151_0
        refine w_iload gz_224_151 rfl ?_
        refine w_iconst gz_224_153 (by decide) ?_
        refine w_icge (t := 185) gz_224_154 rfl (fun u1 => ?_) (fun u1 => ?_)
        ·
          refine w_iinc (ls' := [(2, 151), (0, x1), (0, x2), (0, x3), (0, x4), (0, x5), (0, x6), (0, (p49_0 + 1)), (0, p151_0), (0, p151_1), (9, 0)]) gz_224_185 rfl gm_224 rfl rfl rfl ⟨by omega, by omega⟩ ?_
          refine w_goto (t := 49) gz_224_188 rfl ?_
          refine w_weak (ls' := [(2, 151), (0, x1), (0, x2), (0, x3), (0, x4), (0, x5), (0, x6), (0, (p49_0 + 1)), (9, 0), (9, 0), (9, 0)]) (wk_e (wk_e (wk_e (wk_e (wk_e (wk_e (wk_e (wk_e (wk_9 (wk_9 (wk_9 wk_n))))))))))) ?_
          exact ih_49_0 ((p49_0 + 1)) h151_0 (gh_151_0) (by omega) (by omega) (by omega) (by omega) (by omega) (by omega) (by omega) (by omega) (c151_0_151_0.trans (by omega)) n_Mw_151_0 n_Mw3_151_0 n_Rws_151_0 (by omega)
        ·
          refine w_iload gz_224_157 rfl ?_
          refine w_ifne (t := 169) gz_224_159 rfl (fun u2 => ?_) (fun u2 => ?_)
          ·
            refine w_iload gz_224_169 rfl ?_
            refine w_iconst gz_224_171 (by decide) ?_
            refine w_icne (t := 182) gz_224_172 rfl (fun u3 => ?_) (fun u3 => ?_)
            ·
              refine w_iload gz_224_182 rfl ?_
              have c4 := c151_0_151_0
              exact w_iret gz_224_184 gm_224 (k1 h151_0 (p151_0) (gh_151_0) (by omega) (by omega) (by omega) (by omega) (by omega) (by omega) (by omega) (by omega) (by omega) n_Rws_151_0)
            ·
              refine w_iload gz_224_175 rfl ?_
              refine w_iconst gz_224_177 (by decide) ?_
              refine w_irem gz_224_178 (by omega) (by decide) ?_
              refine w_goto (t := 184) gz_224_179 rfl ?_
              have c5 := c151_0_151_0
              exact w_iret gz_224_184 gm_224 (k1 h151_0 ((p49_0 % 4)) (gh_151_0) (by omega) (by omega) (by omega) (by omega) (by omega) (by omega) (by omega) (by omega) (by omega) n_Rws_151_0)
          ·
            refine w_iload gz_224_162 rfl ?_
            refine w_iconst gz_224_164 (by decide) ?_
            refine w_idiv gz_224_165 (by omega) (by decide) ?_
            refine w_goto (t := 184) gz_224_166 rfl ?_
            have c6 := c151_0_151_0
            exact w_iret gz_224_184 gm_224 (k1 h151_0 ((p49_0 / 4)) (gh_151_0) (by omega) (by omega) (by omega) (by omega) (by omega) (by omega) (by omega) (by omega) (by omega) n_Rws_151_0)
      have J62_0 : ∀ (n : Nat) (p62_0 p62_1 : Int) (h62_0 : my_H), my_fr [(10, 0), (10, 27), (10, 32), (10, 33), (10, 37), (61, -1), (62, -1), (73, -1), (74, -1), (75, -1), (76, -1), (77, -1), (78, -1), (79, -1), (80, -1), (81, -1), (82, -1), (83, -1), (84, -1), (85, -1), (86, -1), (94, -1)] h h62_0 → p49_0 ≤ 11 → 1 ≤ p62_0 → p62_0 ≤ 4 → 0 ≤ p62_1 → p62_1 ≤ 20 → h62_0 151 0 = 0 → Mw h62_0 → Mw3 h62_0 → Rws h62_0 → 21 - p62_1 ≤ (n : Int) → wp l rho (d + 5) 224 62 [(2, 151), (0, x1), (0, x2), (0, x3), (0, x4), (0, x5), (0, x6), (0, p49_0), (0, p62_0), (0, p62_1), (9, 0)] [] h62_0 Q := by
        intro n
        induction n with
        | zero => intro p62_0 p62_1 h62_0 gh_62_0 q0_62_0 q1_62_0 q2_62_0 q3_62_0 q4_62_0 c151_0_62_0 n_Mw_62_0 n_Mw3_62_0 n_Rws_62_0 hm_62_0; exfalso; omega
        | succ n ih_62_0 =>
          intro p62_0 p62_1 h62_0 gh_62_0 q0_62_0 q1_62_0 q2_62_0 q3_62_0 q4_62_0 c151_0_62_0 n_Mw_62_0 n_Mw3_62_0 n_Rws_62_0 hm_62_0
          have J143_3 : ∀ (p143_0 p143_1 : Int) (h143_3 : my_H), my_fr [(10, 0), (10, 27), (10, 32), (10, 33), (10, 37), (61, -1), (62, -1), (73, -1), (74, -1), (75, -1), (76, -1), (77, -1), (78, -1), (79, -1), (80, -1), (81, -1), (82, -1), (83, -1), (84, -1), (85, -1), (86, -1), (94, -1)] h h143_3 → p62_1 ≤ 19 → 2 ≤ p143_0 → p143_0 ≤ 3 → 1 ≤ p143_1 → p143_1 ≤ 3 → p143_1 ≤ p143_0 → p143_1 ≤ p62_0 → p62_0 ≤ (p143_1 + 2) → h143_3 151 0 = 0 → Mw h143_3 → Mw3 h143_3 → Rws h143_3 → wp l rho (d + 5) 224 143 [(2, 151), (0, x1), (0, x2), (0, x3), (0, x4), (0, x5), (0, x6), (0, p49_0), (0, p62_0), (0, p62_1), (0, p143_0)] [(0, p143_1)] h143_3 Q := by
            intro p143_0 p143_1 h143_3 gh_143_3 q0_143_3 q1_143_3 q2_143_3 q3_143_3 q4_143_3 q5_143_3 q6_143_3 q7_143_3 c151_0_143_3 n_Mw_143_3 n_Mw3_143_3 n_Rws_143_3
            refine w_istore (ls' := [(2, 151), (0, x1), (0, x2), (0, x3), (0, x4), (0, x5), (0, x6), (0, p49_0), (0, p143_1), (0, p62_1), (0, p143_0)]) gz_224_143 gm_224 rfl rfl rfl ?_
            refine w_iinc (ls' := [(2, 151), (0, x1), (0, x2), (0, x3), (0, x4), (0, x5), (0, x6), (0, p49_0), (0, p143_1), (0, (p62_1 + 1)), (0, p143_0)]) gz_224_145 rfl gm_224 rfl rfl rfl ⟨by omega, by omega⟩ ?_
            refine w_goto (t := 62) gz_224_148 rfl ?_
            refine w_weak (ls' := [(2, 151), (0, x1), (0, x2), (0, x3), (0, x4), (0, x5), (0, x6), (0, p49_0), (0, p143_1), (0, (p62_1 + 1)), (9, 0)]) (wk_e (wk_e (wk_e (wk_e (wk_e (wk_e (wk_e (wk_e (wk_e (wk_e (wk_9 wk_n))))))))))) ?_
            exact ih_62_0 (p143_1) ((p62_1 + 1)) h143_3 (gh_143_3) (by omega) (by omega) (by omega) (by omega) (by omega) (c151_0_143_3.trans (by omega)) n_Mw_143_3 n_Mw3_143_3 n_Rws_143_3 (by omega)
          have J122_0 : ∀ (h122_0 : my_H), my_fr [(10, 0), (10, 27), (10, 32), (10, 33), (10, 37), (61, -1), (62, -1), (73, -1), (74, -1), (75, -1), (76, -1), (77, -1), (78, -1), (79, -1), (80, -1), (81, -1), (82, -1), (83, -1), (84, -1), (85, -1), (86, -1), (94, -1)] h h122_0 → p62_1 ≤ 19 → h122_0 151 0 = 0 → Mw h122_0 → Mw3 h122_0 → Rws h122_0 → wp l rho (d + 5) 224 122 [(2, 151), (0, x1), (0, x2), (0, x3), (0, x4), (0, x5), (0, x6), (0, p49_0), (0, p62_0), (0, p62_1), (9, 0)] [(0, 0)] h122_0 Q := by
            intro h122_0 gh_122_0 q0_122_0 c151_0_122_0 n_Mw_122_0 n_Mw3_122_0 n_Rws_122_0
            refine w_istore (ls' := [(2, 151), (0, x1), (0, x2), (0, x3), (0, x4), (0, x5), (0, x6), (0, p49_0), (0, p62_0), (0, p62_1), (0, 0)]) gz_224_122 gm_224 rfl rfl rfl ?_
            refine w_iload gz_224_124 rfl ?_
            refine w_ifle (t := 141) gz_224_126 rfl (fun u7 => ?_) (fun u7 => by exfalso; omega)
            refine w_iload gz_224_141 rfl ?_
            refine w_istore (ls' := [(2, 151), (0, x1), (0, x2), (0, x3), (0, x4), (0, x5), (0, x6), (0, p49_0), (0, p62_0), (0, p62_1), (0, 0)]) gz_224_143 gm_224 rfl rfl rfl ?_
            refine w_iinc (ls' := [(2, 151), (0, x1), (0, x2), (0, x3), (0, x4), (0, x5), (0, x6), (0, p49_0), (0, p62_0), (0, (p62_1 + 1)), (0, 0)]) gz_224_145 rfl gm_224 rfl rfl rfl ⟨by omega, by omega⟩ ?_
            refine w_goto (t := 62) gz_224_148 rfl ?_
            refine w_weak (ls' := [(2, 151), (0, x1), (0, x2), (0, x3), (0, x4), (0, x5), (0, x6), (0, p49_0), (0, p62_0), (0, (p62_1 + 1)), (9, 0)]) (wk_e (wk_e (wk_e (wk_e (wk_e (wk_e (wk_e (wk_e (wk_e (wk_e (wk_9 wk_n))))))))))) ?_
            exact ih_62_0 (p62_0) ((p62_1 + 1)) h122_0 (gh_122_0) (by omega) (by omega) (by omega) (by omega) (by omega) (c151_0_122_0.trans (by omega)) n_Mw_122_0 n_Mw3_122_0 n_Rws_122_0 (by omega)
          refine w_iload gz_224_62 rfl ?_
          refine w_bipush gz_224_64 (by decide) ?_
          refine w_icge (t := 151) gz_224_66 rfl (fun u8 => ?_) (fun u8 => ?_)
          ·
            exact J151_0 (p62_0) (p62_1) h62_0 (gh_62_0) (by omega) (by omega) (by omega) (by omega) (by omega) (c151_0_62_0.trans (by omega)) n_Mw_62_0 n_Mw3_62_0 n_Rws_62_0
          ·
            refine w_iload gz_224_69 rfl ?_
            refine w_iconst gz_224_71 (by decide) ?_
            refine w_irem gz_224_72 (by omega) (by decide) ?_
            refine w_aload_n gz_224_73 rfl ?_
            refine w_getX (v := 157) gz_224_74 is_151 rd_10 rfl (by decide) rfl ?_
            refine w_iload gz_224_77 rfl ?_
            refine w_iconst gz_224_79 (by decide) ?_
            refine w_idiv gz_224_80 (by omega) (by decide) ?_
            refine w_iald gz_224_81 is_157 rd_56 (by omega) (by omega) (fun v10 ev10 pv10 qv10 => ?_)
            refine w_icge (t := 151) gz_224_82 rfl (fun u11 => ?_) (fun u11 => ?_)
            ·
              exact J151_0 (p62_0) (p62_1) h62_0 (gh_62_0) (by omega) (by omega) (by omega) (by omega) (by omega) (c151_0_62_0.trans (by omega)) n_Mw_62_0 n_Mw3_62_0 n_Rws_62_0
            ·
              refine w_aload_n gz_224_85 rfl ?_
              refine w_getX (v := 162) gz_224_86 is_151 rd_10 rfl (by decide) rfl ?_
              refine w_iconst gz_224_89 (by decide) ?_
              refine w_iload gz_224_90 rfl ?_
              refine w_iconst gz_224_92 (by decide) ?_
              refine w_idiv gz_224_93 (by omega) (by decide) ?_
              refine w_iload gz_224_94 rfl ?_
              refine w_inS (k := 0) (as := [(0, p62_1), (0, (p49_0 / 4)), (0, 5)]) (r := [(2, 162)]) (ls0 := [(0, 5), (0, (p49_0 / 4)), (0, p62_1)]) gz_224_96 gm_150 rfl rfl rfl rfl rfl rfl ?_
              refine w_bipush gz_150_0 (by decide) ?_
              refine w_iload_n gz_150_2 rfl ?_
              refine w_imul gz_150_3 ⟨by omega, by omega⟩ ?_
              refine w_bipush gz_150_4 (by decide) ?_
              refine w_iload_n gz_150_6 rfl ?_
              refine w_imul gz_150_7 ⟨by omega, by omega⟩ ?_
              refine w_iadd gz_150_8 ⟨by omega, by omega⟩ ?_
              refine w_iload_n gz_150_9 rfl ?_
              refine w_iadd gz_150_10 ⟨by omega, by omega⟩ ?_
              refine w_iret gz_150_11 gm_150 ?_
              show wp l rho (d + 5) 224 99 [(2, 151), (0, x1), (0, x2), (0, x3), (0, x4), (0, x5), (0, x6), (0, p49_0), (0, p62_0), (0, p62_1), (9, 0)] [(0, (((60 * 5) + (20 * (p49_0 / 4))) + p62_1)), (2, 162)] h62_0 Q
              refine w_bald gz_224_99 is_162 rd_61 (by omega) (by omega) (fun v13 ev13 pv13 qv13 => ?_)
              refine w_ifeq (t := 121) gz_224_100 rfl (fun u14 => ?_) (fun u14 => ?_)
              ·
                refine w_iconst gz_224_121 (by decide) ?_
                exact J122_0 h62_0 (gh_62_0) (by omega) (c151_0_62_0.trans (by omega)) n_Mw_62_0 n_Mw3_62_0 n_Rws_62_0
              ·
                refine w_aload_n gz_224_103 rfl ?_
                refine w_iconst gz_224_104 (by decide) ?_
                refine w_iload gz_224_105 rfl ?_
                refine w_iconst gz_224_107 (by decide) ?_
                refine w_idiv gz_224_108 (by omega) (by decide) ?_
                refine w_iload gz_224_109 rfl ?_
                refine w_iload gz_224_111 rfl ?_
                refine w_iconst gz_224_113 (by decide) ?_
                refine w_irem gz_224_114 (by omega) (by decide) ?_
                refine w_inv (k := 3) (as := [(0, (p49_0 % 4)), (0, p62_1), (0, (p49_0 / 4)), (0, 5)]) (r := []) (x := 151) (ls0 := [(2, 151), (0, 5), (0, (p49_0 / 4)), (0, p62_1), (0, (p49_0 % 4)), (9, 0), (9, 0), (9, 0)]) gz_224_115 gm_227 rfl is_151 rd_10 rfl rfl rfl rfl rfl (c_Model_breaks (d := (d + 2)) (x2 := (p49_0 / 4)) (x3 := p62_1) (x4 := (p49_0 % 4)) (by omega) (by omega) (by omega) (by omega) (by omega) (by omega) ?_ ?_ (fun v15 w16 w17 => ?_))
                ·
                  show wp l rho (d + 5) 224 118 [(2, 151), (0, x1), (0, x2), (0, x3), (0, x4), (0, x5), (0, x6), (0, p49_0), (0, p62_0), (0, p62_1), (9, 0)] [(0, 0)] h62_0 Q
                  refine w_goto (t := 122) gz_224_118 rfl ?_
                  exact J122_0 h62_0 (gh_62_0) (by omega) (c151_0_62_0.trans (by omega)) n_Mw_62_0 n_Mw3_62_0 n_Rws_62_0
                ·
                  show wp l rho (d + 5) 224 118 [(2, 151), (0, x1), (0, x2), (0, x3), (0, x4), (0, x5), (0, x6), (0, p49_0), (0, p62_0), (0, p62_1), (9, 0)] [(0, 1)] h62_0 Q
                  refine w_goto (t := 122) gz_224_118 rfl ?_
                  refine w_istore (ls' := [(2, 151), (0, x1), (0, x2), (0, x3), (0, x4), (0, x5), (0, x6), (0, p49_0), (0, p62_0), (0, p62_1), (0, 1)]) gz_224_122 gm_224 rfl rfl rfl ?_
                  refine w_iload gz_224_124 rfl ?_
                  refine w_ifle (t := 141) gz_224_126 rfl (fun u18 => by exfalso; omega) (fun u18 => ?_)
                  refine w_iload gz_224_129 rfl ?_
                  refine w_iload gz_224_131 rfl ?_
                  refine w_icge (t := 141) gz_224_133 rfl (fun u19 => ?_) (fun u19 => ?_)
                  ·
                    refine w_iload gz_224_141 rfl ?_
                    refine w_istore (ls' := [(2, 151), (0, x1), (0, x2), (0, x3), (0, x4), (0, x5), (0, x6), (0, p49_0), (0, p62_0), (0, p62_1), (0, 1)]) gz_224_143 gm_224 rfl rfl rfl ?_
                    refine w_iinc (ls' := [(2, 151), (0, x1), (0, x2), (0, x3), (0, x4), (0, x5), (0, x6), (0, p49_0), (0, p62_0), (0, (p62_1 + 1)), (0, 1)]) gz_224_145 rfl gm_224 rfl rfl rfl ⟨by omega, by omega⟩ ?_
                    refine w_goto (t := 62) gz_224_148 rfl ?_
                    refine w_weak (ls' := [(2, 151), (0, x1), (0, x2), (0, x3), (0, x4), (0, x5), (0, x6), (0, p49_0), (0, p62_0), (0, (p62_1 + 1)), (9, 0)]) (wk_e (wk_e (wk_e (wk_e (wk_e (wk_e (wk_e (wk_e (wk_e (wk_e (wk_9 wk_n))))))))))) ?_
                    exact ih_62_0 (p62_0) ((p62_1 + 1)) h62_0 (gh_62_0) (by omega) (by omega) (by omega) (by omega) (by omega) (c151_0_62_0.trans (by omega)) n_Mw_62_0 n_Mw3_62_0 n_Rws_62_0 (by omega)
                  ·
                    refine w_iload gz_224_136 rfl ?_
                    refine w_goto (t := 143) gz_224_138 rfl ?_
                    refine w_istore (ls' := [(2, 151), (0, x1), (0, x2), (0, x3), (0, x4), (0, x5), (0, x6), (0, p49_0), (0, 1), (0, p62_1), (0, 1)]) gz_224_143 gm_224 rfl rfl rfl ?_
                    refine w_iinc (ls' := [(2, 151), (0, x1), (0, x2), (0, x3), (0, x4), (0, x5), (0, x6), (0, p49_0), (0, 1), (0, (p62_1 + 1)), (0, 1)]) gz_224_145 rfl gm_224 rfl rfl rfl ⟨by omega, by omega⟩ ?_
                    refine w_goto (t := 62) gz_224_148 rfl ?_
                    refine w_weak (ls' := [(2, 151), (0, x1), (0, x2), (0, x3), (0, x4), (0, x5), (0, x6), (0, p49_0), (0, 1), (0, (p62_1 + 1)), (9, 0)]) (wk_e (wk_e (wk_e (wk_e (wk_e (wk_e (wk_e (wk_e (wk_e (wk_e (wk_9 wk_n))))))))))) ?_
                    exact ih_62_0 (1) ((p62_1 + 1)) h62_0 (gh_62_0) (by omega) (by omega) (by omega) (by omega) (by omega) (c151_0_62_0.trans (by omega)) n_Mw_62_0 n_Mw3_62_0 n_Rws_62_0 (by omega)
                ·
                  show wp l rho (d + 5) 224 118 [(2, 151), (0, x1), (0, x2), (0, x3), (0, x4), (0, x5), (0, x6), (0, p49_0), (0, p62_0), (0, p62_1), (9, 0)] [(0, v15)] h62_0 Q
                  refine w_goto (t := 122) gz_224_118 rfl ?_
                  refine w_istore (ls' := [(2, 151), (0, x1), (0, x2), (0, x3), (0, x4), (0, x5), (0, x6), (0, p49_0), (0, p62_0), (0, p62_1), (0, v15)]) gz_224_122 gm_224 rfl rfl rfl ?_
                  refine w_iload gz_224_124 rfl ?_
                  refine w_ifle (t := 141) gz_224_126 rfl (fun u20 => by exfalso; omega) (fun u20 => ?_)
                  refine w_iload gz_224_129 rfl ?_
                  refine w_iload gz_224_131 rfl ?_
                  refine w_icge (t := 141) gz_224_133 rfl (fun u21 => ?_) (fun u21 => ?_)
                  ·
                    refine w_iload gz_224_141 rfl ?_
                    exact J143_3 (v15) (p62_0) h62_0 (gh_62_0) (by omega) (by omega) (by omega) (by omega) (by omega) (by omega) (by omega) (by omega) (c151_0_62_0.trans (by omega)) n_Mw_62_0 n_Mw3_62_0 n_Rws_62_0
                  ·
                    refine w_iload gz_224_136 rfl ?_
                    refine w_goto (t := 143) gz_224_138 rfl ?_
                    exact J143_3 (v15) (v15) h62_0 (gh_62_0) (by omega) (by omega) (by omega) (by omega) (by omega) (by omega) (by omega) (by omega) (c151_0_62_0.trans (by omega)) n_Mw_62_0 n_Mw3_62_0 n_Rws_62_0
      refine w_iload gz_224_49 rfl ?_
      refine w_bipush gz_224_51 (by decide) ?_
      refine w_icge (t := 191) gz_224_53 rfl (fun u22 => ?_) (fun u22 => ?_)
      ·
        refine w_iconst gz_224_191 (by decide) ?_
        have c23 := c151_0_49_0
        exact w_iret gz_224_192 gm_224 (k0 h49_0 (gh_49_0) (by omega) n_Rws_49_0)
      ·
        refine w_iconst gz_224_56 (by decide) ?_
        refine w_istore (ls' := [(2, 151), (0, x1), (0, x2), (0, x3), (0, x4), (0, x5), (0, x6), (0, p49_0), (0, 4), (9, 0), (9, 0)]) gz_224_57 gm_224 rfl rfl rfl ?_
        refine w_iconst gz_224_59 (by decide) ?_
        refine w_istore (ls' := [(2, 151), (0, x1), (0, x2), (0, x3), (0, x4), (0, x5), (0, x6), (0, p49_0), (0, 4), (0, 0), (9, 0)]) gz_224_60 gm_224 rfl rfl rfl ?_
        exact J62_0 21 (4) (0) h49_0 (gh_49_0) (by omega) (by omega) (by omega) (by omega) (by omega) (c151_0_49_0.trans (by omega)) n_Mw_49_0 n_Mw3_49_0 n_Rws_49_0 (by omega)
  refine w_aload_n gz_224_0 rfl ?_
  refine w_iconst gz_224_1 (by decide) ?_
  refine v_putI (j := 0) gz_224_2 rfl is_151 rd_10 rfl (by omega) (by omega) rfl (fun h24 fh24 => ?_)
  have gh24 : my_fr [(10, 0), (10, 27), (10, 32), (10, 33), (10, 37), (61, -1), (62, -1), (73, -1), (74, -1), (75, -1), (76, -1), (77, -1), (78, -1), (79, -1), (80, -1), (81, -1), (82, -1), (83, -1), (84, -1), (85, -1), (86, -1), (94, -1)] h h24 := my_fr.up my_fr.rf is_151 fh24 rfl
  have Mw_h24 : Mw h24 := Mw_ag (my_ag.up fh24 is_151 rfl) n_Mw
  have Mw3_h24 : Mw3 h24 := Mw3_ag (my_ag.up fh24 is_151 rfl) n_Mw3
  have Rws_h24 : Rws h24 := Rws_ag (my_ag.up fh24 is_151 rfl) n_Rws
  refine w_iload gz_224_5 rfl ?_
  refine w_iconst gz_224_7 (by decide) ?_
  refine w_iconst gz_224_8 (by decide) ?_
  refine w_inS (k := 0) (as := [(0, 2), (0, 0), (0, x6)]) (r := []) (ls0 := [(0, x6), (0, 0), (0, 2)]) gz_224_9 gm_147 rfl rfl rfl rfl rfl rfl ?_
  refine w_iload_n gz_147_0 rfl ?_
  refine w_iload_n gz_147_1 rfl ?_
  refine w_iclt (t := 14) gz_147_2 rfl (fun u25 => ?_) (fun u25 => ?_)
  ·
    refine w_iconst gz_147_14 (by decide) ?_
    refine w_bret gz_147_15 gm_147 (by omega) (by omega) ?_
    show wp l rho (d + 5) 224 12 [(2, 151), (0, x1), (0, x2), (0, x3), (0, x4), (0, x5), (0, x6), (9, 0), (9, 0), (9, 0), (9, 0)] [(0, 0)] h24 Q
    refine w_ifeq (t := 44) gz_224_12 rfl (fun u26 => ?_) (fun u26 => by exfalso; omega)
    refine w_iconst gz_224_44 (by decide) ?_
    have c27 := (my_up_self fh24)
    exact w_iret gz_224_45 gm_224 (k0 h24 (gh24) (by omega) Rws_h24)
  ·
    refine w_iload_n gz_147_5 rfl ?_
    refine w_iload_n gz_147_6 rfl ?_
    refine w_icgt (t := 14) gz_147_7 rfl (fun u28 => ?_) (fun u28 => ?_)
    ·
      refine w_iconst gz_147_14 (by decide) ?_
      refine w_bret gz_147_15 gm_147 (by omega) (by omega) ?_
      show wp l rho (d + 5) 224 12 [(2, 151), (0, x1), (0, x2), (0, x3), (0, x4), (0, x5), (0, x6), (9, 0), (9, 0), (9, 0), (9, 0)] [(0, 0)] h24 Q
      refine w_ifeq (t := 44) gz_224_12 rfl (fun u29 => ?_) (fun u29 => by exfalso; omega)
      refine w_iconst gz_224_44 (by decide) ?_
      have c30 := (my_up_self fh24)
      exact w_iret gz_224_45 gm_224 (k0 h24 (gh24) (by omega) Rws_h24)
    ·
      refine w_iconst gz_147_10 (by decide) ?_
      refine w_goto (t := 15) gz_147_11 rfl ?_
      refine w_bret gz_147_15 gm_147 (by omega) (by omega) ?_
      show wp l rho (d + 5) 224 12 [(2, 151), (0, x1), (0, x2), (0, x3), (0, x4), (0, x5), (0, x6), (9, 0), (9, 0), (9, 0), (9, 0)] [(0, 1)] h24 Q
      refine w_ifeq (t := 44) gz_224_12 rfl (fun u31 => by exfalso; omega) (fun u31 => ?_)
      refine w_aload_n gz_224_15 rfl ?_
      refine w_iconst gz_224_16 (by decide) ?_
      refine w_iload_n gz_224_17 rfl ?_
      refine w_iload_n gz_224_18 rfl ?_
      refine w_iload_n gz_224_19 rfl ?_
      refine w_iload gz_224_20 rfl ?_
      refine w_iload gz_224_22 rfl ?_
      refine w_inv (k := 1) (as := [(0, x5), (0, x4), (0, x3), (0, x2), (0, x1), (0, 0)]) (r := []) (x := 151) (ls0 := [(2, 151), (0, 0), (0, x1), (0, x2), (0, x3), (0, x4), (0, x5), (9, 0)]) gz_224_24 gm_208 rfl is_151 rd_10 rfl rfl rfl rfl rfl (c_Model_isEdit (d := d) (x1 := 0) (x2 := x1) (x3 := x2) (x4 := x3) (x5 := x4) (x6 := x5) (by omega) (by omega) Mw_h24 Mw3_h24 Rws_h24 (fun h32 frh32 => ?_) (fun h33 frh33 w34 w35 w36 w37 xp38 xp39 xp40 xp41 xp42 xp43 xp44 xp45 => ?_))
      ·
        have gh32 : my_fr [(10, 0), (10, 27), (10, 32), (10, 33), (10, 37), (61, -1), (62, -1), (73, -1), (74, -1), (75, -1), (76, -1), (77, -1), (78, -1), (79, -1), (80, -1), (81, -1), (82, -1), (83, -1), (84, -1), (85, -1), (86, -1), (94, -1)] h h32 := my_fr.tr gh24 (frh32.mo rfl)
        have Mw_h32 : Mw h32 := Mw_ag (my_ag.fr frh32 rfl) Mw_h24
        have Mw3_h32 : Mw3 h32 := Mw3_ag (my_ag.fr frh32 rfl) Mw3_h24
        have Rws_h32 : Rws h32 := Rws_ag (my_ag.fr frh32 rfl) Rws_h24
        show wp l rho (d + 5) 224 27 [(2, 151), (0, x1), (0, x2), (0, x3), (0, x4), (0, x5), (0, x6), (9, 0), (9, 0), (9, 0), (9, 0)] [(0, 0)] h32 Q
        refine w_ifeq (t := 44) gz_224_27 rfl (fun u46 => ?_) (fun u46 => by exfalso; omega)
        refine w_iconst gz_224_44 (by decide) ?_
        have c47 := ((my_fr.at frh32 is_151 rfl).trans (my_up_self fh24))
        exact w_iret gz_224_45 gm_224 (k0 h32 (gh32) (by omega) Rws_h32)
      ·
        have gh33 : my_fr [(10, 0), (10, 27), (10, 32), (10, 33), (10, 37), (61, -1), (62, -1), (73, -1), (74, -1), (75, -1), (76, -1), (77, -1), (78, -1), (79, -1), (80, -1), (81, -1), (82, -1), (83, -1), (84, -1), (85, -1), (86, -1), (94, -1)] h h33 := my_fr.tr gh24 (frh33.mo rfl)
        have Mw_h33 : Mw h33 := Mw_ag (my_ag.fr frh33 rfl) Mw_h24
        have Mw3_h33 : Mw3 h33 := Mw3_ag (my_ag.fr frh33 rfl) Mw3_h24
        have Rws_h33 : Rws h33 := Rws_ag (my_ag.fr frh33 rfl) Rws_h24
        show wp l rho (d + 5) 224 27 [(2, 151), (0, x1), (0, x2), (0, x3), (0, x4), (0, x5), (0, x6), (9, 0), (9, 0), (9, 0), (9, 0)] [(0, 1)] h33 Q
        have Fp_h33t48 : Fp h33 x1 := xp40
        have e5 := xp43
        have e6 := xp44
        have e7 := xp45
        refine w_ifeq (t := 44) gz_224_27 rfl (fun u49 => by exfalso; omega) (fun u49 => ?_)
        refine w_aload_n gz_224_30 rfl ?_
        refine w_iload_n gz_224_31 rfl ?_
        refine w_iload_n gz_224_32 rfl ?_
        refine w_iload_n gz_224_33 rfl ?_
        refine w_iload gz_224_34 rfl ?_
        refine w_iload gz_224_36 rfl ?_
        refine w_inv (k := 2) (as := [(0, x5), (0, x4), (0, x3), (0, x2), (0, x1)]) (r := []) (x := 151) (ls0 := [(2, 151), (0, x1), (0, x2), (0, x3), (0, x4), (0, x5), (9, 0), (9, 0)]) gz_224_38 gm_225 rfl is_151 rd_10 rfl rfl rfl rfl rfl (c_Model_straight (d := d) (x1 := x1) (x2 := x2) (x3 := x3) (x4 := x4) (x5 := x5) (by omega) (by omega) (by omega) (by omega) Mw_h33 Rws_h33 Fp_h33t48 (by first | assumption | exact Fp_h33t48 | exact Fp_told (by omega) (by omega) | omega | (subst_vars; omega) | omega) (by first | assumption | exact Fp_h33t48 | exact Fp_told (by omega) (by omega) | omega | (subst_vars; omega) | omega) (e7) (fun h50 frh50 Rws_h50t51 => ?_) (fun h52 frh52 Rws_h52t53 => ?_))
        ·
          have gh50 : my_fr [(10, 0), (10, 27), (10, 32), (10, 33), (10, 37), (61, -1), (62, -1), (73, -1), (74, -1), (75, -1), (76, -1), (77, -1), (78, -1), (79, -1), (80, -1), (81, -1), (82, -1), (83, -1), (84, -1), (85, -1), (86, -1), (94, -1)] h h50 := my_fr.tr gh33 (frh50.mo rfl)
          have Mw_h50 : Mw h50 := Mw_ag (my_ag.fr frh50 rfl) Mw_h33
          have Mw3_h50 : Mw3 h50 := Mw3_ag (my_ag.fr frh50 rfl) Mw3_h33
          have Fp_h50 : Fp h50 x1 := Fp_ag (my_ag.fr frh50 rfl) Fp_h33t48
          show wp l rho (d + 5) 224 41 [(2, 151), (0, x1), (0, x2), (0, x3), (0, x4), (0, x5), (0, x6), (9, 0), (9, 0), (9, 0), (9, 0)] [(0, 0)] h50 Q
          refine w_ifne (t := 46) gz_224_41 rfl (fun u54 => by exfalso; omega) (fun u54 => ?_)
          refine w_iconst gz_224_44 (by decide) ?_
          have c55 := ((my_fr.at frh50 is_151 rfl).trans ((my_fr.at frh33 is_151 rfl).trans (my_up_self fh24)))
          exact w_iret gz_224_45 gm_224 (k0 h50 (gh50) (by omega) Rws_h50t51)
        ·
          have gh52 : my_fr [(10, 0), (10, 27), (10, 32), (10, 33), (10, 37), (61, -1), (62, -1), (73, -1), (74, -1), (75, -1), (76, -1), (77, -1), (78, -1), (79, -1), (80, -1), (81, -1), (82, -1), (83, -1), (84, -1), (85, -1), (86, -1), (94, -1)] h h52 := my_fr.tr gh33 (frh52.mo rfl)
          have Mw_h52 : Mw h52 := Mw_ag (my_ag.fr frh52 rfl) Mw_h33
          have Mw3_h52 : Mw3 h52 := Mw3_ag (my_ag.fr frh52 rfl) Mw3_h33
          have Fp_h52 : Fp h52 x1 := Fp_ag (my_ag.fr frh52 rfl) Fp_h33t48
          show wp l rho (d + 5) 224 41 [(2, 151), (0, x1), (0, x2), (0, x3), (0, x4), (0, x5), (0, x6), (9, 0), (9, 0), (9, 0), (9, 0)] [(0, 1)] h52 Q
          refine w_ifne (t := 46) gz_224_41 rfl (fun u56 => ?_) (fun u56 => by exfalso; omega)
          refine w_iconst gz_224_46 (by decide) ?_
          refine w_istore (ls' := [(2, 151), (0, x1), (0, x2), (0, x3), (0, x4), (0, x5), (0, x6), (0, 0), (9, 0), (9, 0), (9, 0)]) gz_224_47 gm_224 rfl rfl rfl ?_
          exact J49_0 13 (0) h52 (gh52) (by omega) (by omega) (by omega) (by omega) (by omega) (by omega) (by omega) (by omega) (((my_fr.at frh52 is_151 rfl).trans ((my_fr.at frh33 is_151 rfl).trans (my_up_self fh24))).trans (by omega)) Mw_h52 Mw3_h52 Rws_h52t53 (by omega)
end MYNModel_wall2
