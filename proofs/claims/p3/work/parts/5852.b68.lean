/-! contracts, printed by wip/gen/gy.py -/
section MYNModel_isRow5
theorem c_Model_isRow5 {l : Launch} {rho : Nat → Int32} {d : Nat} {h : my_H} {Q : my_H → my_V → Prop} {x1 x2 : Int} (k0 : ¬ zyR (zqMA h) (zqMS h 0) x1 x2 → Q h (0, 0)) (k1 : 0 ≤ x1 → x1 ≤ 2 → 0 ≤ x2 → x2 ≤ 19 → zyR (zqMA h) (zqMS h 0) x1 x2 → Q h (0, 1)) : wp l rho (d + 1) 159 0 [(2, 151), (0, x1), (0, x2)] [] h Q := by
  refine v_knowA (x := 162) is_162 rd_61 (fun kT => ?_)
  refine v_knowA (x := 163) is_163 rd_62 (fun kV => ?_)
  refine v_knowA (x := 160) is_160 rd_59 (fun kN => ?_)
  refine v_knowA (x := 157) is_157 rd_56 (fun kC => ?_)
  have T : MTy h := ⟨kV, kT, kN, kC⟩
  refine w_aload_n gz_159_0 rfl ?_
  refine w_iload_n gz_159_1 rfl ?_
  refine w_inv (k := 0) (as := [(0, x1)]) (r := []) (x := 151) (ls0 := [(2, 151), (0, x1)]) gz_159_2 gm_149 rfl is_151 rd_10 rfl rfl rfl rfl rfl ?_
  refine w_iload_n gz_149_0 rfl ?_
  refine w_iflt (t := 22) gz_149_1 rfl (fun u1 => ?_) (fun u1 => ?_)
  ·
    refine w_iconst gz_149_22 (by decide) ?_
    refine w_bret gz_149_23 gm_149 (by omega) (by omega) ?_
    show wp l rho (d + 1) 159 5 [(2, 151), (0, x1), (0, x2)] [(0, 0)] h Q
    refine w_ifeq (t := 36) gz_159_5 rfl (fun u2 => ?_) (fun u2 => by exfalso; omega)
    refine w_iconst gz_159_36 (by decide) ?_
    exact w_bret gz_159_37 gm_159 (by omega) (by omega) (k0 (by first | exact (zyR_m T ⟨by omega, by omega, by omega⟩ ⟨by omega, by omega⟩).mpr (by omega) | exact (fun z => by have z1 : 0 ≤ x1 ∧ x1 ≤ 2 ∧ 0 < h 157 x1 := z.1; have z2 := z.2.1; have z3 := (zyR_m T z1 z2).mp z; omega) | assumption | omega))
  ·
    refine w_iload_n gz_149_4 rfl ?_
    refine w_iconst gz_149_5 (by decide) ?_
    refine w_icge (t := 22) gz_149_6 rfl (fun u3 => ?_) (fun u3 => ?_)
    ·
      refine w_iconst gz_149_22 (by decide) ?_
      refine w_bret gz_149_23 gm_149 (by omega) (by omega) ?_
      show wp l rho (d + 1) 159 5 [(2, 151), (0, x1), (0, x2)] [(0, 0)] h Q
      refine w_ifeq (t := 36) gz_159_5 rfl (fun u4 => ?_) (fun u4 => by exfalso; omega)
      refine w_iconst gz_159_36 (by decide) ?_
      exact w_bret gz_159_37 gm_159 (by omega) (by omega) (k0 (by first | exact (zyR_m T ⟨by omega, by omega, by omega⟩ ⟨by omega, by omega⟩).mpr (by omega) | exact (fun z => by have z1 : 0 ≤ x1 ∧ x1 ≤ 2 ∧ 0 < h 157 x1 := z.1; have z2 := z.2.1; have z3 := (zyR_m T z1 z2).mp z; omega) | assumption | omega))
    ·
      refine w_aload_n gz_149_9 rfl ?_
      refine w_getX (v := 157) gz_149_10 is_151 rd_10 rfl (by decide) rfl ?_
      refine w_iload_n gz_149_13 rfl ?_
      refine w_iald gz_149_14 is_157 rd_56 (by omega) (by omega) (fun v6 ev6 pv6 qv6 => ?_)
      refine w_ifle (t := 22) gz_149_15 rfl (fun u7 => ?_) (fun u7 => ?_)
      ·
        refine w_iconst gz_149_22 (by decide) ?_
        refine w_bret gz_149_23 gm_149 (by omega) (by omega) ?_
        show wp l rho (d + 1) 159 5 [(2, 151), (0, x1), (0, x2)] [(0, 0)] h Q
        refine w_ifeq (t := 36) gz_159_5 rfl (fun u8 => ?_) (fun u8 => by exfalso; omega)
        refine w_iconst gz_159_36 (by decide) ?_
        exact w_bret gz_159_37 gm_159 (by omega) (by omega) (k0 (by first | exact (zyR_m T ⟨by omega, by omega, by omega⟩ ⟨by omega, by omega⟩).mpr (by omega) | exact (fun z => by have z1 : 0 ≤ x1 ∧ x1 ≤ 2 ∧ 0 < h 157 x1 := z.1; have z2 := z.2.1; have z3 := (zyR_m T z1 z2).mp z; omega) | assumption | omega))
      ·
        refine w_iconst gz_149_18 (by decide) ?_
        refine w_goto (t := 23) gz_149_19 rfl ?_
        refine w_bret gz_149_23 gm_149 (by omega) (by omega) ?_
        show wp l rho (d + 1) 159 5 [(2, 151), (0, x1), (0, x2)] [(0, 1)] h Q
        refine w_ifeq (t := 36) gz_159_5 rfl (fun u9 => by exfalso; omega) (fun u9 => ?_)
        refine w_iload_n gz_159_8 rfl ?_
        refine w_iconst gz_159_9 (by decide) ?_
        refine w_bipush gz_159_10 (by decide) ?_
        refine w_inS (k := 0) (as := [(0, 19), (0, 0), (0, x2)]) (r := []) (ls0 := [(0, x2), (0, 0), (0, 19)]) gz_159_12 gm_147 rfl rfl rfl rfl rfl rfl ?_
        refine w_iload_n gz_147_0 rfl ?_
        refine w_iload_n gz_147_1 rfl ?_
        refine w_iclt (t := 14) gz_147_2 rfl (fun u10 => ?_) (fun u10 => ?_)
        ·
          refine w_iconst gz_147_14 (by decide) ?_
          refine w_bret gz_147_15 gm_147 (by omega) (by omega) ?_
          show wp l rho (d + 1) 159 15 [(2, 151), (0, x1), (0, x2)] [(0, 0)] h Q
          refine w_ifeq (t := 36) gz_159_15 rfl (fun u11 => ?_) (fun u11 => by exfalso; omega)
          refine w_iconst gz_159_36 (by decide) ?_
          exact w_bret gz_159_37 gm_159 (by omega) (by omega) (k0 (by first | exact (zyR_m T ⟨by omega, by omega, by omega⟩ ⟨by omega, by omega⟩).mpr (by omega) | exact (fun z => by have z1 : 0 ≤ x1 ∧ x1 ≤ 2 ∧ 0 < h 157 x1 := z.1; have z2 := z.2.1; have z3 := (zyR_m T z1 z2).mp z; omega) | assumption | omega))
        ·
          refine w_iload_n gz_147_5 rfl ?_
          refine w_iload_n gz_147_6 rfl ?_
          refine w_icgt (t := 14) gz_147_7 rfl (fun u12 => ?_) (fun u12 => ?_)
          ·
            refine w_iconst gz_147_14 (by decide) ?_
            refine w_bret gz_147_15 gm_147 (by omega) (by omega) ?_
            show wp l rho (d + 1) 159 15 [(2, 151), (0, x1), (0, x2)] [(0, 0)] h Q
            refine w_ifeq (t := 36) gz_159_15 rfl (fun u13 => ?_) (fun u13 => by exfalso; omega)
            refine w_iconst gz_159_36 (by decide) ?_
            exact w_bret gz_159_37 gm_159 (by omega) (by omega) (k0 (by first | exact (zyR_m T ⟨by omega, by omega, by omega⟩ ⟨by omega, by omega⟩).mpr (by omega) | exact (fun z => by have z1 : 0 ≤ x1 ∧ x1 ≤ 2 ∧ 0 < h 157 x1 := z.1; have z2 := z.2.1; have z3 := (zyR_m T z1 z2).mp z; omega) | assumption | omega))
          ·
            refine w_iconst gz_147_10 (by decide) ?_
            refine w_goto (t := 15) gz_147_11 rfl ?_
            refine w_bret gz_147_15 gm_147 (by omega) (by omega) ?_
            show wp l rho (d + 1) 159 15 [(2, 151), (0, x1), (0, x2)] [(0, 1)] h Q
            refine w_ifeq (t := 36) gz_159_15 rfl (fun u14 => by exfalso; omega) (fun u14 => ?_)
            refine w_aload_n gz_159_18 rfl ?_
            refine w_getX (v := 162) gz_159_19 is_151 rd_10 rfl (by decide) rfl ?_
            refine w_iconst gz_159_22 (by decide) ?_
            refine w_iload_n gz_159_23 rfl ?_
            refine w_iload_n gz_159_24 rfl ?_
            refine w_inS (k := 0) (as := [(0, x2), (0, x1), (0, 0)]) (r := [(2, 162)]) (ls0 := [(0, 0), (0, x1), (0, x2)]) gz_159_25 gm_150 rfl rfl rfl rfl rfl rfl ?_
            refine w_bipush gz_150_0 (by decide) ?_
            refine w_iload_n gz_150_2 rfl ?_
            refine w_imul gz_150_3 ⟨by omega, by omega⟩ ?_
            refine w_bipush gz_150_4 (by decide) ?_
            refine w_iload_n gz_150_6 rfl ?_
            refine w_imul gz_150_7 ⟨by omega, by omega⟩ ?_
            refine w_iadd gz_150_8 ⟨by omega, by omega⟩ ?_
            refine w_iload_n gz_150_9 rfl ?_
            refine w_iadd gz_150_10 ⟨by omega, by omega⟩ ?_
            refine w_iret gz_150_11 gm_150 ?_
            show wp l rho (d + 1) 159 28 [(2, 151), (0, x1), (0, x2)] [(0, (((60 * 0) + (20 * x1)) + x2)), (2, 162)] h Q
            refine w_bald gz_159_28 is_162 rd_61 (by omega) (by omega) (fun v16 ev16 pv16 qv16 => ?_)
            refine w_ifeq (t := 36) gz_159_29 rfl (fun u17 => ?_) (fun u17 => ?_)
            ·
              refine w_iconst gz_159_36 (by decide) ?_
              exact w_bret gz_159_37 gm_159 (by omega) (by omega) (k0 (by first | exact (zyR_m T ⟨by omega, by omega, by omega⟩ ⟨by omega, by omega⟩).mpr (by omega) | exact (fun z => by have z1 : 0 ≤ x1 ∧ x1 ≤ 2 ∧ 0 < h 157 x1 := z.1; have z2 := z.2.1; have z3 := (zyR_m T z1 z2).mp z; omega) | assumption | omega))
            ·
              refine w_iconst gz_159_32 (by decide) ?_
              refine w_goto (t := 37) gz_159_33 rfl ?_
              exact w_bret gz_159_37 gm_159 (by omega) (by omega) (k1 (by omega) (by omega) (by omega) (by omega) (by first | exact (zyR_m T ⟨by omega, by omega, by omega⟩ ⟨by omega, by omega⟩).mpr (by omega) | exact (fun z => by have z1 : 0 ≤ x1 ∧ x1 ≤ 2 ∧ 0 < h 157 x1 := z.1; have z2 := z.2.1; have z3 := (zyR_m T z1 z2).mp z; omega) | assumption | omega))
theorem c_Model_isSpan5 {l : Launch} {rho : Nat → Int32} {d : Nat} {h : my_H} {Q : my_H → my_V → Prop} {x1 x2 x3 x4 : Int} (k0 : ¬ zySp (zqMA h) x1 x2 x3 x4 → Q h (0, 0)) (k1 : 0 ≤ x1 → x1 ≤ 2 → 0 ≤ x2 → x2 ≤ 3 → 0 ≤ x3 → x3 ≤ 19 → 0 ≤ x4 → x4 ≤ 19 → zySp (zqMA h) x1 x2 x3 x4 → Q h (0, 1)) : wp l rho (d + 2) 161 0 [(2, 151), (0, x1), (0, x2), (0, x3), (0, x4)] [] h Q := by
  refine w_aload_n gz_161_0 rfl ?_
  refine w_iload_n gz_161_1 rfl ?_
  refine w_iload_n gz_161_2 rfl ?_
  refine w_inv (k := 0) (as := [(0, x2), (0, x1)]) (r := []) (x := 151) (ls0 := [(2, 151), (0, x1), (0, x2)]) gz_161_3 gm_162 rfl is_151 rd_10 rfl rfl rfl rfl rfl ?_
  refine w_aload_n gz_162_0 rfl ?_
  refine w_iload_n gz_162_1 rfl ?_
  refine w_inv (k := 0) (as := [(0, x1)]) (r := []) (x := 151) (ls0 := [(2, 151), (0, x1)]) gz_162_2 gm_149 rfl is_151 rd_10 rfl rfl rfl rfl rfl ?_
  refine w_iload_n gz_149_0 rfl ?_
  refine w_iflt (t := 22) gz_149_1 rfl (fun u1 => ?_) (fun u1 => ?_)
  ·
    refine w_iconst gz_149_22 (by decide) ?_
    refine w_bret gz_149_23 gm_149 (by omega) (by omega) ?_
    show wp l rho (d + 1) 162 5 [(2, 151), (0, x1), (0, x2)] [(0, 0)] h _
    refine w_ifeq (t := 26) gz_162_5 rfl (fun u2 => ?_) (fun u2 => by exfalso; omega)
    refine w_iconst gz_162_26 (by decide) ?_
    refine w_bret gz_162_27 gm_162 (by omega) (by omega) ?_
    show wp l rho (d + 2) 161 6 [(2, 151), (0, x1), (0, x2), (0, x3), (0, x4)] [(0, 0)] h Q
    refine w_ifeq (t := 34) gz_161_6 rfl (fun u3 => ?_) (fun u3 => by exfalso; omega)
    refine w_iconst gz_161_34 (by decide) ?_
    exact w_bret gz_161_35 gm_161 (by omega) (by omega) (k0 (by first | exact (show ((0 ≤ x1 ∧ x1 ≤ 2) ∧ 0 ≤ x2 ∧ x2 < h 157 x1) ∧ (0 ≤ x3 ∧ x3 ≤ 19) ∧ x3 ≤ x4 ∧ x4 ≤ 19 by omega) | exact (fun z => by have z1 : ((0 ≤ x1 ∧ x1 ≤ 2) ∧ 0 ≤ x2 ∧ x2 < h 157 x1) ∧ (0 ≤ x3 ∧ x3 ≤ 19) ∧ x3 ≤ x4 ∧ x4 ≤ 19 := z; omega) | assumption | omega))
  ·
    refine w_iload_n gz_149_4 rfl ?_
    refine w_iconst gz_149_5 (by decide) ?_
    refine w_icge (t := 22) gz_149_6 rfl (fun u4 => ?_) (fun u4 => ?_)
    ·
      refine w_iconst gz_149_22 (by decide) ?_
      refine w_bret gz_149_23 gm_149 (by omega) (by omega) ?_
      show wp l rho (d + 1) 162 5 [(2, 151), (0, x1), (0, x2)] [(0, 0)] h _
      refine w_ifeq (t := 26) gz_162_5 rfl (fun u5 => ?_) (fun u5 => by exfalso; omega)
      refine w_iconst gz_162_26 (by decide) ?_
      refine w_bret gz_162_27 gm_162 (by omega) (by omega) ?_
      show wp l rho (d + 2) 161 6 [(2, 151), (0, x1), (0, x2), (0, x3), (0, x4)] [(0, 0)] h Q
      refine w_ifeq (t := 34) gz_161_6 rfl (fun u6 => ?_) (fun u6 => by exfalso; omega)
      refine w_iconst gz_161_34 (by decide) ?_
      exact w_bret gz_161_35 gm_161 (by omega) (by omega) (k0 (by first | exact (show ((0 ≤ x1 ∧ x1 ≤ 2) ∧ 0 ≤ x2 ∧ x2 < h 157 x1) ∧ (0 ≤ x3 ∧ x3 ≤ 19) ∧ x3 ≤ x4 ∧ x4 ≤ 19 by omega) | exact (fun z => by have z1 : ((0 ≤ x1 ∧ x1 ≤ 2) ∧ 0 ≤ x2 ∧ x2 < h 157 x1) ∧ (0 ≤ x3 ∧ x3 ≤ 19) ∧ x3 ≤ x4 ∧ x4 ≤ 19 := z; omega) | assumption | omega))
    ·
      refine w_aload_n gz_149_9 rfl ?_
      refine w_getX (v := 157) gz_149_10 is_151 rd_10 rfl (by decide) rfl ?_
      refine w_iload_n gz_149_13 rfl ?_
      refine w_iald gz_149_14 is_157 rd_56 (by omega) (by omega) (fun v8 ev8 pv8 qv8 => ?_)
      refine w_ifle (t := 22) gz_149_15 rfl (fun u9 => ?_) (fun u9 => ?_)
      ·
        refine w_iconst gz_149_22 (by decide) ?_
        refine w_bret gz_149_23 gm_149 (by omega) (by omega) ?_
        show wp l rho (d + 1) 162 5 [(2, 151), (0, x1), (0, x2)] [(0, 0)] h _
        refine w_ifeq (t := 26) gz_162_5 rfl (fun u10 => ?_) (fun u10 => by exfalso; omega)
        refine w_iconst gz_162_26 (by decide) ?_
        refine w_bret gz_162_27 gm_162 (by omega) (by omega) ?_
        show wp l rho (d + 2) 161 6 [(2, 151), (0, x1), (0, x2), (0, x3), (0, x4)] [(0, 0)] h Q
        refine w_ifeq (t := 34) gz_161_6 rfl (fun u11 => ?_) (fun u11 => by exfalso; omega)
        refine w_iconst gz_161_34 (by decide) ?_
        exact w_bret gz_161_35 gm_161 (by omega) (by omega) (k0 (by first | exact (show ((0 ≤ x1 ∧ x1 ≤ 2) ∧ 0 ≤ x2 ∧ x2 < h 157 x1) ∧ (0 ≤ x3 ∧ x3 ≤ 19) ∧ x3 ≤ x4 ∧ x4 ≤ 19 by omega) | exact (fun z => by have z1 : ((0 ≤ x1 ∧ x1 ≤ 2) ∧ 0 ≤ x2 ∧ x2 < h 157 x1) ∧ (0 ≤ x3 ∧ x3 ≤ 19) ∧ x3 ≤ x4 ∧ x4 ≤ 19 := z; omega) | assumption | omega))
      ·
        refine w_iconst gz_149_18 (by decide) ?_
        refine w_goto (t := 23) gz_149_19 rfl ?_
        refine w_bret gz_149_23 gm_149 (by omega) (by omega) ?_
        show wp l rho (d + 1) 162 5 [(2, 151), (0, x1), (0, x2)] [(0, 1)] h _
        refine w_ifeq (t := 26) gz_162_5 rfl (fun u12 => by exfalso; omega) (fun u12 => ?_)
        refine w_iload_n gz_162_8 rfl ?_
        refine w_iflt (t := 26) gz_162_9 rfl (fun u13 => ?_) (fun u13 => ?_)
        ·
          refine w_iconst gz_162_26 (by decide) ?_
          refine w_bret gz_162_27 gm_162 (by omega) (by omega) ?_
          show wp l rho (d + 2) 161 6 [(2, 151), (0, x1), (0, x2), (0, x3), (0, x4)] [(0, 0)] h Q
          refine w_ifeq (t := 34) gz_161_6 rfl (fun u14 => ?_) (fun u14 => by exfalso; omega)
          refine w_iconst gz_161_34 (by decide) ?_
          exact w_bret gz_161_35 gm_161 (by omega) (by omega) (k0 (by first | exact (show ((0 ≤ x1 ∧ x1 ≤ 2) ∧ 0 ≤ x2 ∧ x2 < h 157 x1) ∧ (0 ≤ x3 ∧ x3 ≤ 19) ∧ x3 ≤ x4 ∧ x4 ≤ 19 by omega) | exact (fun z => by have z1 : ((0 ≤ x1 ∧ x1 ≤ 2) ∧ 0 ≤ x2 ∧ x2 < h 157 x1) ∧ (0 ≤ x3 ∧ x3 ≤ 19) ∧ x3 ≤ x4 ∧ x4 ≤ 19 := z; omega) | assumption | omega))
        ·
          refine w_iload_n gz_162_12 rfl ?_
          refine w_aload_n gz_162_13 rfl ?_
          refine w_getX (v := 157) gz_162_14 is_151 rd_10 rfl (by decide) rfl ?_
          refine w_iload_n gz_162_17 rfl ?_
          refine w_iald gz_162_18 is_157 rd_56 (by omega) (by omega) (fun v16 ev16 pv16 qv16 => ?_)
          have zv16 := ev16.trans ev8.symm
          refine w_icge (t := 26) gz_162_19 rfl (fun u17 => ?_) (fun u17 => ?_)
          ·
            refine w_iconst gz_162_26 (by decide) ?_
            refine w_bret gz_162_27 gm_162 (by omega) (by omega) ?_
            show wp l rho (d + 2) 161 6 [(2, 151), (0, x1), (0, x2), (0, x3), (0, x4)] [(0, 0)] h Q
            refine w_ifeq (t := 34) gz_161_6 rfl (fun u18 => ?_) (fun u18 => by exfalso; omega)
            refine w_iconst gz_161_34 (by decide) ?_
            exact w_bret gz_161_35 gm_161 (by omega) (by omega) (k0 (by first | exact (show ((0 ≤ x1 ∧ x1 ≤ 2) ∧ 0 ≤ x2 ∧ x2 < h 157 x1) ∧ (0 ≤ x3 ∧ x3 ≤ 19) ∧ x3 ≤ x4 ∧ x4 ≤ 19 by omega) | exact (fun z => by have z1 : ((0 ≤ x1 ∧ x1 ≤ 2) ∧ 0 ≤ x2 ∧ x2 < h 157 x1) ∧ (0 ≤ x3 ∧ x3 ≤ 19) ∧ x3 ≤ x4 ∧ x4 ≤ 19 := z; omega) | assumption | omega))
          ·
            refine w_iconst gz_162_22 (by decide) ?_
            refine w_goto (t := 27) gz_162_23 rfl ?_
            refine w_bret gz_162_27 gm_162 (by omega) (by omega) ?_
            show wp l rho (d + 2) 161 6 [(2, 151), (0, x1), (0, x2), (0, x3), (0, x4)] [(0, 1)] h Q
            refine w_ifeq (t := 34) gz_161_6 rfl (fun u19 => by exfalso; omega) (fun u19 => ?_)
            refine w_iload_n gz_161_9 rfl ?_
            refine w_iconst gz_161_10 (by decide) ?_
            refine w_bipush gz_161_11 (by decide) ?_
            refine w_inS (k := 0) (as := [(0, 19), (0, 0), (0, x3)]) (r := []) (ls0 := [(0, x3), (0, 0), (0, 19)]) gz_161_13 gm_147 rfl rfl rfl rfl rfl rfl ?_
            refine w_iload_n gz_147_0 rfl ?_
            refine w_iload_n gz_147_1 rfl ?_
            refine w_iclt (t := 14) gz_147_2 rfl (fun u20 => ?_) (fun u20 => ?_)
            ·
              refine w_iconst gz_147_14 (by decide) ?_
              refine w_bret gz_147_15 gm_147 (by omega) (by omega) ?_
              show wp l rho (d + 2) 161 16 [(2, 151), (0, x1), (0, x2), (0, x3), (0, x4)] [(0, 0)] h Q
              refine w_ifeq (t := 34) gz_161_16 rfl (fun u21 => ?_) (fun u21 => by exfalso; omega)
              refine w_iconst gz_161_34 (by decide) ?_
              exact w_bret gz_161_35 gm_161 (by omega) (by omega) (k0 (by first | exact (show ((0 ≤ x1 ∧ x1 ≤ 2) ∧ 0 ≤ x2 ∧ x2 < h 157 x1) ∧ (0 ≤ x3 ∧ x3 ≤ 19) ∧ x3 ≤ x4 ∧ x4 ≤ 19 by omega) | exact (fun z => by have z1 : ((0 ≤ x1 ∧ x1 ≤ 2) ∧ 0 ≤ x2 ∧ x2 < h 157 x1) ∧ (0 ≤ x3 ∧ x3 ≤ 19) ∧ x3 ≤ x4 ∧ x4 ≤ 19 := z; omega) | assumption | omega))
            ·
              refine w_iload_n gz_147_5 rfl ?_
              refine w_iload_n gz_147_6 rfl ?_
              refine w_icgt (t := 14) gz_147_7 rfl (fun u22 => ?_) (fun u22 => ?_)
              ·
                refine w_iconst gz_147_14 (by decide) ?_
                refine w_bret gz_147_15 gm_147 (by omega) (by omega) ?_
                show wp l rho (d + 2) 161 16 [(2, 151), (0, x1), (0, x2), (0, x3), (0, x4)] [(0, 0)] h Q
                refine w_ifeq (t := 34) gz_161_16 rfl (fun u23 => ?_) (fun u23 => by exfalso; omega)
                refine w_iconst gz_161_34 (by decide) ?_
                exact w_bret gz_161_35 gm_161 (by omega) (by omega) (k0 (by first | exact (show ((0 ≤ x1 ∧ x1 ≤ 2) ∧ 0 ≤ x2 ∧ x2 < h 157 x1) ∧ (0 ≤ x3 ∧ x3 ≤ 19) ∧ x3 ≤ x4 ∧ x4 ≤ 19 by omega) | exact (fun z => by have z1 : ((0 ≤ x1 ∧ x1 ≤ 2) ∧ 0 ≤ x2 ∧ x2 < h 157 x1) ∧ (0 ≤ x3 ∧ x3 ≤ 19) ∧ x3 ≤ x4 ∧ x4 ≤ 19 := z; omega) | assumption | omega))
              ·
                refine w_iconst gz_147_10 (by decide) ?_
                refine w_goto (t := 15) gz_147_11 rfl ?_
                refine w_bret gz_147_15 gm_147 (by omega) (by omega) ?_
                show wp l rho (d + 2) 161 16 [(2, 151), (0, x1), (0, x2), (0, x3), (0, x4)] [(0, 1)] h Q
                refine w_ifeq (t := 34) gz_161_16 rfl (fun u24 => by exfalso; omega) (fun u24 => ?_)
                refine w_iload gz_161_19 rfl ?_
                refine w_iload_n gz_161_21 rfl ?_
                refine w_bipush gz_161_22 (by decide) ?_
                refine w_inS (k := 0) (as := [(0, 19), (0, x3), (0, x4)]) (r := []) (ls0 := [(0, x4), (0, x3), (0, 19)]) gz_161_24 gm_147 rfl rfl rfl rfl rfl rfl ?_
                refine w_iload_n gz_147_0 rfl ?_
                refine w_iload_n gz_147_1 rfl ?_
                refine w_iclt (t := 14) gz_147_2 rfl (fun u25 => ?_) (fun u25 => ?_)
                ·
                  refine w_iconst gz_147_14 (by decide) ?_
                  refine w_bret gz_147_15 gm_147 (by omega) (by omega) ?_
                  show wp l rho (d + 2) 161 27 [(2, 151), (0, x1), (0, x2), (0, x3), (0, x4)] [(0, 0)] h Q
                  refine w_ifeq (t := 34) gz_161_27 rfl (fun u26 => ?_) (fun u26 => by exfalso; omega)
                  refine w_iconst gz_161_34 (by decide) ?_
                  exact w_bret gz_161_35 gm_161 (by omega) (by omega) (k0 (by first | exact (show ((0 ≤ x1 ∧ x1 ≤ 2) ∧ 0 ≤ x2 ∧ x2 < h 157 x1) ∧ (0 ≤ x3 ∧ x3 ≤ 19) ∧ x3 ≤ x4 ∧ x4 ≤ 19 by omega) | exact (fun z => by have z1 : ((0 ≤ x1 ∧ x1 ≤ 2) ∧ 0 ≤ x2 ∧ x2 < h 157 x1) ∧ (0 ≤ x3 ∧ x3 ≤ 19) ∧ x3 ≤ x4 ∧ x4 ≤ 19 := z; omega) | assumption | omega))
                ·
                  refine w_iload_n gz_147_5 rfl ?_
                  refine w_iload_n gz_147_6 rfl ?_
                  refine w_icgt (t := 14) gz_147_7 rfl (fun u27 => ?_) (fun u27 => ?_)
                  ·
                    refine w_iconst gz_147_14 (by decide) ?_
                    refine w_bret gz_147_15 gm_147 (by omega) (by omega) ?_
                    show wp l rho (d + 2) 161 27 [(2, 151), (0, x1), (0, x2), (0, x3), (0, x4)] [(0, 0)] h Q
                    refine w_ifeq (t := 34) gz_161_27 rfl (fun u28 => ?_) (fun u28 => by exfalso; omega)
                    refine w_iconst gz_161_34 (by decide) ?_
                    exact w_bret gz_161_35 gm_161 (by omega) (by omega) (k0 (by first | exact (show ((0 ≤ x1 ∧ x1 ≤ 2) ∧ 0 ≤ x2 ∧ x2 < h 157 x1) ∧ (0 ≤ x3 ∧ x3 ≤ 19) ∧ x3 ≤ x4 ∧ x4 ≤ 19 by omega) | exact (fun z => by have z1 : ((0 ≤ x1 ∧ x1 ≤ 2) ∧ 0 ≤ x2 ∧ x2 < h 157 x1) ∧ (0 ≤ x3 ∧ x3 ≤ 19) ∧ x3 ≤ x4 ∧ x4 ≤ 19 := z; omega) | assumption | omega))
                  ·
                    refine w_iconst gz_147_10 (by decide) ?_
                    refine w_goto (t := 15) gz_147_11 rfl ?_
                    refine w_bret gz_147_15 gm_147 (by omega) (by omega) ?_
                    show wp l rho (d + 2) 161 27 [(2, 151), (0, x1), (0, x2), (0, x3), (0, x4)] [(0, 1)] h Q
                    refine w_ifeq (t := 34) gz_161_27 rfl (fun u29 => by exfalso; omega) (fun u29 => ?_)
                    refine w_iconst gz_161_30 (by decide) ?_
                    refine w_goto (t := 35) gz_161_31 rfl ?_
                    exact w_bret gz_161_35 gm_161 (by omega) (by omega) (k1 (by omega) (by omega) (by omega) (by omega) (by omega) (by omega) (by omega) (by omega) (by first | exact (show ((0 ≤ x1 ∧ x1 ≤ 2) ∧ 0 ≤ x2 ∧ x2 < h 157 x1) ∧ (0 ≤ x3 ∧ x3 ≤ 19) ∧ x3 ≤ x4 ∧ x4 ≤ 19 by omega) | exact (fun z => by have z1 : ((0 ≤ x1 ∧ x1 ≤ 2) ∧ 0 ≤ x2 ∧ x2 < h 157 x1) ∧ (0 ≤ x3 ∧ x3 ≤ 19) ∧ x3 ≤ x4 ∧ x4 ≤ 19 := z; omega) | assumption | omega))
theorem c_Model_moves5 {l : Launch} {rho : Nat → Int32} {d : Nat} {h : my_H} {Q : my_H → my_V → Prop} {x1 x2 x3 x4 : Int} (k0 : ∀ (h' : my_H), my_fr [(10, 0)] h h' → h' 151 0 = 0 → ¬ zySp (zqMA h) x1 x2 x3 x4 → Q h' (0, (-1))) (k1 : ∀ (h' : my_H) (y : Int), my_fr [(10, 0)] h h' → 0 ≤ y → y ≤ 20 → 0 ≤ x1 → x1 ≤ 2 → 0 ≤ x2 → x2 ≤ 3 → 0 ≤ x3 → x3 ≤ 19 → 0 ≤ x4 → x4 ≤ 19 → h' 151 0 = 0 → zySp (zqMA h) x1 x2 x3 x4 ∧ y = qOut (zqMS h 0) x1 x2 x3 x4 20 → Q h' (0, y)) : wp l rho (d + 3) 164 0 [(2, 151), (0, x1), (0, x2), (0, x3), (0, x4)] [] h Q := by
  refine w_aload_n gz_164_0 rfl ?_
  refine w_iconst gz_164_1 (by decide) ?_
  refine v_putI (j := 0) gz_164_2 rfl is_151 rd_10 rfl (by omega) (by omega) rfl (fun h1 fh1 => ?_)
  have gh1 : my_fr [(10, 0)] h h1 := my_fr.up my_fr.rf is_151 fh1 rfl
  refine w_aload_n gz_164_5 rfl ?_
  refine w_iload_n gz_164_6 rfl ?_
  refine w_iload_n gz_164_7 rfl ?_
  refine w_iload_n gz_164_8 rfl ?_
  refine w_iload gz_164_9 rfl ?_
  have c157 : ∀ j : Int, h1 157 j = h 157 j := fun j => ((my_up_role fh1 is_157 is_151 rfl).trans (rfl : h 157 j = h 157 j))
  have c158 : ∀ j : Int, h1 158 j = h 158 j := fun j => ((my_up_role fh1 is_158 is_151 rfl).trans (rfl : h 158 j = h 158 j))
  have c159 : ∀ j : Int, h1 159 j = h 159 j := fun j => ((my_up_role fh1 is_159 is_151 rfl).trans (rfl : h 159 j = h 159 j))
  have c160 : ∀ j : Int, h1 160 j = h 160 j := fun j => ((my_up_role fh1 is_160 is_151 rfl).trans (rfl : h 160 j = h 160 j))
  have c161 : ∀ j : Int, h1 161 j = h 161 j := fun j => ((my_up_role fh1 is_161 is_151 rfl).trans (rfl : h 161 j = h 161 j))
  have b162 : ∀ j : Int, h1 162 j = h 162 j := fun j => ((my_up_role fh1 is_162 is_151 rfl).trans (rfl : h 162 j = h 162 j))
  have b163 : ∀ j : Int, h1 163 j = h 163 j := fun j => ((my_up_role fh1 is_163 is_151 rfl).trans (rfl : h 163 j = h 163 j))
  have e1a : zqMA h1 = zqMA h := zqMA_e c157 c158 c159 c160 c161
  have e1s : zqMS h1 0 = zqMS h 0 := MS_eq b162 b163
  refine w_inv (k := 0) (as := [(0, x4), (0, x3), (0, x2), (0, x1)]) (r := []) (x := 151) (ls0 := [(2, 151), (0, x1), (0, x2), (0, x3), (0, x4)]) gz_164_11 gm_161 rfl is_151 rd_10 rfl rfl rfl rfl rfl (c_Model_isSpan5 (d := d) (x1 := x1) (x2 := x2) (x3 := x3) (x4 := x4)  (fun xp2 => ?_) (fun w3 w4 w5 w6 w7 w8 w9 w10 xp11 => ?_))
  ·
    show wp l rho (d + 3) 164 14 [(2, 151), (0, x1), (0, x2), (0, x3), (0, x4)] [(0, 0)] h1 Q
    have sp8 := xp2
    rw [e1a] at sp8
    refine w_ifeq (t := 29) gz_164_14 rfl (fun u12 => ?_) (fun u12 => by exfalso; omega)
    refine w_iconst gz_164_29 (by decide) ?_
    have c13 := (my_up_self fh1)
    exact w_iret gz_164_30 gm_164 (k0 h1 (gh1) (by omega) (by first | exact sp8 | exact ⟨sp8, ou8⟩ | assumption | omega))
  ·
    show wp l rho (d + 3) 164 14 [(2, 151), (0, x1), (0, x2), (0, x3), (0, x4)] [(0, 1)] h1 Q
    have sp8 := xp11
    rw [e1a] at sp8
    refine w_ifeq (t := 29) gz_164_14 rfl (fun u14 => by exfalso; omega) (fun u14 => ?_)
    refine w_aload_n gz_164_17 rfl ?_
    refine w_iload_n gz_164_18 rfl ?_
    refine w_iload_n gz_164_19 rfl ?_
    refine w_iload_n gz_164_20 rfl ?_
    refine w_iload gz_164_21 rfl ?_
    refine w_inv (k := 2) (as := [(0, x4), (0, x3), (0, x2), (0, x1)]) (r := []) (x := 151) (ls0 := [(2, 151), (0, x1), (0, x2), (0, x3), (0, x4), (9, 0), (9, 0)]) gz_164_23 gm_163 rfl is_151 rd_10 rfl rfl rfl rfl rfl (c_Model_outside5 (d := d) (x1 := x1) (x2 := x2) (x3 := x3) (x4 := x4) (by omega) (by omega) (by omega) (by omega) (by omega) (by omega) (by omega) (by omega) (fun v15 w16 w17 xp18 => ?_))
    show wp l rho (d + 3) 164 26 [(2, 151), (0, x1), (0, x2), (0, x3), (0, x4)] [(0, v15)] h1 Q
    have ou8 := xp18
    rw [e1s] at ou8
    refine w_goto (t := 30) gz_164_26 rfl ?_
    have c19 := (my_up_self fh1)
    exact w_iret gz_164_30 gm_164 (k1 h1 (v15) (gh1) (by omega) (by omega) (by omega) (by omega) (by omega) (by omega) (by omega) (by omega) (by omega) (by omega) (by omega) (by first | exact sp8 | exact ⟨sp8, ou8⟩ | assumption | omega))
theorem c_Model_span5 {l : Launch} {rho : Nat → Int32} {d : Nat} {h : my_H} {Q : my_H → my_V → Prop} {x1 x2 x3 x4 : Int} (k0 : ∀ (h' : my_H), my_fr [(10, 0), (57, -1), (58, -1)] h h' → h' 151 0 = 0 → ¬ (zySp (zqMA h) x1 x2 x3 x4 ∧ qOut (zqMS h 0) x1 x2 x3 x4 20 ≤ 0) → ((∀ j : Int, h' 158 j = h 158 j) ∧ ∀ j : Int, h' 159 j = h 159 j) → Q h' (0, 0)) (k1 : ∀ (h' : my_H), my_fr [(10, 0), (57, -1), (58, -1)] h h' → 0 ≤ x1 → x1 ≤ 2 → 0 ≤ x2 → x2 ≤ 3 → 0 ≤ x3 → x3 ≤ 19 → 0 ≤ x4 → x4 ≤ 19 → h' 151 0 = 0 → zySp (zqMA h) x1 x2 x3 x4 ∧ qOut (zqMS h 0) x1 x2 x3 x4 20 ≤ 0 → h' 158 = zyU (h 158) (4 * x1 + x2) x3 ∧ h' 159 = zyU (h 159) (4 * x1 + x2) x4 → Q h' (0, 1)) : wp l rho (d + 3) 160 0 [(2, 151), (0, x1), (0, x2), (0, x3), (0, x4)] [] h Q := by
  refine w_aload_n gz_160_0 rfl ?_
  refine w_iconst gz_160_1 (by decide) ?_
  refine v_putI (j := 0) gz_160_2 rfl is_151 rd_10 rfl (by omega) (by omega) rfl (fun h1 fh1 => ?_)
  have gh1 : my_fr [(10, 0), (57, -1), (58, -1)] h h1 := my_fr.up my_fr.rf is_151 fh1 rfl
  refine w_aload_n gz_160_5 rfl ?_
  refine w_iload_n gz_160_6 rfl ?_
  refine w_iload_n gz_160_7 rfl ?_
  refine w_iload_n gz_160_8 rfl ?_
  refine w_iload gz_160_9 rfl ?_
  have c157 : ∀ j : Int, h1 157 j = h 157 j := fun j => ((my_up_role fh1 is_157 is_151 rfl).trans (rfl : h 157 j = h 157 j))
  have c158 : ∀ j : Int, h1 158 j = h 158 j := fun j => ((my_up_role fh1 is_158 is_151 rfl).trans (rfl : h 158 j = h 158 j))
  have c159 : ∀ j : Int, h1 159 j = h 159 j := fun j => ((my_up_role fh1 is_159 is_151 rfl).trans (rfl : h 159 j = h 159 j))
  have c160 : ∀ j : Int, h1 160 j = h 160 j := fun j => ((my_up_role fh1 is_160 is_151 rfl).trans (rfl : h 160 j = h 160 j))
  have c161 : ∀ j : Int, h1 161 j = h 161 j := fun j => ((my_up_role fh1 is_161 is_151 rfl).trans (rfl : h 161 j = h 161 j))
  have b162 : ∀ j : Int, h1 162 j = h 162 j := fun j => ((my_up_role fh1 is_162 is_151 rfl).trans (rfl : h 162 j = h 162 j))
  have b163 : ∀ j : Int, h1 163 j = h 163 j := fun j => ((my_up_role fh1 is_163 is_151 rfl).trans (rfl : h 163 j = h 163 j))
  have e1a : zqMA h1 = zqMA h := zqMA_e c157 c158 c159 c160 c161
  have e1s : zqMS h1 0 = zqMS h 0 := MS_eq b162 b163
  refine w_inv (k := 0) (as := [(0, x4), (0, x3), (0, x2), (0, x1)]) (r := []) (x := 151) (ls0 := [(2, 151), (0, x1), (0, x2), (0, x3), (0, x4)]) gz_160_11 gm_161 rfl is_151 rd_10 rfl rfl rfl rfl rfl (c_Model_isSpan5 (d := d) (x1 := x1) (x2 := x2) (x3 := x3) (x4 := x4)  (fun xp2 => ?_) (fun w3 w4 w5 w6 w7 w8 w9 w10 xp11 => ?_))
  ·
    show wp l rho (d + 3) 160 14 [(2, 151), (0, x1), (0, x2), (0, x3), (0, x4)] [(0, 0)] h1 Q
    have sp8 := xp2
    rw [e1a] at sp8
    refine w_ifeq (t := 29) gz_160_14 rfl (fun u12 => ?_) (fun u12 => by exfalso; omega)
    refine w_iconst gz_160_29 (by decide) ?_
    have c13 := (my_up_self fh1)
    exact w_bret gz_160_30 gm_160 (by omega) (by omega) (k0 h1 (gh1) (by omega) (by first | exact ⟨sp8, by omega⟩ | exact (fun z => sp8 z.1) | exact (fun z => by have q := z.2; omega) | exact ⟨c158, c159⟩ | exact sp_2 c158 c159 f41 f53 (by omega) (by omega) | assumption | omega) (by first | exact ⟨sp8, by omega⟩ | exact (fun z => sp8 z.1) | exact (fun z => by have q := z.2; omega) | exact ⟨c158, c159⟩ | exact sp_2 c158 c159 f41 f53 (by omega) (by omega) | assumption | omega))
  ·
    show wp l rho (d + 3) 160 14 [(2, 151), (0, x1), (0, x2), (0, x3), (0, x4)] [(0, 1)] h1 Q
    have sp8 := xp11
    rw [e1a] at sp8
    refine w_ifeq (t := 29) gz_160_14 rfl (fun u14 => by exfalso; omega) (fun u14 => ?_)
    refine w_aload_n gz_160_17 rfl ?_
    refine w_iload_n gz_160_18 rfl ?_
    refine w_iload_n gz_160_19 rfl ?_
    refine w_iload_n gz_160_20 rfl ?_
    refine w_iload gz_160_21 rfl ?_
    refine w_inv (k := 2) (as := [(0, x4), (0, x3), (0, x2), (0, x1)]) (r := []) (x := 151) (ls0 := [(2, 151), (0, x1), (0, x2), (0, x3), (0, x4), (9, 0), (9, 0)]) gz_160_23 gm_163 rfl is_151 rd_10 rfl rfl rfl rfl rfl (c_Model_outside5 (d := d) (x1 := x1) (x2 := x2) (x3 := x3) (x4 := x4) (by omega) (by omega) (by omega) (by omega) (by omega) (by omega) (by omega) (by omega) (fun v15 w16 w17 xp18 => ?_))
    show wp l rho (d + 3) 160 26 [(2, 151), (0, x1), (0, x2), (0, x3), (0, x4)] [(0, v15)] h1 Q
    have ou8 := xp18
    rw [e1s] at ou8
    refine w_ifle (t := 31) gz_160_26 rfl (fun u19 => ?_) (fun u19 => ?_)
    ·
      refine w_aload_n gz_160_31 rfl ?_
      refine w_getX (v := 158) gz_160_32 is_151 rd_10 rfl (by decide) rfl ?_
      refine w_iconst gz_160_35 (by decide) ?_
      refine w_iload_n gz_160_36 rfl ?_
      refine w_imul gz_160_37 ⟨by omega, by omega⟩ ?_
      refine w_iload_n gz_160_38 rfl ?_
      refine w_iadd gz_160_39 ⟨by omega, by omega⟩ ?_
      refine w_iload_n gz_160_40 rfl ?_
      refine w_iast gz_160_41 is_158 rd_57 (by omega) (by omega) (by omega) (by omega) (fun h21 fh21 => ?_)
      have gh21 : my_fr [(10, 0), (57, -1), (58, -1)] h h21 := my_fr.up gh1 is_158 fh21 rfl
      have f41 := fh21
      refine w_aload_n gz_160_42 rfl ?_
      refine w_getX (v := 159) gz_160_43 is_151 rd_10 rfl (by decide) rfl ?_
      refine w_iconst gz_160_46 (by decide) ?_
      refine w_iload_n gz_160_47 rfl ?_
      refine w_imul gz_160_48 ⟨by omega, by omega⟩ ?_
      refine w_iload_n gz_160_49 rfl ?_
      refine w_iadd gz_160_50 ⟨by omega, by omega⟩ ?_
      refine w_iload gz_160_51 rfl ?_
      refine w_iast gz_160_53 is_159 rd_58 (by omega) (by omega) (by omega) (by omega) (fun h23 fh23 => ?_)
      have gh23 : my_fr [(10, 0), (57, -1), (58, -1)] h h23 := my_fr.up gh21 is_159 fh23 rfl
      have f53 := fh23
      refine w_iconst gz_160_54 (by decide) ?_
      have c24 := ((my_up_role fh23 is_151 is_159 rfl).trans ((my_up_role fh21 is_151 is_158 rfl).trans (my_up_self fh1)))
      exact w_bret gz_160_55 gm_160 (by omega) (by omega) (k1 h23 (gh23) (by omega) (by omega) (by omega) (by omega) (by omega) (by omega) (by omega) (by omega) (by omega) (by first | exact ⟨sp8, by omega⟩ | exact (fun z => sp8 z.1) | exact (fun z => by have q := z.2; omega) | exact ⟨c158, c159⟩ | exact sp_2 c158 c159 f41 f53 (by omega) (by omega) | assumption | omega) (by first | exact ⟨sp8, by omega⟩ | exact (fun z => sp8 z.1) | exact (fun z => by have q := z.2; omega) | exact ⟨c158, c159⟩ | exact sp_2 c158 c159 f41 f53 (by omega) (by omega) | assumption | omega))
    ·
      refine w_iconst gz_160_29 (by decide) ?_
      have c25 := (my_up_self fh1)
      exact w_bret gz_160_30 gm_160 (by omega) (by omega) (k0 h1 (gh1) (by omega) (by first | exact ⟨sp8, by omega⟩ | exact (fun z => sp8 z.1) | exact (fun z => by have q := z.2; omega) | exact ⟨c158, c159⟩ | exact sp_2 c158 c159 f41 f53 (by omega) (by omega) | assumption | omega) (by first | exact ⟨sp8, by omega⟩ | exact (fun z => sp8 z.1) | exact (fun z => by have q := z.2; omega) | exact ⟨c158, c159⟩ | exact sp_2 c158 c159 f41 f53 (by omega) (by omega) | assumption | omega))
theorem c_Model_names5 {l : Launch} {rho : Nat → Int32} {d : Nat} {h : my_H} {Q : my_H → my_V → Prop} {x1 x2 x3 : Int} (k0 : ∀ (h' : my_H), my_fr [(10, 0), (59, -1)] h h' → h' 151 0 = 0 → ¬ (zyNm (zqMA h) x1 x2 x3 ∧ zqLf (zyN (zqMA h) x1 x2 x3) (zqMS h 0)) → (∀ j : Int, h' 160 j = h 160 j) → Q h' (0, 0)) (k1 : ∀ (h' : my_H), my_fr [(10, 0), (59, -1)] h h' → 0 ≤ x1 → x1 ≤ 2 → 1 ≤ x2 → x2 ≤ 3 → (-1) ≤ x3 → x3 ≤ 2 → h' 151 0 = 0 → zyNm (zqMA h) x1 x2 x3 ∧ zqLf (zyN (zqMA h) x1 x2 x3) (zqMS h 0) → h' 160 = zyU (h 160) (4 * x1 + x2) x3 → Q h' (0, 1)) : wp l rho (d + 4) 165 0 [(2, 151), (0, x1), (0, x2), (0, x3), (9, 0)] [] h Q := by
  refine w_aload_n gz_165_0 rfl ?_
  refine w_iconst gz_165_1 (by decide) ?_
  refine v_putI (j := 0) gz_165_2 rfl is_151 rd_10 rfl (by omega) (by omega) rfl (fun h1 fh1 => ?_)
  have gh1 : my_fr [(10, 0), (59, -1)] h h1 := my_fr.up my_fr.rf is_151 fh1 rfl
  refine w_aload_n gz_165_5 rfl ?_
  refine w_iload_n gz_165_6 rfl ?_
  refine w_iload_n gz_165_7 rfl ?_
  have c157 : ∀ j : Int, h1 157 j = h 157 j := fun j => ((my_up_role fh1 is_157 is_151 rfl).trans (rfl : h 157 j = h 157 j))
  have c158 : ∀ j : Int, h1 158 j = h 158 j := fun j => ((my_up_role fh1 is_158 is_151 rfl).trans (rfl : h 158 j = h 158 j))
  have c159 : ∀ j : Int, h1 159 j = h 159 j := fun j => ((my_up_role fh1 is_159 is_151 rfl).trans (rfl : h 159 j = h 159 j))
  have c160 : ∀ j : Int, h1 160 j = h 160 j := fun j => ((my_up_role fh1 is_160 is_151 rfl).trans (rfl : h 160 j = h 160 j))
  have c161 : ∀ j : Int, h1 161 j = h 161 j := fun j => ((my_up_role fh1 is_161 is_151 rfl).trans (rfl : h 161 j = h 161 j))
  have b162 : ∀ j : Int, h1 162 j = h 162 j := fun j => ((my_up_role fh1 is_162 is_151 rfl).trans (rfl : h 162 j = h 162 j))
  have b163 : ∀ j : Int, h1 163 j = h 163 j := fun j => ((my_up_role fh1 is_163 is_151 rfl).trans (rfl : h 163 j = h 163 j))
  have n1 := c157 x1
  have n3 := c157 x3
  refine w_inv (k := 0) (as := [(0, x2), (0, x1)]) (r := []) (x := 151) (ls0 := [(2, 151), (0, x1), (0, x2)]) gz_165_8 gm_162 rfl is_151 rd_10 rfl rfl rfl rfl rfl ?_
  refine w_aload_n gz_162_0 rfl ?_
  refine w_iload_n gz_162_1 rfl ?_
  refine w_inv (k := 0) (as := [(0, x1)]) (r := []) (x := 151) (ls0 := [(2, 151), (0, x1)]) gz_162_2 gm_149 rfl is_151 rd_10 rfl rfl rfl rfl rfl ?_
  refine w_iload_n gz_149_0 rfl ?_
  refine w_iflt (t := 22) gz_149_1 rfl (fun u2 => ?_) (fun u2 => ?_)
  ·
    refine w_iconst gz_149_22 (by decide) ?_
    refine w_bret gz_149_23 gm_149 (by omega) (by omega) ?_
    show wp l rho (d + 3) 162 5 [(2, 151), (0, x1), (0, x2)] [(0, 0)] h1 _
    refine w_ifeq (t := 26) gz_162_5 rfl (fun u3 => ?_) (fun u3 => by exfalso; omega)
    refine w_iconst gz_162_26 (by decide) ?_
    refine w_bret gz_162_27 gm_162 (by omega) (by omega) ?_
    show wp l rho (d + 4) 165 11 [(2, 151), (0, x1), (0, x2), (0, x3), (9, 0)] [(0, 0)] h1 Q
    refine w_ifeq (t := 36) gz_165_11 rfl (fun u4 => ?_) (fun u4 => by exfalso; omega)
    refine w_iconst gz_165_36 (by decide) ?_
    have c5 := (my_up_self fh1)
    exact w_bret gz_165_37 gm_165 (by omega) (by omega) (k0 h1 (gh1) (by omega) (by first | exact ⟨(show ((0 ≤ x1 ∧ x1 ≤ 2) ∧ 0 ≤ x2 ∧ x2 < h 157 x1) ∧ x2 ≠ 0 ∧ (x3 = -1 ∨ (x3 ≠ x1 ∧ 0 ≤ x3 ∧ x3 ≤ 2 ∧ 0 < h 157 x3)) by omega), nm_1 T8 ma8 e1s lf8⟩ | exact c160w c160 f60 (by omega) | exact (fun z => by have z1 : ((0 ≤ x1 ∧ x1 ≤ 2) ∧ 0 ≤ x2 ∧ x2 < h 157 x1) ∧ x2 ≠ 0 ∧ (x3 = -1 ∨ (x3 ≠ x1 ∧ 0 ≤ x3 ∧ x3 ≤ 2 ∧ 0 < h 157 x3)) := z.1; omega) | exact (fun z => lf8 (nm_2 T8 ma8 e1s z.2)) | exact c160 | exact (fun j => (up_back f60 f80 (by omega) (by omega) j).trans (c160 j)) | assumption | omega) (by first | exact ⟨(show ((0 ≤ x1 ∧ x1 ≤ 2) ∧ 0 ≤ x2 ∧ x2 < h 157 x1) ∧ x2 ≠ 0 ∧ (x3 = -1 ∨ (x3 ≠ x1 ∧ 0 ≤ x3 ∧ x3 ≤ 2 ∧ 0 < h 157 x3)) by omega), nm_1 T8 ma8 e1s lf8⟩ | exact c160w c160 f60 (by omega) | exact (fun z => by have z1 : ((0 ≤ x1 ∧ x1 ≤ 2) ∧ 0 ≤ x2 ∧ x2 < h 157 x1) ∧ x2 ≠ 0 ∧ (x3 = -1 ∨ (x3 ≠ x1 ∧ 0 ≤ x3 ∧ x3 ≤ 2 ∧ 0 < h 157 x3)) := z.1; omega) | exact (fun z => lf8 (nm_2 T8 ma8 e1s z.2)) | exact c160 | exact (fun j => (up_back f60 f80 (by omega) (by omega) j).trans (c160 j)) | assumption | omega))
  ·
    refine w_iload_n gz_149_4 rfl ?_
    refine w_iconst gz_149_5 (by decide) ?_
    refine w_icge (t := 22) gz_149_6 rfl (fun u6 => ?_) (fun u6 => ?_)
    ·
      refine w_iconst gz_149_22 (by decide) ?_
      refine w_bret gz_149_23 gm_149 (by omega) (by omega) ?_
      show wp l rho (d + 3) 162 5 [(2, 151), (0, x1), (0, x2)] [(0, 0)] h1 _
      refine w_ifeq (t := 26) gz_162_5 rfl (fun u7 => ?_) (fun u7 => by exfalso; omega)
      refine w_iconst gz_162_26 (by decide) ?_
      refine w_bret gz_162_27 gm_162 (by omega) (by omega) ?_
      show wp l rho (d + 4) 165 11 [(2, 151), (0, x1), (0, x2), (0, x3), (9, 0)] [(0, 0)] h1 Q
      refine w_ifeq (t := 36) gz_165_11 rfl (fun u8 => ?_) (fun u8 => by exfalso; omega)
      refine w_iconst gz_165_36 (by decide) ?_
      have c9 := (my_up_self fh1)
      exact w_bret gz_165_37 gm_165 (by omega) (by omega) (k0 h1 (gh1) (by omega) (by first | exact ⟨(show ((0 ≤ x1 ∧ x1 ≤ 2) ∧ 0 ≤ x2 ∧ x2 < h 157 x1) ∧ x2 ≠ 0 ∧ (x3 = -1 ∨ (x3 ≠ x1 ∧ 0 ≤ x3 ∧ x3 ≤ 2 ∧ 0 < h 157 x3)) by omega), nm_1 T8 ma8 e1s lf8⟩ | exact c160w c160 f60 (by omega) | exact (fun z => by have z1 : ((0 ≤ x1 ∧ x1 ≤ 2) ∧ 0 ≤ x2 ∧ x2 < h 157 x1) ∧ x2 ≠ 0 ∧ (x3 = -1 ∨ (x3 ≠ x1 ∧ 0 ≤ x3 ∧ x3 ≤ 2 ∧ 0 < h 157 x3)) := z.1; omega) | exact (fun z => lf8 (nm_2 T8 ma8 e1s z.2)) | exact c160 | exact (fun j => (up_back f60 f80 (by omega) (by omega) j).trans (c160 j)) | assumption | omega) (by first | exact ⟨(show ((0 ≤ x1 ∧ x1 ≤ 2) ∧ 0 ≤ x2 ∧ x2 < h 157 x1) ∧ x2 ≠ 0 ∧ (x3 = -1 ∨ (x3 ≠ x1 ∧ 0 ≤ x3 ∧ x3 ≤ 2 ∧ 0 < h 157 x3)) by omega), nm_1 T8 ma8 e1s lf8⟩ | exact c160w c160 f60 (by omega) | exact (fun z => by have z1 : ((0 ≤ x1 ∧ x1 ≤ 2) ∧ 0 ≤ x2 ∧ x2 < h 157 x1) ∧ x2 ≠ 0 ∧ (x3 = -1 ∨ (x3 ≠ x1 ∧ 0 ≤ x3 ∧ x3 ≤ 2 ∧ 0 < h 157 x3)) := z.1; omega) | exact (fun z => lf8 (nm_2 T8 ma8 e1s z.2)) | exact c160 | exact (fun j => (up_back f60 f80 (by omega) (by omega) j).trans (c160 j)) | assumption | omega))
    ·
      refine w_aload_n gz_149_9 rfl ?_
      refine w_getX (v := 157) gz_149_10 is_151 rd_10 rfl (by decide) rfl ?_
      refine w_iload_n gz_149_13 rfl ?_
      refine w_iald gz_149_14 is_157 rd_56 (by omega) (by omega) (fun v11 ev11 pv11 qv11 => ?_)
      refine w_ifle (t := 22) gz_149_15 rfl (fun u12 => ?_) (fun u12 => ?_)
      ·
        refine w_iconst gz_149_22 (by decide) ?_
        refine w_bret gz_149_23 gm_149 (by omega) (by omega) ?_
        show wp l rho (d + 3) 162 5 [(2, 151), (0, x1), (0, x2)] [(0, 0)] h1 _
        refine w_ifeq (t := 26) gz_162_5 rfl (fun u13 => ?_) (fun u13 => by exfalso; omega)
        refine w_iconst gz_162_26 (by decide) ?_
        refine w_bret gz_162_27 gm_162 (by omega) (by omega) ?_
        show wp l rho (d + 4) 165 11 [(2, 151), (0, x1), (0, x2), (0, x3), (9, 0)] [(0, 0)] h1 Q
        refine w_ifeq (t := 36) gz_165_11 rfl (fun u14 => ?_) (fun u14 => by exfalso; omega)
        refine w_iconst gz_165_36 (by decide) ?_
        have c15 := (my_up_self fh1)
        exact w_bret gz_165_37 gm_165 (by omega) (by omega) (k0 h1 (gh1) (by omega) (by first | exact ⟨(show ((0 ≤ x1 ∧ x1 ≤ 2) ∧ 0 ≤ x2 ∧ x2 < h 157 x1) ∧ x2 ≠ 0 ∧ (x3 = -1 ∨ (x3 ≠ x1 ∧ 0 ≤ x3 ∧ x3 ≤ 2 ∧ 0 < h 157 x3)) by omega), nm_1 T8 ma8 e1s lf8⟩ | exact c160w c160 f60 (by omega) | exact (fun z => by have z1 : ((0 ≤ x1 ∧ x1 ≤ 2) ∧ 0 ≤ x2 ∧ x2 < h 157 x1) ∧ x2 ≠ 0 ∧ (x3 = -1 ∨ (x3 ≠ x1 ∧ 0 ≤ x3 ∧ x3 ≤ 2 ∧ 0 < h 157 x3)) := z.1; omega) | exact (fun z => lf8 (nm_2 T8 ma8 e1s z.2)) | exact c160 | exact (fun j => (up_back f60 f80 (by omega) (by omega) j).trans (c160 j)) | assumption | omega) (by first | exact ⟨(show ((0 ≤ x1 ∧ x1 ≤ 2) ∧ 0 ≤ x2 ∧ x2 < h 157 x1) ∧ x2 ≠ 0 ∧ (x3 = -1 ∨ (x3 ≠ x1 ∧ 0 ≤ x3 ∧ x3 ≤ 2 ∧ 0 < h 157 x3)) by omega), nm_1 T8 ma8 e1s lf8⟩ | exact c160w c160 f60 (by omega) | exact (fun z => by have z1 : ((0 ≤ x1 ∧ x1 ≤ 2) ∧ 0 ≤ x2 ∧ x2 < h 157 x1) ∧ x2 ≠ 0 ∧ (x3 = -1 ∨ (x3 ≠ x1 ∧ 0 ≤ x3 ∧ x3 ≤ 2 ∧ 0 < h 157 x3)) := z.1; omega) | exact (fun z => lf8 (nm_2 T8 ma8 e1s z.2)) | exact c160 | exact (fun j => (up_back f60 f80 (by omega) (by omega) j).trans (c160 j)) | assumption | omega))
      ·
        refine w_iconst gz_149_18 (by decide) ?_
        refine w_goto (t := 23) gz_149_19 rfl ?_
        refine w_bret gz_149_23 gm_149 (by omega) (by omega) ?_
        show wp l rho (d + 3) 162 5 [(2, 151), (0, x1), (0, x2)] [(0, 1)] h1 _
        refine w_ifeq (t := 26) gz_162_5 rfl (fun u16 => by exfalso; omega) (fun u16 => ?_)
        refine w_iload_n gz_162_8 rfl ?_
        refine w_iflt (t := 26) gz_162_9 rfl (fun u17 => ?_) (fun u17 => ?_)
        ·
          refine w_iconst gz_162_26 (by decide) ?_
          refine w_bret gz_162_27 gm_162 (by omega) (by omega) ?_
          show wp l rho (d + 4) 165 11 [(2, 151), (0, x1), (0, x2), (0, x3), (9, 0)] [(0, 0)] h1 Q
          refine w_ifeq (t := 36) gz_165_11 rfl (fun u18 => ?_) (fun u18 => by exfalso; omega)
          refine w_iconst gz_165_36 (by decide) ?_
          have c19 := (my_up_self fh1)
          exact w_bret gz_165_37 gm_165 (by omega) (by omega) (k0 h1 (gh1) (by omega) (by first | exact ⟨(show ((0 ≤ x1 ∧ x1 ≤ 2) ∧ 0 ≤ x2 ∧ x2 < h 157 x1) ∧ x2 ≠ 0 ∧ (x3 = -1 ∨ (x3 ≠ x1 ∧ 0 ≤ x3 ∧ x3 ≤ 2 ∧ 0 < h 157 x3)) by omega), nm_1 T8 ma8 e1s lf8⟩ | exact c160w c160 f60 (by omega) | exact (fun z => by have z1 : ((0 ≤ x1 ∧ x1 ≤ 2) ∧ 0 ≤ x2 ∧ x2 < h 157 x1) ∧ x2 ≠ 0 ∧ (x3 = -1 ∨ (x3 ≠ x1 ∧ 0 ≤ x3 ∧ x3 ≤ 2 ∧ 0 < h 157 x3)) := z.1; omega) | exact (fun z => lf8 (nm_2 T8 ma8 e1s z.2)) | exact c160 | exact (fun j => (up_back f60 f80 (by omega) (by omega) j).trans (c160 j)) | assumption | omega) (by first | exact ⟨(show ((0 ≤ x1 ∧ x1 ≤ 2) ∧ 0 ≤ x2 ∧ x2 < h 157 x1) ∧ x2 ≠ 0 ∧ (x3 = -1 ∨ (x3 ≠ x1 ∧ 0 ≤ x3 ∧ x3 ≤ 2 ∧ 0 < h 157 x3)) by omega), nm_1 T8 ma8 e1s lf8⟩ | exact c160w c160 f60 (by omega) | exact (fun z => by have z1 : ((0 ≤ x1 ∧ x1 ≤ 2) ∧ 0 ≤ x2 ∧ x2 < h 157 x1) ∧ x2 ≠ 0 ∧ (x3 = -1 ∨ (x3 ≠ x1 ∧ 0 ≤ x3 ∧ x3 ≤ 2 ∧ 0 < h 157 x3)) := z.1; omega) | exact (fun z => lf8 (nm_2 T8 ma8 e1s z.2)) | exact c160 | exact (fun j => (up_back f60 f80 (by omega) (by omega) j).trans (c160 j)) | assumption | omega))
        ·
          refine w_iload_n gz_162_12 rfl ?_
          refine w_aload_n gz_162_13 rfl ?_
          refine w_getX (v := 157) gz_162_14 is_151 rd_10 rfl (by decide) rfl ?_
          refine w_iload_n gz_162_17 rfl ?_
          refine w_iald gz_162_18 is_157 rd_56 (by omega) (by omega) (fun v21 ev21 pv21 qv21 => ?_)
          have zv21 := ev21.trans ev11.symm
          refine w_icge (t := 26) gz_162_19 rfl (fun u22 => ?_) (fun u22 => ?_)
          ·
            refine w_iconst gz_162_26 (by decide) ?_
            refine w_bret gz_162_27 gm_162 (by omega) (by omega) ?_
            show wp l rho (d + 4) 165 11 [(2, 151), (0, x1), (0, x2), (0, x3), (9, 0)] [(0, 0)] h1 Q
            refine w_ifeq (t := 36) gz_165_11 rfl (fun u23 => ?_) (fun u23 => by exfalso; omega)
            refine w_iconst gz_165_36 (by decide) ?_
            have c24 := (my_up_self fh1)
            exact w_bret gz_165_37 gm_165 (by omega) (by omega) (k0 h1 (gh1) (by omega) (by first | exact ⟨(show ((0 ≤ x1 ∧ x1 ≤ 2) ∧ 0 ≤ x2 ∧ x2 < h 157 x1) ∧ x2 ≠ 0 ∧ (x3 = -1 ∨ (x3 ≠ x1 ∧ 0 ≤ x3 ∧ x3 ≤ 2 ∧ 0 < h 157 x3)) by omega), nm_1 T8 ma8 e1s lf8⟩ | exact c160w c160 f60 (by omega) | exact (fun z => by have z1 : ((0 ≤ x1 ∧ x1 ≤ 2) ∧ 0 ≤ x2 ∧ x2 < h 157 x1) ∧ x2 ≠ 0 ∧ (x3 = -1 ∨ (x3 ≠ x1 ∧ 0 ≤ x3 ∧ x3 ≤ 2 ∧ 0 < h 157 x3)) := z.1; omega) | exact (fun z => lf8 (nm_2 T8 ma8 e1s z.2)) | exact c160 | exact (fun j => (up_back f60 f80 (by omega) (by omega) j).trans (c160 j)) | assumption | omega) (by first | exact ⟨(show ((0 ≤ x1 ∧ x1 ≤ 2) ∧ 0 ≤ x2 ∧ x2 < h 157 x1) ∧ x2 ≠ 0 ∧ (x3 = -1 ∨ (x3 ≠ x1 ∧ 0 ≤ x3 ∧ x3 ≤ 2 ∧ 0 < h 157 x3)) by omega), nm_1 T8 ma8 e1s lf8⟩ | exact c160w c160 f60 (by omega) | exact (fun z => by have z1 : ((0 ≤ x1 ∧ x1 ≤ 2) ∧ 0 ≤ x2 ∧ x2 < h 157 x1) ∧ x2 ≠ 0 ∧ (x3 = -1 ∨ (x3 ≠ x1 ∧ 0 ≤ x3 ∧ x3 ≤ 2 ∧ 0 < h 157 x3)) := z.1; omega) | exact (fun z => lf8 (nm_2 T8 ma8 e1s z.2)) | exact c160 | exact (fun j => (up_back f60 f80 (by omega) (by omega) j).trans (c160 j)) | assumption | omega))
          ·
            refine w_iconst gz_162_22 (by decide) ?_
            refine w_goto (t := 27) gz_162_23 rfl ?_
            refine w_bret gz_162_27 gm_162 (by omega) (by omega) ?_
            show wp l rho (d + 4) 165 11 [(2, 151), (0, x1), (0, x2), (0, x3), (9, 0)] [(0, 1)] h1 Q
            refine w_ifeq (t := 36) gz_165_11 rfl (fun u25 => by exfalso; omega) (fun u25 => ?_)
            refine w_iload_n gz_165_14 rfl ?_
            refine w_ifeq (t := 36) gz_165_15 rfl (fun u26 => ?_) (fun u26 => ?_)
            ·
              refine w_iconst gz_165_36 (by decide) ?_
              have c27 := (my_up_self fh1)
              exact w_bret gz_165_37 gm_165 (by omega) (by omega) (k0 h1 (gh1) (by omega) (by first | exact ⟨(show ((0 ≤ x1 ∧ x1 ≤ 2) ∧ 0 ≤ x2 ∧ x2 < h 157 x1) ∧ x2 ≠ 0 ∧ (x3 = -1 ∨ (x3 ≠ x1 ∧ 0 ≤ x3 ∧ x3 ≤ 2 ∧ 0 < h 157 x3)) by omega), nm_1 T8 ma8 e1s lf8⟩ | exact c160w c160 f60 (by omega) | exact (fun z => by have z1 : ((0 ≤ x1 ∧ x1 ≤ 2) ∧ 0 ≤ x2 ∧ x2 < h 157 x1) ∧ x2 ≠ 0 ∧ (x3 = -1 ∨ (x3 ≠ x1 ∧ 0 ≤ x3 ∧ x3 ≤ 2 ∧ 0 < h 157 x3)) := z.1; omega) | exact (fun z => lf8 (nm_2 T8 ma8 e1s z.2)) | exact c160 | exact (fun j => (up_back f60 f80 (by omega) (by omega) j).trans (c160 j)) | assumption | omega) (by first | exact ⟨(show ((0 ≤ x1 ∧ x1 ≤ 2) ∧ 0 ≤ x2 ∧ x2 < h 157 x1) ∧ x2 ≠ 0 ∧ (x3 = -1 ∨ (x3 ≠ x1 ∧ 0 ≤ x3 ∧ x3 ≤ 2 ∧ 0 < h 157 x3)) by omega), nm_1 T8 ma8 e1s lf8⟩ | exact c160w c160 f60 (by omega) | exact (fun z => by have z1 : ((0 ≤ x1 ∧ x1 ≤ 2) ∧ 0 ≤ x2 ∧ x2 < h 157 x1) ∧ x2 ≠ 0 ∧ (x3 = -1 ∨ (x3 ≠ x1 ∧ 0 ≤ x3 ∧ x3 ≤ 2 ∧ 0 < h 157 x3)) := z.1; omega) | exact (fun z => lf8 (nm_2 T8 ma8 e1s z.2)) | exact c160 | exact (fun j => (up_back f60 f80 (by omega) (by omega) j).trans (c160 j)) | assumption | omega))
            ·
              refine w_iload_n gz_165_18 rfl ?_
              refine w_iconst gz_165_19 (by decide) ?_
              refine w_iceq (t := 38) gz_165_20 rfl (fun u28 => ?_) (fun u28 => ?_)
              ·
                refine w_aload_n gz_165_38 rfl ?_
                refine w_getX (v := 160) gz_165_39 is_151 rd_10 rfl (by decide) rfl ?_
                refine w_iconst gz_165_42 (by decide) ?_
                refine w_iload_n gz_165_43 rfl ?_
                refine w_imul gz_165_44 ⟨by omega, by omega⟩ ?_
                refine w_iload_n gz_165_45 rfl ?_
                refine w_iadd gz_165_46 ⟨by omega, by omega⟩ ?_
                have w47 := c160 x1
                refine w_iald gz_165_47 is_160 rd_59 (by omega) (by omega) (fun v30 ev30 pv30 qv30 => ?_)
                refine w_istore (ls' := [(2, 151), (0, x1), (0, x2), (0, x3), (0, v30)]) gz_165_48 gm_165 rfl rfl rfl ?_
                refine w_aload_n gz_165_50 rfl ?_
                refine w_getX (v := 160) gz_165_51 is_151 rd_10 rfl (by decide) rfl ?_
                refine w_iconst gz_165_54 (by decide) ?_
                refine w_iload_n gz_165_55 rfl ?_
                refine w_imul gz_165_56 ⟨by omega, by omega⟩ ?_
                refine w_iload_n gz_165_57 rfl ?_
                refine w_iadd gz_165_58 ⟨by omega, by omega⟩ ?_
                refine w_iload_n gz_165_59 rfl ?_
                refine w_iast gz_165_60 is_160 rd_59 (by omega) (by omega) (by omega) (by omega) (fun h32 fh32 => ?_)
                have gh32 : my_fr [(10, 0), (59, -1)] h h32 := my_fr.up gh1 is_160 fh32 rfl
                have f60 := fh32
                have b162w : ∀ j : Int, h32 162 j = h 162 j := fun j => ((my_up_role fh32 is_162 is_160 rfl).trans ((my_up_role fh1 is_162 is_151 rfl).trans (rfl : h 162 j = h 162 j)))
                have b163w : ∀ j : Int, h32 163 j = h 163 j := fun j => ((my_up_role fh32 is_163 is_160 rfl).trans ((my_up_role fh1 is_163 is_151 rfl).trans (rfl : h 163 j = h 163 j)))
                have d157 : ∀ j : Int, h32 157 j = h 157 j := fun j => ((my_up_role fh32 is_157 is_160 rfl).trans ((my_up_role fh1 is_157 is_151 rfl).trans (rfl : h 157 j = h 157 j)))
                have d158 : ∀ j : Int, h32 158 j = h 158 j := fun j => ((my_up_role fh32 is_158 is_160 rfl).trans ((my_up_role fh1 is_158 is_151 rfl).trans (rfl : h 158 j = h 158 j)))
                have d159 : ∀ j : Int, h32 159 j = h 159 j := fun j => ((my_up_role fh32 is_159 is_160 rfl).trans ((my_up_role fh1 is_159 is_151 rfl).trans (rfl : h 159 j = h 159 j)))
                have d161 : ∀ j : Int, h32 161 j = h 161 j := fun j => ((my_up_role fh32 is_161 is_160 rfl).trans ((my_up_role fh1 is_161 is_151 rfl).trans (rfl : h 161 j = h 161 j)))
                refine w_aload_n gz_165_61 rfl ?_
                refine w_iconst gz_165_62 (by decide) ?_
                refine v_knowA (x := 162) pis_162 rd_61 (fun kT9 => ?_)
                refine v_knowA (x := 163) pis_163 rd_62 (fun kV9 => ?_)
                refine v_knowA (x := 160) pis_160 rd_59 (fun kN9 => ?_)
                refine v_knowA (x := 157) pis_157 rd_56 (fun kC9 => ?_)
                have T8 : MTy h32 := ⟨kV9, kT9, kN9, kC9⟩
                have ma8 : zqMA h32 = zyN (zqMA h) x1 x2 x3 := zyN_m d157 d158 d159 d161 (c160w c160 f60 (by omega))
                have e1s : zqMS h32 0 = zqMS h 0 := MS_eq b162w b163w
                refine w_inv (k := 2) (as := [(0, 0)]) (r := []) (x := 151) (ls0 := [(2, 151), (0, 0), (9, 0), (9, 0)]) gz_165_63 gm_155 rfl is_151 rd_10 rfl rfl rfl rfl rfl (c_Model_isLawful5 (d := d) (x1 := 0) (by omega) (by omega) (fun xp33 => ?_) (fun xp34 => ?_))
                ·
                  show wp l rho (d + 4) 165 66 [(2, 151), (0, x1), (0, x2), (0, x3), (0, v30)] [(0, 0)] h32 Q
                  have lf8 := xp33
                  refine w_ifne (t := 83) gz_165_66 rfl (fun u35 => by exfalso; omega) (fun u35 => ?_)
                  refine w_aload_n gz_165_69 rfl ?_
                  refine w_getX (v := 160) gz_165_70 is_151 rd_10 rfl (by decide) rfl ?_
                  refine w_iconst gz_165_73 (by decide) ?_
                  refine w_iload_n gz_165_74 rfl ?_
                  refine w_imul gz_165_75 ⟨by omega, by omega⟩ ?_
                  refine w_iload_n gz_165_76 rfl ?_
                  refine w_iadd gz_165_77 ⟨by omega, by omega⟩ ?_
                  refine w_iload gz_165_78 rfl ?_
                  refine w_iast gz_165_80 is_160 rd_59 (by omega) (by omega) (by omega) (by omega) (fun h37 fh37 => ?_)
                  have gh37 : my_fr [(10, 0), (59, -1)] h h37 := my_fr.up gh32 is_160 fh37 rfl
                  have f80 := fh37
                  refine w_iconst gz_165_81 (by decide) ?_
                  have c38 := ((my_up_role fh37 is_151 is_160 rfl).trans ((my_up_role fh32 is_151 is_160 rfl).trans (my_up_self fh1)))
                  exact w_bret gz_165_82 gm_165 (by omega) (by omega) (k0 h37 (gh37) (by omega) (by first | exact ⟨(show ((0 ≤ x1 ∧ x1 ≤ 2) ∧ 0 ≤ x2 ∧ x2 < h 157 x1) ∧ x2 ≠ 0 ∧ (x3 = -1 ∨ (x3 ≠ x1 ∧ 0 ≤ x3 ∧ x3 ≤ 2 ∧ 0 < h 157 x3)) by omega), nm_1 T8 ma8 e1s lf8⟩ | exact c160w c160 f60 (by omega) | exact (fun z => by have z1 : ((0 ≤ x1 ∧ x1 ≤ 2) ∧ 0 ≤ x2 ∧ x2 < h 157 x1) ∧ x2 ≠ 0 ∧ (x3 = -1 ∨ (x3 ≠ x1 ∧ 0 ≤ x3 ∧ x3 ≤ 2 ∧ 0 < h 157 x3)) := z.1; omega) | exact (fun z => lf8 (nm_2 T8 ma8 e1s z.2)) | exact c160 | exact (fun j => (up_back f60 f80 (by omega) (by omega) j).trans (c160 j)) | assumption | omega) (by first | exact ⟨(show ((0 ≤ x1 ∧ x1 ≤ 2) ∧ 0 ≤ x2 ∧ x2 < h 157 x1) ∧ x2 ≠ 0 ∧ (x3 = -1 ∨ (x3 ≠ x1 ∧ 0 ≤ x3 ∧ x3 ≤ 2 ∧ 0 < h 157 x3)) by omega), nm_1 T8 ma8 e1s lf8⟩ | exact c160w c160 f60 (by omega) | exact (fun z => by have z1 : ((0 ≤ x1 ∧ x1 ≤ 2) ∧ 0 ≤ x2 ∧ x2 < h 157 x1) ∧ x2 ≠ 0 ∧ (x3 = -1 ∨ (x3 ≠ x1 ∧ 0 ≤ x3 ∧ x3 ≤ 2 ∧ 0 < h 157 x3)) := z.1; omega) | exact (fun z => lf8 (nm_2 T8 ma8 e1s z.2)) | exact c160 | exact (fun j => (up_back f60 f80 (by omega) (by omega) j).trans (c160 j)) | assumption | omega))
                ·
                  show wp l rho (d + 4) 165 66 [(2, 151), (0, x1), (0, x2), (0, x3), (0, v30)] [(0, 1)] h32 Q
                  have lf8 := xp34
                  refine w_ifne (t := 83) gz_165_66 rfl (fun u39 => ?_) (fun u39 => by exfalso; omega)
                  refine w_iconst gz_165_83 (by decide) ?_
                  have c40 := ((my_up_role fh32 is_151 is_160 rfl).trans (my_up_self fh1))
                  exact w_bret gz_165_84 gm_165 (by omega) (by omega) (k1 h32 (gh32) (by omega) (by omega) (by omega) (by omega) (by omega) (by omega) (by omega) (by first | exact ⟨(show ((0 ≤ x1 ∧ x1 ≤ 2) ∧ 0 ≤ x2 ∧ x2 < h 157 x1) ∧ x2 ≠ 0 ∧ (x3 = -1 ∨ (x3 ≠ x1 ∧ 0 ≤ x3 ∧ x3 ≤ 2 ∧ 0 < h 157 x3)) by omega), nm_1 T8 ma8 e1s lf8⟩ | exact c160w c160 f60 (by omega) | exact (fun z => by have z1 : ((0 ≤ x1 ∧ x1 ≤ 2) ∧ 0 ≤ x2 ∧ x2 < h 157 x1) ∧ x2 ≠ 0 ∧ (x3 = -1 ∨ (x3 ≠ x1 ∧ 0 ≤ x3 ∧ x3 ≤ 2 ∧ 0 < h 157 x3)) := z.1; omega) | exact (fun z => lf8 (nm_2 T8 ma8 e1s z.2)) | exact c160 | exact (fun j => (up_back f60 f80 (by omega) (by omega) j).trans (c160 j)) | assumption | omega) (by first | exact ⟨(show ((0 ≤ x1 ∧ x1 ≤ 2) ∧ 0 ≤ x2 ∧ x2 < h 157 x1) ∧ x2 ≠ 0 ∧ (x3 = -1 ∨ (x3 ≠ x1 ∧ 0 ≤ x3 ∧ x3 ≤ 2 ∧ 0 < h 157 x3)) by omega), nm_1 T8 ma8 e1s lf8⟩ | exact c160w c160 f60 (by omega) | exact (fun z => by have z1 : ((0 ≤ x1 ∧ x1 ≤ 2) ∧ 0 ≤ x2 ∧ x2 < h 157 x1) ∧ x2 ≠ 0 ∧ (x3 = -1 ∨ (x3 ≠ x1 ∧ 0 ≤ x3 ∧ x3 ≤ 2 ∧ 0 < h 157 x3)) := z.1; omega) | exact (fun z => lf8 (nm_2 T8 ma8 e1s z.2)) | exact c160 | exact (fun j => (up_back f60 f80 (by omega) (by omega) j).trans (c160 j)) | assumption | omega))
              ·
                refine w_aload_n gz_165_23 rfl ?_
                refine w_iload_n gz_165_24 rfl ?_
                refine w_inv (k := 0) (as := [(0, x3)]) (r := []) (x := 151) (ls0 := [(2, 151), (0, x3)]) gz_165_25 gm_149 rfl is_151 rd_10 rfl rfl rfl rfl rfl ?_
                refine w_iload_n gz_149_0 rfl ?_
                refine w_iflt (t := 22) gz_149_1 rfl (fun u41 => ?_) (fun u41 => ?_)
                ·
                  refine w_iconst gz_149_22 (by decide) ?_
                  refine w_bret gz_149_23 gm_149 (by omega) (by omega) ?_
                  show wp l rho (d + 4) 165 28 [(2, 151), (0, x1), (0, x2), (0, x3), (9, 0)] [(0, 0)] h1 Q
                  refine w_ifeq (t := 36) gz_165_28 rfl (fun u42 => ?_) (fun u42 => by exfalso; omega)
                  refine w_iconst gz_165_36 (by decide) ?_
                  have c43 := (my_up_self fh1)
                  exact w_bret gz_165_37 gm_165 (by omega) (by omega) (k0 h1 (gh1) (by omega) (by first | exact ⟨(show ((0 ≤ x1 ∧ x1 ≤ 2) ∧ 0 ≤ x2 ∧ x2 < h 157 x1) ∧ x2 ≠ 0 ∧ (x3 = -1 ∨ (x3 ≠ x1 ∧ 0 ≤ x3 ∧ x3 ≤ 2 ∧ 0 < h 157 x3)) by omega), nm_1 T8 ma8 e1s lf8⟩ | exact c160w c160 f60 (by omega) | exact (fun z => by have z1 : ((0 ≤ x1 ∧ x1 ≤ 2) ∧ 0 ≤ x2 ∧ x2 < h 157 x1) ∧ x2 ≠ 0 ∧ (x3 = -1 ∨ (x3 ≠ x1 ∧ 0 ≤ x3 ∧ x3 ≤ 2 ∧ 0 < h 157 x3)) := z.1; omega) | exact (fun z => lf8 (nm_2 T8 ma8 e1s z.2)) | exact c160 | exact (fun j => (up_back f60 f80 (by omega) (by omega) j).trans (c160 j)) | assumption | omega) (by first | exact ⟨(show ((0 ≤ x1 ∧ x1 ≤ 2) ∧ 0 ≤ x2 ∧ x2 < h 157 x1) ∧ x2 ≠ 0 ∧ (x3 = -1 ∨ (x3 ≠ x1 ∧ 0 ≤ x3 ∧ x3 ≤ 2 ∧ 0 < h 157 x3)) by omega), nm_1 T8 ma8 e1s lf8⟩ | exact c160w c160 f60 (by omega) | exact (fun z => by have z1 : ((0 ≤ x1 ∧ x1 ≤ 2) ∧ 0 ≤ x2 ∧ x2 < h 157 x1) ∧ x2 ≠ 0 ∧ (x3 = -1 ∨ (x3 ≠ x1 ∧ 0 ≤ x3 ∧ x3 ≤ 2 ∧ 0 < h 157 x3)) := z.1; omega) | exact (fun z => lf8 (nm_2 T8 ma8 e1s z.2)) | exact c160 | exact (fun j => (up_back f60 f80 (by omega) (by omega) j).trans (c160 j)) | assumption | omega))
                ·
                  refine w_iload_n gz_149_4 rfl ?_
                  refine w_iconst gz_149_5 (by decide) ?_
                  refine w_icge (t := 22) gz_149_6 rfl (fun u44 => ?_) (fun u44 => ?_)
                  ·
                    refine w_iconst gz_149_22 (by decide) ?_
                    refine w_bret gz_149_23 gm_149 (by omega) (by omega) ?_
                    show wp l rho (d + 4) 165 28 [(2, 151), (0, x1), (0, x2), (0, x3), (9, 0)] [(0, 0)] h1 Q
                    refine w_ifeq (t := 36) gz_165_28 rfl (fun u45 => ?_) (fun u45 => by exfalso; omega)
                    refine w_iconst gz_165_36 (by decide) ?_
                    have c46 := (my_up_self fh1)
                    exact w_bret gz_165_37 gm_165 (by omega) (by omega) (k0 h1 (gh1) (by omega) (by first | exact ⟨(show ((0 ≤ x1 ∧ x1 ≤ 2) ∧ 0 ≤ x2 ∧ x2 < h 157 x1) ∧ x2 ≠ 0 ∧ (x3 = -1 ∨ (x3 ≠ x1 ∧ 0 ≤ x3 ∧ x3 ≤ 2 ∧ 0 < h 157 x3)) by omega), nm_1 T8 ma8 e1s lf8⟩ | exact c160w c160 f60 (by omega) | exact (fun z => by have z1 : ((0 ≤ x1 ∧ x1 ≤ 2) ∧ 0 ≤ x2 ∧ x2 < h 157 x1) ∧ x2 ≠ 0 ∧ (x3 = -1 ∨ (x3 ≠ x1 ∧ 0 ≤ x3 ∧ x3 ≤ 2 ∧ 0 < h 157 x3)) := z.1; omega) | exact (fun z => lf8 (nm_2 T8 ma8 e1s z.2)) | exact c160 | exact (fun j => (up_back f60 f80 (by omega) (by omega) j).trans (c160 j)) | assumption | omega) (by first | exact ⟨(show ((0 ≤ x1 ∧ x1 ≤ 2) ∧ 0 ≤ x2 ∧ x2 < h 157 x1) ∧ x2 ≠ 0 ∧ (x3 = -1 ∨ (x3 ≠ x1 ∧ 0 ≤ x3 ∧ x3 ≤ 2 ∧ 0 < h 157 x3)) by omega), nm_1 T8 ma8 e1s lf8⟩ | exact c160w c160 f60 (by omega) | exact (fun z => by have z1 : ((0 ≤ x1 ∧ x1 ≤ 2) ∧ 0 ≤ x2 ∧ x2 < h 157 x1) ∧ x2 ≠ 0 ∧ (x3 = -1 ∨ (x3 ≠ x1 ∧ 0 ≤ x3 ∧ x3 ≤ 2 ∧ 0 < h 157 x3)) := z.1; omega) | exact (fun z => lf8 (nm_2 T8 ma8 e1s z.2)) | exact c160 | exact (fun j => (up_back f60 f80 (by omega) (by omega) j).trans (c160 j)) | assumption | omega))
                  ·
                    refine w_aload_n gz_149_9 rfl ?_
                    refine w_getX (v := 157) gz_149_10 is_151 rd_10 rfl (by decide) rfl ?_
                    refine w_iload_n gz_149_13 rfl ?_
                    refine w_iald gz_149_14 is_157 rd_56 (by omega) (by omega) (fun v48 ev48 pv48 qv48 => ?_)
                    refine w_ifle (t := 22) gz_149_15 rfl (fun u49 => ?_) (fun u49 => ?_)
                    ·
                      refine w_iconst gz_149_22 (by decide) ?_
                      refine w_bret gz_149_23 gm_149 (by omega) (by omega) ?_
                      show wp l rho (d + 4) 165 28 [(2, 151), (0, x1), (0, x2), (0, x3), (9, 0)] [(0, 0)] h1 Q
                      refine w_ifeq (t := 36) gz_165_28 rfl (fun u50 => ?_) (fun u50 => by exfalso; omega)
                      refine w_iconst gz_165_36 (by decide) ?_
                      have c51 := (my_up_self fh1)
                      exact w_bret gz_165_37 gm_165 (by omega) (by omega) (k0 h1 (gh1) (by omega) (by first | exact ⟨(show ((0 ≤ x1 ∧ x1 ≤ 2) ∧ 0 ≤ x2 ∧ x2 < h 157 x1) ∧ x2 ≠ 0 ∧ (x3 = -1 ∨ (x3 ≠ x1 ∧ 0 ≤ x3 ∧ x3 ≤ 2 ∧ 0 < h 157 x3)) by omega), nm_1 T8 ma8 e1s lf8⟩ | exact c160w c160 f60 (by omega) | exact (fun z => by have z1 : ((0 ≤ x1 ∧ x1 ≤ 2) ∧ 0 ≤ x2 ∧ x2 < h 157 x1) ∧ x2 ≠ 0 ∧ (x3 = -1 ∨ (x3 ≠ x1 ∧ 0 ≤ x3 ∧ x3 ≤ 2 ∧ 0 < h 157 x3)) := z.1; omega) | exact (fun z => lf8 (nm_2 T8 ma8 e1s z.2)) | exact c160 | exact (fun j => (up_back f60 f80 (by omega) (by omega) j).trans (c160 j)) | assumption | omega) (by first | exact ⟨(show ((0 ≤ x1 ∧ x1 ≤ 2) ∧ 0 ≤ x2 ∧ x2 < h 157 x1) ∧ x2 ≠ 0 ∧ (x3 = -1 ∨ (x3 ≠ x1 ∧ 0 ≤ x3 ∧ x3 ≤ 2 ∧ 0 < h 157 x3)) by omega), nm_1 T8 ma8 e1s lf8⟩ | exact c160w c160 f60 (by omega) | exact (fun z => by have z1 : ((0 ≤ x1 ∧ x1 ≤ 2) ∧ 0 ≤ x2 ∧ x2 < h 157 x1) ∧ x2 ≠ 0 ∧ (x3 = -1 ∨ (x3 ≠ x1 ∧ 0 ≤ x3 ∧ x3 ≤ 2 ∧ 0 < h 157 x3)) := z.1; omega) | exact (fun z => lf8 (nm_2 T8 ma8 e1s z.2)) | exact c160 | exact (fun j => (up_back f60 f80 (by omega) (by omega) j).trans (c160 j)) | assumption | omega))
                    ·
                      refine w_iconst gz_149_18 (by decide) ?_
                      refine w_goto (t := 23) gz_149_19 rfl ?_
                      refine w_bret gz_149_23 gm_149 (by omega) (by omega) ?_
                      show wp l rho (d + 4) 165 28 [(2, 151), (0, x1), (0, x2), (0, x3), (9, 0)] [(0, 1)] h1 Q
                      refine w_ifeq (t := 36) gz_165_28 rfl (fun u52 => by exfalso; omega) (fun u52 => ?_)
                      refine w_iload_n gz_165_31 rfl ?_
                      refine w_iload_n gz_165_32 rfl ?_
                      refine w_icne (t := 38) gz_165_33 rfl (fun u53 => ?_) (fun u53 => ?_)
                      ·
                        refine w_aload_n gz_165_38 rfl ?_
                        refine w_getX (v := 160) gz_165_39 is_151 rd_10 rfl (by decide) rfl ?_
                        refine w_iconst gz_165_42 (by decide) ?_
                        refine w_iload_n gz_165_43 rfl ?_
                        refine w_imul gz_165_44 ⟨by omega, by omega⟩ ?_
                        refine w_iload_n gz_165_45 rfl ?_
                        refine w_iadd gz_165_46 ⟨by omega, by omega⟩ ?_
                        have w47 := c160 x3
                        refine w_iald gz_165_47 is_160 rd_59 (by omega) (by omega) (fun v55 ev55 pv55 qv55 => ?_)
                        refine w_istore (ls' := [(2, 151), (0, x1), (0, x2), (0, x3), (0, v55)]) gz_165_48 gm_165 rfl rfl rfl ?_
                        refine w_aload_n gz_165_50 rfl ?_
                        refine w_getX (v := 160) gz_165_51 is_151 rd_10 rfl (by decide) rfl ?_
                        refine w_iconst gz_165_54 (by decide) ?_
                        refine w_iload_n gz_165_55 rfl ?_
                        refine w_imul gz_165_56 ⟨by omega, by omega⟩ ?_
                        refine w_iload_n gz_165_57 rfl ?_
                        refine w_iadd gz_165_58 ⟨by omega, by omega⟩ ?_
                        refine w_iload_n gz_165_59 rfl ?_
                        refine w_iast gz_165_60 is_160 rd_59 (by omega) (by omega) (by omega) (by omega) (fun h57 fh57 => ?_)
                        have gh57 : my_fr [(10, 0), (59, -1)] h h57 := my_fr.up gh1 is_160 fh57 rfl
                        have f60 := fh57
                        have b162w : ∀ j : Int, h57 162 j = h 162 j := fun j => ((my_up_role fh57 is_162 is_160 rfl).trans ((my_up_role fh1 is_162 is_151 rfl).trans (rfl : h 162 j = h 162 j)))
                        have b163w : ∀ j : Int, h57 163 j = h 163 j := fun j => ((my_up_role fh57 is_163 is_160 rfl).trans ((my_up_role fh1 is_163 is_151 rfl).trans (rfl : h 163 j = h 163 j)))
                        have d157 : ∀ j : Int, h57 157 j = h 157 j := fun j => ((my_up_role fh57 is_157 is_160 rfl).trans ((my_up_role fh1 is_157 is_151 rfl).trans (rfl : h 157 j = h 157 j)))
                        have d158 : ∀ j : Int, h57 158 j = h 158 j := fun j => ((my_up_role fh57 is_158 is_160 rfl).trans ((my_up_role fh1 is_158 is_151 rfl).trans (rfl : h 158 j = h 158 j)))
                        have d159 : ∀ j : Int, h57 159 j = h 159 j := fun j => ((my_up_role fh57 is_159 is_160 rfl).trans ((my_up_role fh1 is_159 is_151 rfl).trans (rfl : h 159 j = h 159 j)))
                        have d161 : ∀ j : Int, h57 161 j = h 161 j := fun j => ((my_up_role fh57 is_161 is_160 rfl).trans ((my_up_role fh1 is_161 is_151 rfl).trans (rfl : h 161 j = h 161 j)))
                        refine w_aload_n gz_165_61 rfl ?_
                        refine w_iconst gz_165_62 (by decide) ?_
                        refine v_knowA (x := 162) pis_162 rd_61 (fun kT9 => ?_)
                        refine v_knowA (x := 163) pis_163 rd_62 (fun kV9 => ?_)
                        refine v_knowA (x := 160) pis_160 rd_59 (fun kN9 => ?_)
                        refine v_knowA (x := 157) pis_157 rd_56 (fun kC9 => ?_)
                        have T8 : MTy h57 := ⟨kV9, kT9, kN9, kC9⟩
                        have ma8 : zqMA h57 = zyN (zqMA h) x1 x2 x3 := zyN_m d157 d158 d159 d161 (c160w c160 f60 (by omega))
                        have e1s : zqMS h57 0 = zqMS h 0 := MS_eq b162w b163w
                        refine w_inv (k := 2) (as := [(0, 0)]) (r := []) (x := 151) (ls0 := [(2, 151), (0, 0), (9, 0), (9, 0)]) gz_165_63 gm_155 rfl is_151 rd_10 rfl rfl rfl rfl rfl (c_Model_isLawful5 (d := d) (x1 := 0) (by omega) (by omega) (fun xp58 => ?_) (fun xp59 => ?_))
                        ·
                          show wp l rho (d + 4) 165 66 [(2, 151), (0, x1), (0, x2), (0, x3), (0, v55)] [(0, 0)] h57 Q
                          have lf8 := xp58
                          refine w_ifne (t := 83) gz_165_66 rfl (fun u60 => by exfalso; omega) (fun u60 => ?_)
                          refine w_aload_n gz_165_69 rfl ?_
                          refine w_getX (v := 160) gz_165_70 is_151 rd_10 rfl (by decide) rfl ?_
                          refine w_iconst gz_165_73 (by decide) ?_
                          refine w_iload_n gz_165_74 rfl ?_
                          refine w_imul gz_165_75 ⟨by omega, by omega⟩ ?_
                          refine w_iload_n gz_165_76 rfl ?_
                          refine w_iadd gz_165_77 ⟨by omega, by omega⟩ ?_
                          refine w_iload gz_165_78 rfl ?_
                          refine w_iast gz_165_80 is_160 rd_59 (by omega) (by omega) (by omega) (by omega) (fun h62 fh62 => ?_)
                          have gh62 : my_fr [(10, 0), (59, -1)] h h62 := my_fr.up gh57 is_160 fh62 rfl
                          have f80 := fh62
                          refine w_iconst gz_165_81 (by decide) ?_
                          have c63 := ((my_up_role fh62 is_151 is_160 rfl).trans ((my_up_role fh57 is_151 is_160 rfl).trans (my_up_self fh1)))
                          exact w_bret gz_165_82 gm_165 (by omega) (by omega) (k0 h62 (gh62) (by omega) (by first | exact ⟨(show ((0 ≤ x1 ∧ x1 ≤ 2) ∧ 0 ≤ x2 ∧ x2 < h 157 x1) ∧ x2 ≠ 0 ∧ (x3 = -1 ∨ (x3 ≠ x1 ∧ 0 ≤ x3 ∧ x3 ≤ 2 ∧ 0 < h 157 x3)) by omega), nm_1 T8 ma8 e1s lf8⟩ | exact c160w c160 f60 (by omega) | exact (fun z => by have z1 : ((0 ≤ x1 ∧ x1 ≤ 2) ∧ 0 ≤ x2 ∧ x2 < h 157 x1) ∧ x2 ≠ 0 ∧ (x3 = -1 ∨ (x3 ≠ x1 ∧ 0 ≤ x3 ∧ x3 ≤ 2 ∧ 0 < h 157 x3)) := z.1; omega) | exact (fun z => lf8 (nm_2 T8 ma8 e1s z.2)) | exact c160 | exact (fun j => (up_back f60 f80 (by omega) (by omega) j).trans (c160 j)) | assumption | omega) (by first | exact ⟨(show ((0 ≤ x1 ∧ x1 ≤ 2) ∧ 0 ≤ x2 ∧ x2 < h 157 x1) ∧ x2 ≠ 0 ∧ (x3 = -1 ∨ (x3 ≠ x1 ∧ 0 ≤ x3 ∧ x3 ≤ 2 ∧ 0 < h 157 x3)) by omega), nm_1 T8 ma8 e1s lf8⟩ | exact c160w c160 f60 (by omega) | exact (fun z => by have z1 : ((0 ≤ x1 ∧ x1 ≤ 2) ∧ 0 ≤ x2 ∧ x2 < h 157 x1) ∧ x2 ≠ 0 ∧ (x3 = -1 ∨ (x3 ≠ x1 ∧ 0 ≤ x3 ∧ x3 ≤ 2 ∧ 0 < h 157 x3)) := z.1; omega) | exact (fun z => lf8 (nm_2 T8 ma8 e1s z.2)) | exact c160 | exact (fun j => (up_back f60 f80 (by omega) (by omega) j).trans (c160 j)) | assumption | omega))
                        ·
                          show wp l rho (d + 4) 165 66 [(2, 151), (0, x1), (0, x2), (0, x3), (0, v55)] [(0, 1)] h57 Q
                          have lf8 := xp59
                          refine w_ifne (t := 83) gz_165_66 rfl (fun u64 => ?_) (fun u64 => by exfalso; omega)
                          refine w_iconst gz_165_83 (by decide) ?_
                          have c65 := ((my_up_role fh57 is_151 is_160 rfl).trans (my_up_self fh1))
                          exact w_bret gz_165_84 gm_165 (by omega) (by omega) (k1 h57 (gh57) (by omega) (by omega) (by omega) (by omega) (by omega) (by omega) (by omega) (by first | exact ⟨(show ((0 ≤ x1 ∧ x1 ≤ 2) ∧ 0 ≤ x2 ∧ x2 < h 157 x1) ∧ x2 ≠ 0 ∧ (x3 = -1 ∨ (x3 ≠ x1 ∧ 0 ≤ x3 ∧ x3 ≤ 2 ∧ 0 < h 157 x3)) by omega), nm_1 T8 ma8 e1s lf8⟩ | exact c160w c160 f60 (by omega) | exact (fun z => by have z1 : ((0 ≤ x1 ∧ x1 ≤ 2) ∧ 0 ≤ x2 ∧ x2 < h 157 x1) ∧ x2 ≠ 0 ∧ (x3 = -1 ∨ (x3 ≠ x1 ∧ 0 ≤ x3 ∧ x3 ≤ 2 ∧ 0 < h 157 x3)) := z.1; omega) | exact (fun z => lf8 (nm_2 T8 ma8 e1s z.2)) | exact c160 | exact (fun j => (up_back f60 f80 (by omega) (by omega) j).trans (c160 j)) | assumption | omega) (by first | exact ⟨(show ((0 ≤ x1 ∧ x1 ≤ 2) ∧ 0 ≤ x2 ∧ x2 < h 157 x1) ∧ x2 ≠ 0 ∧ (x3 = -1 ∨ (x3 ≠ x1 ∧ 0 ≤ x3 ∧ x3 ≤ 2 ∧ 0 < h 157 x3)) by omega), nm_1 T8 ma8 e1s lf8⟩ | exact c160w c160 f60 (by omega) | exact (fun z => by have z1 : ((0 ≤ x1 ∧ x1 ≤ 2) ∧ 0 ≤ x2 ∧ x2 < h 157 x1) ∧ x2 ≠ 0 ∧ (x3 = -1 ∨ (x3 ≠ x1 ∧ 0 ≤ x3 ∧ x3 ≤ 2 ∧ 0 < h 157 x3)) := z.1; omega) | exact (fun z => lf8 (nm_2 T8 ma8 e1s z.2)) | exact c160 | exact (fun j => (up_back f60 f80 (by omega) (by omega) j).trans (c160 j)) | assumption | omega))
                      ·
                        refine w_iconst gz_165_36 (by decide) ?_
                        have c66 := (my_up_self fh1)
                        exact w_bret gz_165_37 gm_165 (by omega) (by omega) (k0 h1 (gh1) (by omega) (by first | exact ⟨(show ((0 ≤ x1 ∧ x1 ≤ 2) ∧ 0 ≤ x2 ∧ x2 < h 157 x1) ∧ x2 ≠ 0 ∧ (x3 = -1 ∨ (x3 ≠ x1 ∧ 0 ≤ x3 ∧ x3 ≤ 2 ∧ 0 < h 157 x3)) by omega), nm_1 T8 ma8 e1s lf8⟩ | exact c160w c160 f60 (by omega) | exact (fun z => by have z1 : ((0 ≤ x1 ∧ x1 ≤ 2) ∧ 0 ≤ x2 ∧ x2 < h 157 x1) ∧ x2 ≠ 0 ∧ (x3 = -1 ∨ (x3 ≠ x1 ∧ 0 ≤ x3 ∧ x3 ≤ 2 ∧ 0 < h 157 x3)) := z.1; omega) | exact (fun z => lf8 (nm_2 T8 ma8 e1s z.2)) | exact c160 | exact (fun j => (up_back f60 f80 (by omega) (by omega) j).trans (c160 j)) | assumption | omega) (by first | exact ⟨(show ((0 ≤ x1 ∧ x1 ≤ 2) ∧ 0 ≤ x2 ∧ x2 < h 157 x1) ∧ x2 ≠ 0 ∧ (x3 = -1 ∨ (x3 ≠ x1 ∧ 0 ≤ x3 ∧ x3 ≤ 2 ∧ 0 < h 157 x3)) by omega), nm_1 T8 ma8 e1s lf8⟩ | exact c160w c160 f60 (by omega) | exact (fun z => by have z1 : ((0 ≤ x1 ∧ x1 ≤ 2) ∧ 0 ≤ x2 ∧ x2 < h 157 x1) ∧ x2 ≠ 0 ∧ (x3 = -1 ∨ (x3 ≠ x1 ∧ 0 ≤ x3 ∧ x3 ≤ 2 ∧ 0 < h 157 x3)) := z.1; omega) | exact (fun z => lf8 (nm_2 T8 ma8 e1s z.2)) | exact c160 | exact (fun j => (up_back f60 f80 (by omega) (by omega) j).trans (c160 j)) | assumption | omega))
theorem c_Model_once5 {l : Launch} {rho : Nat → Int32} {d : Nat} {h : my_H} {Q : my_H → my_V → Prop} {x1 x2 x3 : Int} (a3 : 0 ≤ x3) (b3 : x3 ≤ 1) (k0 : ∀ (h' : my_H), my_fr [(10, 0), (60, -1)] h h' → h' 151 0 = 0 → ¬ (zyOn (zqMA h) x1 x2 ∧ zqLf (zyO (zqMA h) x1 x2 x3) (zqMS h 0)) → (∀ j : Int, h' 161 j = h 161 j) → Q h' (0, 0)) (k1 : ∀ (h' : my_H), my_fr [(10, 0), (60, -1)] h h' → 0 ≤ x1 → x1 ≤ 2 → 1 ≤ x2 → x2 ≤ 3 → h' 151 0 = 0 → zyOn (zqMA h) x1 x2 ∧ zqLf (zyO (zqMA h) x1 x2 x3) (zqMS h 0) → h' 161 = zyU (h 161) (4 * x1 + x2) x3 → Q h' (0, 1)) : wp l rho (d + 4) 166 0 [(2, 151), (0, x1), (0, x2), (0, x3), (9, 0)] [] h Q := by
  refine w_aload_n gz_166_0 rfl ?_
  refine w_iconst gz_166_1 (by decide) ?_
  refine v_putI (j := 0) gz_166_2 rfl is_151 rd_10 rfl (by omega) (by omega) rfl (fun h1 fh1 => ?_)
  have gh1 : my_fr [(10, 0), (60, -1)] h h1 := my_fr.up my_fr.rf is_151 fh1 rfl
  refine w_aload_n gz_166_5 rfl ?_
  refine w_iload_n gz_166_6 rfl ?_
  refine w_iload_n gz_166_7 rfl ?_
  have c157 : ∀ j : Int, h1 157 j = h 157 j := fun j => ((my_up_role fh1 is_157 is_151 rfl).trans (rfl : h 157 j = h 157 j))
  have c158 : ∀ j : Int, h1 158 j = h 158 j := fun j => ((my_up_role fh1 is_158 is_151 rfl).trans (rfl : h 158 j = h 158 j))
  have c159 : ∀ j : Int, h1 159 j = h 159 j := fun j => ((my_up_role fh1 is_159 is_151 rfl).trans (rfl : h 159 j = h 159 j))
  have c160 : ∀ j : Int, h1 160 j = h 160 j := fun j => ((my_up_role fh1 is_160 is_151 rfl).trans (rfl : h 160 j = h 160 j))
  have c161 : ∀ j : Int, h1 161 j = h 161 j := fun j => ((my_up_role fh1 is_161 is_151 rfl).trans (rfl : h 161 j = h 161 j))
  have b162 : ∀ j : Int, h1 162 j = h 162 j := fun j => ((my_up_role fh1 is_162 is_151 rfl).trans (rfl : h 162 j = h 162 j))
  have b163 : ∀ j : Int, h1 163 j = h 163 j := fun j => ((my_up_role fh1 is_163 is_151 rfl).trans (rfl : h 163 j = h 163 j))
  have n1 := c157 x1
  refine w_inv (k := 0) (as := [(0, x2), (0, x1)]) (r := []) (x := 151) (ls0 := [(2, 151), (0, x1), (0, x2)]) gz_166_8 gm_162 rfl is_151 rd_10 rfl rfl rfl rfl rfl ?_
  refine w_aload_n gz_162_0 rfl ?_
  refine w_iload_n gz_162_1 rfl ?_
  refine w_inv (k := 0) (as := [(0, x1)]) (r := []) (x := 151) (ls0 := [(2, 151), (0, x1)]) gz_162_2 gm_149 rfl is_151 rd_10 rfl rfl rfl rfl rfl ?_
  refine w_iload_n gz_149_0 rfl ?_
  refine w_iflt (t := 22) gz_149_1 rfl (fun u2 => ?_) (fun u2 => ?_)
  ·
    refine w_iconst gz_149_22 (by decide) ?_
    refine w_bret gz_149_23 gm_149 (by omega) (by omega) ?_
    show wp l rho (d + 3) 162 5 [(2, 151), (0, x1), (0, x2)] [(0, 0)] h1 _
    refine w_ifeq (t := 26) gz_162_5 rfl (fun u3 => ?_) (fun u3 => by exfalso; omega)
    refine w_iconst gz_162_26 (by decide) ?_
    refine w_bret gz_162_27 gm_162 (by omega) (by omega) ?_
    show wp l rho (d + 4) 166 11 [(2, 151), (0, x1), (0, x2), (0, x3), (9, 0)] [(0, 0)] h1 Q
    refine w_ifeq (t := 18) gz_166_11 rfl (fun u4 => ?_) (fun u4 => by exfalso; omega)
    refine w_iconst gz_166_18 (by decide) ?_
    have c5 := (my_up_self fh1)
    exact w_bret gz_166_19 gm_166 (by omega) (by omega) (k0 h1 (gh1) (by omega) (by first | exact ⟨(show ((0 ≤ x1 ∧ x1 ≤ 2) ∧ 0 ≤ x2 ∧ x2 < h 157 x1) ∧ x2 ≠ 0 by omega), nm_1 T8 ma8 e1s lf8⟩ | exact c160w c161 f42 (by omega) | exact (fun z => by have z1 : ((0 ≤ x1 ∧ x1 ≤ 2) ∧ 0 ≤ x2 ∧ x2 < h 157 x1) ∧ x2 ≠ 0 := z.1; omega) | exact (fun z => lf8 (nm_2 T8 ma8 e1s z.2)) | exact c161 | exact (fun j => (up_back f42 f62 (by omega) (by omega) j).trans (c161 j)) | assumption | omega) (by first | exact ⟨(show ((0 ≤ x1 ∧ x1 ≤ 2) ∧ 0 ≤ x2 ∧ x2 < h 157 x1) ∧ x2 ≠ 0 by omega), nm_1 T8 ma8 e1s lf8⟩ | exact c160w c161 f42 (by omega) | exact (fun z => by have z1 : ((0 ≤ x1 ∧ x1 ≤ 2) ∧ 0 ≤ x2 ∧ x2 < h 157 x1) ∧ x2 ≠ 0 := z.1; omega) | exact (fun z => lf8 (nm_2 T8 ma8 e1s z.2)) | exact c161 | exact (fun j => (up_back f42 f62 (by omega) (by omega) j).trans (c161 j)) | assumption | omega))
  ·
    refine w_iload_n gz_149_4 rfl ?_
    refine w_iconst gz_149_5 (by decide) ?_
    refine w_icge (t := 22) gz_149_6 rfl (fun u6 => ?_) (fun u6 => ?_)
    ·
      refine w_iconst gz_149_22 (by decide) ?_
      refine w_bret gz_149_23 gm_149 (by omega) (by omega) ?_
      show wp l rho (d + 3) 162 5 [(2, 151), (0, x1), (0, x2)] [(0, 0)] h1 _
      refine w_ifeq (t := 26) gz_162_5 rfl (fun u7 => ?_) (fun u7 => by exfalso; omega)
      refine w_iconst gz_162_26 (by decide) ?_
      refine w_bret gz_162_27 gm_162 (by omega) (by omega) ?_
      show wp l rho (d + 4) 166 11 [(2, 151), (0, x1), (0, x2), (0, x3), (9, 0)] [(0, 0)] h1 Q
      refine w_ifeq (t := 18) gz_166_11 rfl (fun u8 => ?_) (fun u8 => by exfalso; omega)
      refine w_iconst gz_166_18 (by decide) ?_
      have c9 := (my_up_self fh1)
      exact w_bret gz_166_19 gm_166 (by omega) (by omega) (k0 h1 (gh1) (by omega) (by first | exact ⟨(show ((0 ≤ x1 ∧ x1 ≤ 2) ∧ 0 ≤ x2 ∧ x2 < h 157 x1) ∧ x2 ≠ 0 by omega), nm_1 T8 ma8 e1s lf8⟩ | exact c160w c161 f42 (by omega) | exact (fun z => by have z1 : ((0 ≤ x1 ∧ x1 ≤ 2) ∧ 0 ≤ x2 ∧ x2 < h 157 x1) ∧ x2 ≠ 0 := z.1; omega) | exact (fun z => lf8 (nm_2 T8 ma8 e1s z.2)) | exact c161 | exact (fun j => (up_back f42 f62 (by omega) (by omega) j).trans (c161 j)) | assumption | omega) (by first | exact ⟨(show ((0 ≤ x1 ∧ x1 ≤ 2) ∧ 0 ≤ x2 ∧ x2 < h 157 x1) ∧ x2 ≠ 0 by omega), nm_1 T8 ma8 e1s lf8⟩ | exact c160w c161 f42 (by omega) | exact (fun z => by have z1 : ((0 ≤ x1 ∧ x1 ≤ 2) ∧ 0 ≤ x2 ∧ x2 < h 157 x1) ∧ x2 ≠ 0 := z.1; omega) | exact (fun z => lf8 (nm_2 T8 ma8 e1s z.2)) | exact c161 | exact (fun j => (up_back f42 f62 (by omega) (by omega) j).trans (c161 j)) | assumption | omega))
    ·
      refine w_aload_n gz_149_9 rfl ?_
      refine w_getX (v := 157) gz_149_10 is_151 rd_10 rfl (by decide) rfl ?_
      refine w_iload_n gz_149_13 rfl ?_
      refine w_iald gz_149_14 is_157 rd_56 (by omega) (by omega) (fun v11 ev11 pv11 qv11 => ?_)
      refine w_ifle (t := 22) gz_149_15 rfl (fun u12 => ?_) (fun u12 => ?_)
      ·
        refine w_iconst gz_149_22 (by decide) ?_
        refine w_bret gz_149_23 gm_149 (by omega) (by omega) ?_
        show wp l rho (d + 3) 162 5 [(2, 151), (0, x1), (0, x2)] [(0, 0)] h1 _
        refine w_ifeq (t := 26) gz_162_5 rfl (fun u13 => ?_) (fun u13 => by exfalso; omega)
        refine w_iconst gz_162_26 (by decide) ?_
        refine w_bret gz_162_27 gm_162 (by omega) (by omega) ?_
        show wp l rho (d + 4) 166 11 [(2, 151), (0, x1), (0, x2), (0, x3), (9, 0)] [(0, 0)] h1 Q
        refine w_ifeq (t := 18) gz_166_11 rfl (fun u14 => ?_) (fun u14 => by exfalso; omega)
        refine w_iconst gz_166_18 (by decide) ?_
        have c15 := (my_up_self fh1)
        exact w_bret gz_166_19 gm_166 (by omega) (by omega) (k0 h1 (gh1) (by omega) (by first | exact ⟨(show ((0 ≤ x1 ∧ x1 ≤ 2) ∧ 0 ≤ x2 ∧ x2 < h 157 x1) ∧ x2 ≠ 0 by omega), nm_1 T8 ma8 e1s lf8⟩ | exact c160w c161 f42 (by omega) | exact (fun z => by have z1 : ((0 ≤ x1 ∧ x1 ≤ 2) ∧ 0 ≤ x2 ∧ x2 < h 157 x1) ∧ x2 ≠ 0 := z.1; omega) | exact (fun z => lf8 (nm_2 T8 ma8 e1s z.2)) | exact c161 | exact (fun j => (up_back f42 f62 (by omega) (by omega) j).trans (c161 j)) | assumption | omega) (by first | exact ⟨(show ((0 ≤ x1 ∧ x1 ≤ 2) ∧ 0 ≤ x2 ∧ x2 < h 157 x1) ∧ x2 ≠ 0 by omega), nm_1 T8 ma8 e1s lf8⟩ | exact c160w c161 f42 (by omega) | exact (fun z => by have z1 : ((0 ≤ x1 ∧ x1 ≤ 2) ∧ 0 ≤ x2 ∧ x2 < h 157 x1) ∧ x2 ≠ 0 := z.1; omega) | exact (fun z => lf8 (nm_2 T8 ma8 e1s z.2)) | exact c161 | exact (fun j => (up_back f42 f62 (by omega) (by omega) j).trans (c161 j)) | assumption | omega))
      ·
        refine w_iconst gz_149_18 (by decide) ?_
        refine w_goto (t := 23) gz_149_19 rfl ?_
        refine w_bret gz_149_23 gm_149 (by omega) (by omega) ?_
        show wp l rho (d + 3) 162 5 [(2, 151), (0, x1), (0, x2)] [(0, 1)] h1 _
        refine w_ifeq (t := 26) gz_162_5 rfl (fun u16 => by exfalso; omega) (fun u16 => ?_)
        refine w_iload_n gz_162_8 rfl ?_
        refine w_iflt (t := 26) gz_162_9 rfl (fun u17 => ?_) (fun u17 => ?_)
        ·
          refine w_iconst gz_162_26 (by decide) ?_
          refine w_bret gz_162_27 gm_162 (by omega) (by omega) ?_
          show wp l rho (d + 4) 166 11 [(2, 151), (0, x1), (0, x2), (0, x3), (9, 0)] [(0, 0)] h1 Q
          refine w_ifeq (t := 18) gz_166_11 rfl (fun u18 => ?_) (fun u18 => by exfalso; omega)
          refine w_iconst gz_166_18 (by decide) ?_
          have c19 := (my_up_self fh1)
          exact w_bret gz_166_19 gm_166 (by omega) (by omega) (k0 h1 (gh1) (by omega) (by first | exact ⟨(show ((0 ≤ x1 ∧ x1 ≤ 2) ∧ 0 ≤ x2 ∧ x2 < h 157 x1) ∧ x2 ≠ 0 by omega), nm_1 T8 ma8 e1s lf8⟩ | exact c160w c161 f42 (by omega) | exact (fun z => by have z1 : ((0 ≤ x1 ∧ x1 ≤ 2) ∧ 0 ≤ x2 ∧ x2 < h 157 x1) ∧ x2 ≠ 0 := z.1; omega) | exact (fun z => lf8 (nm_2 T8 ma8 e1s z.2)) | exact c161 | exact (fun j => (up_back f42 f62 (by omega) (by omega) j).trans (c161 j)) | assumption | omega) (by first | exact ⟨(show ((0 ≤ x1 ∧ x1 ≤ 2) ∧ 0 ≤ x2 ∧ x2 < h 157 x1) ∧ x2 ≠ 0 by omega), nm_1 T8 ma8 e1s lf8⟩ | exact c160w c161 f42 (by omega) | exact (fun z => by have z1 : ((0 ≤ x1 ∧ x1 ≤ 2) ∧ 0 ≤ x2 ∧ x2 < h 157 x1) ∧ x2 ≠ 0 := z.1; omega) | exact (fun z => lf8 (nm_2 T8 ma8 e1s z.2)) | exact c161 | exact (fun j => (up_back f42 f62 (by omega) (by omega) j).trans (c161 j)) | assumption | omega))
        ·
          refine w_iload_n gz_162_12 rfl ?_
          refine w_aload_n gz_162_13 rfl ?_
          refine w_getX (v := 157) gz_162_14 is_151 rd_10 rfl (by decide) rfl ?_
          refine w_iload_n gz_162_17 rfl ?_
          refine w_iald gz_162_18 is_157 rd_56 (by omega) (by omega) (fun v21 ev21 pv21 qv21 => ?_)
          have zv21 := ev21.trans ev11.symm
          refine w_icge (t := 26) gz_162_19 rfl (fun u22 => ?_) (fun u22 => ?_)
          ·
            refine w_iconst gz_162_26 (by decide) ?_
            refine w_bret gz_162_27 gm_162 (by omega) (by omega) ?_
            show wp l rho (d + 4) 166 11 [(2, 151), (0, x1), (0, x2), (0, x3), (9, 0)] [(0, 0)] h1 Q
            refine w_ifeq (t := 18) gz_166_11 rfl (fun u23 => ?_) (fun u23 => by exfalso; omega)
            refine w_iconst gz_166_18 (by decide) ?_
            have c24 := (my_up_self fh1)
            exact w_bret gz_166_19 gm_166 (by omega) (by omega) (k0 h1 (gh1) (by omega) (by first | exact ⟨(show ((0 ≤ x1 ∧ x1 ≤ 2) ∧ 0 ≤ x2 ∧ x2 < h 157 x1) ∧ x2 ≠ 0 by omega), nm_1 T8 ma8 e1s lf8⟩ | exact c160w c161 f42 (by omega) | exact (fun z => by have z1 : ((0 ≤ x1 ∧ x1 ≤ 2) ∧ 0 ≤ x2 ∧ x2 < h 157 x1) ∧ x2 ≠ 0 := z.1; omega) | exact (fun z => lf8 (nm_2 T8 ma8 e1s z.2)) | exact c161 | exact (fun j => (up_back f42 f62 (by omega) (by omega) j).trans (c161 j)) | assumption | omega) (by first | exact ⟨(show ((0 ≤ x1 ∧ x1 ≤ 2) ∧ 0 ≤ x2 ∧ x2 < h 157 x1) ∧ x2 ≠ 0 by omega), nm_1 T8 ma8 e1s lf8⟩ | exact c160w c161 f42 (by omega) | exact (fun z => by have z1 : ((0 ≤ x1 ∧ x1 ≤ 2) ∧ 0 ≤ x2 ∧ x2 < h 157 x1) ∧ x2 ≠ 0 := z.1; omega) | exact (fun z => lf8 (nm_2 T8 ma8 e1s z.2)) | exact c161 | exact (fun j => (up_back f42 f62 (by omega) (by omega) j).trans (c161 j)) | assumption | omega))
          ·
            refine w_iconst gz_162_22 (by decide) ?_
            refine w_goto (t := 27) gz_162_23 rfl ?_
            refine w_bret gz_162_27 gm_162 (by omega) (by omega) ?_
            show wp l rho (d + 4) 166 11 [(2, 151), (0, x1), (0, x2), (0, x3), (9, 0)] [(0, 1)] h1 Q
            refine w_ifeq (t := 18) gz_166_11 rfl (fun u25 => by exfalso; omega) (fun u25 => ?_)
            refine w_iload_n gz_166_14 rfl ?_
            refine w_ifne (t := 20) gz_166_15 rfl (fun u26 => ?_) (fun u26 => ?_)
            ·
              refine w_aload_n gz_166_20 rfl ?_
              refine w_getX (v := 161) gz_166_21 is_151 rd_10 rfl (by decide) rfl ?_
              refine w_iconst gz_166_24 (by decide) ?_
              refine w_iload_n gz_166_25 rfl ?_
              refine w_imul gz_166_26 ⟨by omega, by omega⟩ ?_
              refine w_iload_n gz_166_27 rfl ?_
              refine w_iadd gz_166_28 ⟨by omega, by omega⟩ ?_
              refine w_bald gz_166_29 is_161 rd_60 (by omega) (by omega) (fun v28 ev28 pv28 qv28 => ?_)
              refine w_istore (ls' := [(2, 151), (0, x1), (0, x2), (0, x3), (0, v28)]) gz_166_30 gm_166 rfl rfl rfl ?_
              refine w_aload_n gz_166_32 rfl ?_
              refine w_getX (v := 161) gz_166_33 is_151 rd_10 rfl (by decide) rfl ?_
              refine w_iconst gz_166_36 (by decide) ?_
              refine w_iload_n gz_166_37 rfl ?_
              refine w_imul gz_166_38 ⟨by omega, by omega⟩ ?_
              refine w_iload_n gz_166_39 rfl ?_
              refine w_iadd gz_166_40 ⟨by omega, by omega⟩ ?_
              refine w_iload_n gz_166_41 rfl ?_
              refine w_bast gz_166_42 is_161 rd_60 (by omega) (by omega) (by omega) (by omega) (fun h30 fh30 => ?_)
              have gh30 : my_fr [(10, 0), (60, -1)] h h30 := my_fr.up gh1 is_161 fh30 rfl
              have f42 := fh30
              have b162w : ∀ j : Int, h30 162 j = h 162 j := fun j => ((my_up_role fh30 is_162 is_161 rfl).trans ((my_up_role fh1 is_162 is_151 rfl).trans (rfl : h 162 j = h 162 j)))
              have b163w : ∀ j : Int, h30 163 j = h 163 j := fun j => ((my_up_role fh30 is_163 is_161 rfl).trans ((my_up_role fh1 is_163 is_151 rfl).trans (rfl : h 163 j = h 163 j)))
              have d157 : ∀ j : Int, h30 157 j = h 157 j := fun j => ((my_up_role fh30 is_157 is_161 rfl).trans ((my_up_role fh1 is_157 is_151 rfl).trans (rfl : h 157 j = h 157 j)))
              have d158 : ∀ j : Int, h30 158 j = h 158 j := fun j => ((my_up_role fh30 is_158 is_161 rfl).trans ((my_up_role fh1 is_158 is_151 rfl).trans (rfl : h 158 j = h 158 j)))
              have d159 : ∀ j : Int, h30 159 j = h 159 j := fun j => ((my_up_role fh30 is_159 is_161 rfl).trans ((my_up_role fh1 is_159 is_151 rfl).trans (rfl : h 159 j = h 159 j)))
              have d160 : ∀ j : Int, h30 160 j = h 160 j := fun j => ((my_up_role fh30 is_160 is_161 rfl).trans ((my_up_role fh1 is_160 is_151 rfl).trans (rfl : h 160 j = h 160 j)))
              refine w_aload_n gz_166_43 rfl ?_
              refine w_iconst gz_166_44 (by decide) ?_
              refine v_knowA (x := 162) pis_162 rd_61 (fun kT9 => ?_)
              refine v_knowA (x := 163) pis_163 rd_62 (fun kV9 => ?_)
              refine v_knowA (x := 160) pis_160 rd_59 (fun kN9 => ?_)
              refine v_knowA (x := 157) pis_157 rd_56 (fun kC9 => ?_)
              have T8 : MTy h30 := ⟨kV9, kT9, kN9, kC9⟩
              have ma8 : zqMA h30 = zyO (zqMA h) x1 x2 x3 := zyO_m d157 d158 d159 d160 (c160w c161 f42 (by omega))
              have e1s : zqMS h30 0 = zqMS h 0 := MS_eq b162w b163w
              refine w_inv (k := 2) (as := [(0, 0)]) (r := []) (x := 151) (ls0 := [(2, 151), (0, 0), (9, 0), (9, 0)]) gz_166_45 gm_155 rfl is_151 rd_10 rfl rfl rfl rfl rfl (c_Model_isLawful5 (d := d) (x1 := 0) (by omega) (by omega) (fun xp31 => ?_) (fun xp32 => ?_))
              ·
                show wp l rho (d + 4) 166 48 [(2, 151), (0, x1), (0, x2), (0, x3), (0, v28)] [(0, 0)] h30 Q
                have lf8 := xp31
                refine w_ifne (t := 65) gz_166_48 rfl (fun u33 => by exfalso; omega) (fun u33 => ?_)
                refine w_aload_n gz_166_51 rfl ?_
                refine w_getX (v := 161) gz_166_52 is_151 rd_10 rfl (by decide) rfl ?_
                refine w_iconst gz_166_55 (by decide) ?_
                refine w_iload_n gz_166_56 rfl ?_
                refine w_imul gz_166_57 ⟨by omega, by omega⟩ ?_
                refine w_iload_n gz_166_58 rfl ?_
                refine w_iadd gz_166_59 ⟨by omega, by omega⟩ ?_
                refine w_iload gz_166_60 rfl ?_
                refine w_bast gz_166_62 is_161 rd_60 (by omega) (by omega) (by omega) (by omega) (fun h35 fh35 => ?_)
                have gh35 : my_fr [(10, 0), (60, -1)] h h35 := my_fr.up gh30 is_161 fh35 rfl
                have f62 := fh35
                refine w_iconst gz_166_63 (by decide) ?_
                have c36 := ((my_up_role fh35 is_151 is_161 rfl).trans ((my_up_role fh30 is_151 is_161 rfl).trans (my_up_self fh1)))
                exact w_bret gz_166_64 gm_166 (by omega) (by omega) (k0 h35 (gh35) (by omega) (by first | exact ⟨(show ((0 ≤ x1 ∧ x1 ≤ 2) ∧ 0 ≤ x2 ∧ x2 < h 157 x1) ∧ x2 ≠ 0 by omega), nm_1 T8 ma8 e1s lf8⟩ | exact c160w c161 f42 (by omega) | exact (fun z => by have z1 : ((0 ≤ x1 ∧ x1 ≤ 2) ∧ 0 ≤ x2 ∧ x2 < h 157 x1) ∧ x2 ≠ 0 := z.1; omega) | exact (fun z => lf8 (nm_2 T8 ma8 e1s z.2)) | exact c161 | exact (fun j => (up_back f42 f62 (by omega) (by omega) j).trans (c161 j)) | assumption | omega) (by first | exact ⟨(show ((0 ≤ x1 ∧ x1 ≤ 2) ∧ 0 ≤ x2 ∧ x2 < h 157 x1) ∧ x2 ≠ 0 by omega), nm_1 T8 ma8 e1s lf8⟩ | exact c160w c161 f42 (by omega) | exact (fun z => by have z1 : ((0 ≤ x1 ∧ x1 ≤ 2) ∧ 0 ≤ x2 ∧ x2 < h 157 x1) ∧ x2 ≠ 0 := z.1; omega) | exact (fun z => lf8 (nm_2 T8 ma8 e1s z.2)) | exact c161 | exact (fun j => (up_back f42 f62 (by omega) (by omega) j).trans (c161 j)) | assumption | omega))
              ·
                show wp l rho (d + 4) 166 48 [(2, 151), (0, x1), (0, x2), (0, x3), (0, v28)] [(0, 1)] h30 Q
                have lf8 := xp32
                refine w_ifne (t := 65) gz_166_48 rfl (fun u37 => ?_) (fun u37 => by exfalso; omega)
                refine w_iconst gz_166_65 (by decide) ?_
                have c38 := ((my_up_role fh30 is_151 is_161 rfl).trans (my_up_self fh1))
                exact w_bret gz_166_66 gm_166 (by omega) (by omega) (k1 h30 (gh30) (by omega) (by omega) (by omega) (by omega) (by omega) (by first | exact ⟨(show ((0 ≤ x1 ∧ x1 ≤ 2) ∧ 0 ≤ x2 ∧ x2 < h 157 x1) ∧ x2 ≠ 0 by omega), nm_1 T8 ma8 e1s lf8⟩ | exact c160w c161 f42 (by omega) | exact (fun z => by have z1 : ((0 ≤ x1 ∧ x1 ≤ 2) ∧ 0 ≤ x2 ∧ x2 < h 157 x1) ∧ x2 ≠ 0 := z.1; omega) | exact (fun z => lf8 (nm_2 T8 ma8 e1s z.2)) | exact c161 | exact (fun j => (up_back f42 f62 (by omega) (by omega) j).trans (c161 j)) | assumption | omega) (by first | exact ⟨(show ((0 ≤ x1 ∧ x1 ≤ 2) ∧ 0 ≤ x2 ∧ x2 < h 157 x1) ∧ x2 ≠ 0 by omega), nm_1 T8 ma8 e1s lf8⟩ | exact c160w c161 f42 (by omega) | exact (fun z => by have z1 : ((0 ≤ x1 ∧ x1 ≤ 2) ∧ 0 ≤ x2 ∧ x2 < h 157 x1) ∧ x2 ≠ 0 := z.1; omega) | exact (fun z => lf8 (nm_2 T8 ma8 e1s z.2)) | exact c161 | exact (fun j => (up_back f42 f62 (by omega) (by omega) j).trans (c161 j)) | assumption | omega))
            ·
              refine w_iconst gz_166_18 (by decide) ?_
              have c39 := (my_up_self fh1)
              exact w_bret gz_166_19 gm_166 (by omega) (by omega) (k0 h1 (gh1) (by omega) (by first | exact ⟨(show ((0 ≤ x1 ∧ x1 ≤ 2) ∧ 0 ≤ x2 ∧ x2 < h 157 x1) ∧ x2 ≠ 0 by omega), nm_1 T8 ma8 e1s lf8⟩ | exact c160w c161 f42 (by omega) | exact (fun z => by have z1 : ((0 ≤ x1 ∧ x1 ≤ 2) ∧ 0 ≤ x2 ∧ x2 < h 157 x1) ∧ x2 ≠ 0 := z.1; omega) | exact (fun z => lf8 (nm_2 T8 ma8 e1s z.2)) | exact c161 | exact (fun j => (up_back f42 f62 (by omega) (by omega) j).trans (c161 j)) | assumption | omega) (by first | exact ⟨(show ((0 ≤ x1 ∧ x1 ≤ 2) ∧ 0 ≤ x2 ∧ x2 < h 157 x1) ∧ x2 ≠ 0 by omega), nm_1 T8 ma8 e1s lf8⟩ | exact c160w c161 f42 (by omega) | exact (fun z => by have z1 : ((0 ≤ x1 ∧ x1 ≤ 2) ∧ 0 ≤ x2 ∧ x2 < h 157 x1) ∧ x2 ≠ 0 := z.1; omega) | exact (fun z => lf8 (nm_2 T8 ma8 e1s z.2)) | exact c161 | exact (fun j => (up_back f42 f62 (by omega) (by omega) j).trans (c161 j)) | assumption | omega))
end MYNModel_isRow5
