/-! contracts of has (printed by wip/gen/mkhas.py) -/
section MYH
theorem c_Rows_has {l : Launch} {rho : Nat → Int32} {d : Nat} {h : my_H} {Q : my_H → my_V → Prop} {x0 x1 x2 : Int} (t0 : my_is 6 x0) (a1 : 0 ≤ x1) (b1 : x1 ≤ 2) (k0 : Q h (0, 0)) (k1 : 0 ≤ x2 → x2 ≤ 19 → Q h (0, 1)) : wp l rho d 15 0 [(2, x0), (0, x1), (0, x2)] [] h Q := by
  refine w_iload_n gz_15_0 rfl ?_
  refine w_iflt (t := 31) gz_15_1 rfl (fun u1 => ?_) (fun u1 => ?_)
  ·
    refine w_iconst gz_15_31 (by decide) ?_
    exact w_bret gz_15_32 gm_15 (by omega) (by omega) (k0 )
  ·
    refine w_iload_n gz_15_4 rfl ?_
    refine w_bipush gz_15_5 (by decide) ?_
    refine w_icge (t := 31) gz_15_7 rfl (fun u2 => ?_) (fun u2 => ?_)
    ·
      refine w_iconst gz_15_31 (by decide) ?_
      exact w_bret gz_15_32 gm_15 (by omega) (by omega) (k0 )
    ·
      refine w_aload_n gz_15_10 rfl ?_
      refine w_getX (v := (x0 + 1)) gz_15_11 t0 rd_6 rfl (by decide) rfl ?_
      refine w_iload_n gz_15_14 rfl ?_
      refine w_bipush gz_15_15 (by decide) ?_
      refine w_imul gz_15_17 ⟨by omega, by omega⟩ ?_
      refine w_iload_n gz_15_18 rfl ?_
      refine w_iadd gz_15_19 ⟨by omega, by omega⟩ ?_
      refine w_iconst gz_15_20 (by decide) ?_
      refine w_imul gz_15_21 ⟨by omega, by omega⟩ ?_
      refine w_iald gz_15_22 (ix_6_1 t0) rd_30 (by omega) (by omega) (fun v4 ev4 pv4 qv4 => ?_)
      refine w_iconst gz_15_23 (by decide) ?_
      refine w_iceq (t := 31) gz_15_24 rfl (fun u5 => ?_) (fun u5 => ?_)
      ·
        refine w_iconst gz_15_31 (by decide) ?_
        exact w_bret gz_15_32 gm_15 (by omega) (by omega) (k0 )
      ·
        refine w_iconst gz_15_27 (by decide) ?_
        refine w_goto (t := 32) gz_15_28 rfl ?_
        exact w_bret gz_15_32 gm_15 (by omega) (by omega) (k1 (by omega) (by omega))
theorem c_Laws_has {l : Launch} {rho : Nat → Int32} {d : Nat} {h : my_H} {Q : my_H → my_V → Prop} {x1 x2 : Int} (k0 : Q h (0, 0)) (k1 : 0 ≤ x1 → x1 ≤ 2 → 0 ≤ x2 → x2 ≤ 3 → Q h (0, 1)) : wp l rho (d + 1) 27 0 [(2, 1), (0, x1), (0, x2)] [] h Q := by
  refine w_aload_n gz_27_0 rfl ?_
  refine w_iload_n gz_27_1 rfl ?_
  refine w_inv (k := 0) (as := [(0, x1)]) (r := []) (x := 1) (ls0 := [(2, 1), (0, x1)]) gz_27_2 gm_13 rfl is_1 rd_3 rfl rfl rfl rfl rfl ?_
  refine w_iload_n gz_13_0 rfl ?_
  refine w_iflt (t := 22) gz_13_1 rfl (fun u1 => ?_) (fun u1 => ?_)
  ·
    refine w_iconst gz_13_22 (by decide) ?_
    refine w_bret gz_13_23 gm_13 (by omega) (by omega) ?_
    show wp l rho (d + 1) 27 5 [(2, 1), (0, x1), (0, x2)] [(0, 0)] h Q
    refine w_ifeq (t := 26) gz_27_5 rfl (fun u2 => ?_) (fun u2 => by exfalso; omega)
    refine w_iconst gz_27_26 (by decide) ?_
    exact w_bret gz_27_27 gm_27 (by omega) (by omega) (k0 )
  ·
    refine w_iload_n gz_13_4 rfl ?_
    refine w_iconst gz_13_5 (by decide) ?_
    refine w_icge (t := 22) gz_13_6 rfl (fun u3 => ?_) (fun u3 => ?_)
    ·
      refine w_iconst gz_13_22 (by decide) ?_
      refine w_bret gz_13_23 gm_13 (by omega) (by omega) ?_
      show wp l rho (d + 1) 27 5 [(2, 1), (0, x1), (0, x2)] [(0, 0)] h Q
      refine w_ifeq (t := 26) gz_27_5 rfl (fun u4 => ?_) (fun u4 => by exfalso; omega)
      refine w_iconst gz_27_26 (by decide) ?_
      exact w_bret gz_27_27 gm_27 (by omega) (by omega) (k0 )
    ·
      refine w_aload_n gz_13_9 rfl ?_
      refine w_getX (v := 2) gz_13_10 is_1 rd_3 rfl (by decide) rfl ?_
      refine w_iload_n gz_13_13 rfl ?_
      refine w_iald gz_13_14 is_2 rd_25 (by omega) (by omega) (fun v6 ev6 pv6 qv6 => ?_)
      refine w_ifle (t := 22) gz_13_15 rfl (fun u7 => ?_) (fun u7 => ?_)
      ·
        refine w_iconst gz_13_22 (by decide) ?_
        refine w_bret gz_13_23 gm_13 (by omega) (by omega) ?_
        show wp l rho (d + 1) 27 5 [(2, 1), (0, x1), (0, x2)] [(0, 0)] h Q
        refine w_ifeq (t := 26) gz_27_5 rfl (fun u8 => ?_) (fun u8 => by exfalso; omega)
        refine w_iconst gz_27_26 (by decide) ?_
        exact w_bret gz_27_27 gm_27 (by omega) (by omega) (k0 )
      ·
        refine w_iconst gz_13_18 (by decide) ?_
        refine w_goto (t := 23) gz_13_19 rfl ?_
        refine w_bret gz_13_23 gm_13 (by omega) (by omega) ?_
        show wp l rho (d + 1) 27 5 [(2, 1), (0, x1), (0, x2)] [(0, 1)] h Q
        refine w_ifeq (t := 26) gz_27_5 rfl (fun u9 => by exfalso; omega) (fun u9 => ?_)
        refine w_iload_n gz_27_8 rfl ?_
        refine w_iflt (t := 26) gz_27_9 rfl (fun u10 => ?_) (fun u10 => ?_)
        ·
          refine w_iconst gz_27_26 (by decide) ?_
          exact w_bret gz_27_27 gm_27 (by omega) (by omega) (k0 )
        ·
          refine w_iload_n gz_27_12 rfl ?_
          refine w_aload_n gz_27_13 rfl ?_
          refine w_getX (v := 2) gz_27_14 is_1 rd_3 rfl (by decide) rfl ?_
          refine w_iload_n gz_27_17 rfl ?_
          refine w_iald gz_27_18 is_2 rd_25 (by omega) (by omega) (fun v12 ev12 pv12 qv12 => ?_)
          have zv12 := ev12.trans ev6.symm
          refine w_icge (t := 26) gz_27_19 rfl (fun u13 => ?_) (fun u13 => ?_)
          ·
            refine w_iconst gz_27_26 (by decide) ?_
            exact w_bret gz_27_27 gm_27 (by omega) (by omega) (k0 )
          ·
            refine w_iconst gz_27_22 (by decide) ?_
            refine w_goto (t := 27) gz_27_23 rfl ?_
            exact w_bret gz_27_27 gm_27 (by omega) (by omega) (k1 (by omega) (by omega) (by omega) (by omega))
end MYH
