/-! contracts, printed by wip/gen/gy.py -/
section MYG0
theorem c_Laws_isElsewhere {l : Launch} {rho : Nat → Int32} {d : Nat} {h : my_H} {Q : my_H → my_V → Prop} {x0 x1 x2 x3 x4 : Int} (t0 : my_is 6 x0) (a1 : 0 ≤ x1) (b1 : x1 ≤ 2) (a2 : 0 ≤ x2) (b2 : x2 ≤ 19) (a3 : 0 ≤ x3) (b3 : x3 ≤ 3) (a4 : 0 ≤ x4) (b4 : x4 ≤ 19) (k0 : Q h (0, 0)) (k1 : Q h (0, 1)) : wp l rho (d + 1) 103 0 [(2, x0), (0, x1), (0, x2), (0, x3), (0, x4), (9, 0), (9, 0)] [] h Q := by
  have J3_0 : ∀ (n : Nat) (p3_0 : Int), 0 ≤ p3_0 → p3_0 ≤ 20 → 21 - p3_0 ≤ (n : Int) → wp l rho (d + 1) 103 3 [(2, x0), (0, x1), (0, x2), (0, x3), (0, x4), (0, p3_0), (9, 0)] [] h Q := by
    intro n
    induction n with
    | zero => intro p3_0 q0_3_0 q1_3_0 hm_3_0; exfalso; omega
    | succ n ih_3_0 =>
      intro p3_0 q0_3_0 q1_3_0 hm_3_0
      have J51_0 : ∀ (p51_0 : Int), p3_0 ≤ 19 → 0 ≤ p51_0 → p51_0 ≤ 236 → wp l rho (d + 1) 103 51 [(2, x0), (0, x1), (0, x2), (0, x3), (0, x4), (0, p3_0), (0, p51_0)] [] h Q := by
        intro p51_0 q0_51_0 q1_51_0 q2_51_0
        refine w_iinc (ls' := [(2, x0), (0, x1), (0, x2), (0, x3), (0, x4), (0, (p3_0 + 1)), (0, p51_0)]) gz_103_51 rfl gm_103 rfl rfl rfl ⟨by omega, by omega⟩ ?_
        refine w_goto (t := 3) gz_103_54 rfl ?_
        refine w_weak (ls' := [(2, x0), (0, x1), (0, x2), (0, x3), (0, x4), (0, (p3_0 + 1)), (9, 0)]) (wk_e (wk_e (wk_e (wk_e (wk_e (wk_e (wk_9 wk_n))))))) ?_
        exact ih_3_0 ((p3_0 + 1)) (by omega) (by omega) (by omega)
      refine w_iload gz_103_3 rfl ?_
      refine w_bipush gz_103_5 (by decide) ?_
      refine w_icge (t := 57) gz_103_7 rfl (fun u1 => ?_) (fun u1 => ?_)
      ·
        refine w_iconst gz_103_57 (by decide) ?_
        exact w_bret gz_103_58 gm_103 (by omega) (by omega) (k0 )
      ·
        refine w_iload_n gz_103_10 rfl ?_
        refine w_iload gz_103_11 rfl ?_
        refine w_inS (k := 0) (as := [(0, p3_0), (0, x1)]) (r := []) (ls0 := [(0, x1), (0, p3_0)]) gz_103_13 gm_17 rfl rfl rfl rfl rfl rfl ?_
        refine w_iload_n gz_17_0 rfl ?_
        refine w_bipush gz_17_1 (by decide) ?_
        refine w_imul gz_17_3 ⟨by omega, by omega⟩ ?_
        refine w_iload_n gz_17_4 rfl ?_
        refine w_iadd gz_17_5 ⟨by omega, by omega⟩ ?_
        refine w_iconst gz_17_6 (by decide) ?_
        refine w_imul gz_17_7 ⟨by omega, by omega⟩ ?_
        refine w_iret gz_17_8 gm_17 ?_
        show wp l rho (d + 1) 103 16 [(2, x0), (0, x1), (0, x2), (0, x3), (0, x4), (0, p3_0), (9, 0)] [(0, (((x1 * 20) + p3_0) * 4))] h Q
        refine w_istore (ls' := [(2, x0), (0, x1), (0, x2), (0, x3), (0, x4), (0, p3_0), (0, (((x1 * 20) + p3_0) * 4))]) gz_103_16 gm_103 rfl rfl rfl ?_
        refine w_iload gz_103_18 rfl ?_
        refine w_iload_n gz_103_20 rfl ?_
        refine w_iceq (t := 51) gz_103_21 rfl (fun u2 => ?_) (fun u2 => ?_)
        ·
          exact J51_0 ((((x1 * 20) + p3_0) * 4)) (by omega) (by omega) (by omega)
        ·
          refine w_aload_n gz_103_24 rfl ?_
          refine w_getX (v := (x0 + 1)) gz_103_25 t0 rd_6 rfl (by decide) rfl ?_
          refine w_iload gz_103_28 rfl ?_
          refine w_iald gz_103_30 (ix_6_1 t0) rd_30 (by omega) (by omega) (fun v4 ev4 pv4 qv4 => ?_)
          refine w_iconst gz_103_31 (by decide) ?_
          refine w_iceq (t := 51) gz_103_32 rfl (fun u5 => ?_) (fun u5 => ?_)
          ·
            exact J51_0 ((((x1 * 20) + p3_0) * 4)) (by omega) (by omega) (by omega)
          ·
            refine w_aload_n gz_103_35 rfl ?_
            refine w_getX (v := (x0 + 1)) gz_103_36 t0 rd_6 rfl (by decide) rfl ?_
            refine w_iload gz_103_39 rfl ?_
            refine w_iload_n gz_103_41 rfl ?_
            refine w_iadd gz_103_42 ⟨by omega, by omega⟩ ?_
            refine w_iald gz_103_43 (ix_6_1 t0) rd_30 (by omega) (by omega) (fun v7 ev7 pv7 qv7 => ?_)
            refine w_iload gz_103_44 rfl ?_
            refine w_icne (t := 51) gz_103_46 rfl (fun u8 => ?_) (fun u8 => ?_)
            ·
              exact J51_0 ((((x1 * 20) + p3_0) * 4)) (by omega) (by omega) (by omega)
            ·
              refine w_iconst gz_103_49 (by decide) ?_
              exact w_bret gz_103_50 gm_103 (by omega) (by omega) (k1 )
  refine w_iconst gz_103_0 (by decide) ?_
  refine w_istore (ls' := [(2, x0), (0, x1), (0, x2), (0, x3), (0, x4), (0, 0), (9, 0)]) gz_103_1 gm_103 rfl rfl rfl ?_
  exact J3_0 21 (0) (by omega) (by omega) (by omega)
theorem c_Lens_columnShowing {l : Launch} {rho : Nat → Int32} {d : Nat} {h : my_H} {Q : my_H → my_V → Prop} {x0 x1 : Int} (t0 : my_is 4 x0) (a1 : 0 ≤ x1) (b1 : x1 ≤ 3) (k0 : Q h (0, (-1))) (k1 : ∀ (y : Int), 0 ≤ y → y ≤ 7 → 1 ≤ h x0 4 → h x0 4 ≤ 8 → Q h (0, y)) : wp l rho (d + 1) 107 0 [(2, x0), (0, x1), (9, 0)] [] h Q := by
  have J2_0 : ∀ (n : Nat) (p2_0 : Int), 0 ≤ p2_0 → p2_0 ≤ 8 → 9 - p2_0 ≤ (n : Int) → wp l rho (d + 1) 107 2 [(2, x0), (0, x1), (0, p2_0)] [] h Q := by
    intro n
    induction n with
    | zero => intro p2_0 q0_2_0 q1_2_0 hm_2_0; exfalso; omega
    | succ n ih_2_0 =>
      intro p2_0 q0_2_0 q1_2_0 hm_2_0
      refine w_iload_n gz_107_2 rfl ?_
      refine w_aload_n gz_107_3 rfl ?_
      refine v_getI (j := 4) gz_107_4 rfl t0 rd_4 rfl (fun v1 ev1 pv1 qv1 => ?_)
      refine w_icge (t := 35) gz_107_7 rfl (fun u2 => ?_) (fun u2 => ?_)
      ·
        refine w_iconst gz_107_35 (by decide) ?_
        exact w_iret gz_107_36 gm_107 (k0 )
      ·
        refine w_aload_n gz_107_10 rfl ?_
        refine w_getX (v := (x0 + 6)) gz_107_11 t0 rd_4 rfl (by decide) rfl ?_
        refine w_iload_n gz_107_14 rfl ?_
        refine w_iald gz_107_15 (ix_4_6 t0) rd_37 (by omega) (by omega) (fun v4 ev4 pv4 qv4 => ?_)
        refine w_aload_n gz_107_16 rfl ?_
        refine v_getI (j := 2) gz_107_17 rfl t0 rd_4 rfl (fun v5 ev5 pv5 qv5 => ?_)
        refine w_iload_n gz_107_20 rfl ?_
        refine w_inS (k := 0) (as := [(0, x1), (0, v5)]) (r := [(0, v4)]) (ls0 := [(0, v5), (0, x1)]) gz_107_21 gm_29 rfl rfl rfl rfl rfl rfl ?_
        refine w_iload_n gz_29_0 rfl ?_
        refine w_iconst gz_29_1 (by decide) ?_
        refine w_imul gz_29_2 ⟨by omega, by omega⟩ ?_
        refine w_iload_n gz_29_3 rfl ?_
        refine w_iadd gz_29_4 ⟨by omega, by omega⟩ ?_
        refine w_iret gz_29_5 gm_29 ?_
        show wp l rho (d + 1) 107 24 [(2, x0), (0, x1), (0, p2_0)] [(0, ((v5 * 4) + x1)), (0, v4)] h Q
        refine w_icne (t := 29) gz_107_24 rfl (fun u6 => ?_) (fun u6 => ?_)
        ·
          refine w_iinc (ls' := [(2, x0), (0, x1), (0, (p2_0 + 1))]) gz_107_29 rfl gm_107 rfl rfl rfl ⟨by omega, by omega⟩ ?_
          refine w_goto (t := 2) gz_107_32 rfl ?_
          exact ih_2_0 ((p2_0 + 1)) (by omega) (by omega) (by omega)
        ·
          refine w_iload_n gz_107_27 rfl ?_
          have c7 := ev1.symm
          exact w_iret gz_107_28 gm_107 (k1 (p2_0) (by omega) (by omega) (by omega) (by omega))
  refine w_iconst gz_107_0 (by decide) ?_
  refine w_istore_n (ls' := [(2, x0), (0, x1), (0, 0)]) gz_107_1 gm_107 rfl rfl rfl ?_
  exact J2_0 9 (0) (by omega) (by omega) (by omega)
theorem c_Rows_same {l : Launch} {rho : Nat → Int32} {d : Nat} {h : my_H} {Q : my_H → my_V → Prop} {x0 x1 : Int} (t0 : my_is 6 x0) (t1 : my_is 6 x1) (k0 : Q h (0, 0)) (k1 : Q h (0, 1)) : wp l rho d 116 0 [(2, x0), (2, x1), (9, 0)] [] h Q := by
  have J2_0 : ∀ (n : Nat) (p2_0 : Int), 0 ≤ p2_0 → p2_0 ≤ 240 → 241 - p2_0 ≤ (n : Int) → wp l rho d 116 2 [(2, x0), (2, x1), (0, p2_0)] [] h Q := by
    intro n
    induction n with
    | zero => intro p2_0 q0_2_0 q1_2_0 hm_2_0; exfalso; omega
    | succ n ih_2_0 =>
      intro p2_0 q0_2_0 q1_2_0 hm_2_0
      refine w_iload_n gz_116_2 rfl ?_
      refine w_aload_n gz_116_3 rfl ?_
      refine w_getX (v := (x0 + 1)) gz_116_4 t0 rd_6 rfl (by decide) rfl ?_
      refine v_alen (j := 240) gz_116_7 rfl (ix_6_1 t0) rd_30 (by decide) ?_
      refine w_icge (t := 34) gz_116_8 rfl (fun u2 => ?_) (fun u2 => ?_)
      ·
        refine w_iconst gz_116_34 (by decide) ?_
        exact w_bret gz_116_35 gm_116 (by omega) (by omega) (k1 )
      ·
        refine w_aload_n gz_116_11 rfl ?_
        refine w_getX (v := (x0 + 1)) gz_116_12 t0 rd_6 rfl (by decide) rfl ?_
        refine w_iload_n gz_116_15 rfl ?_
        refine w_iald gz_116_16 (ix_6_1 t0) rd_30 (by omega) (by omega) (fun v4 ev4 pv4 qv4 => ?_)
        refine w_aload_n gz_116_17 rfl ?_
        refine w_getX (v := (x1 + 1)) gz_116_18 t1 rd_6 rfl (by decide) rfl ?_
        refine w_iload_n gz_116_21 rfl ?_
        refine w_iald gz_116_22 (ix_6_1 t1) rd_30 (by omega) (by omega) (fun v6 ev6 pv6 qv6 => ?_)
        refine w_iceq (t := 28) gz_116_23 rfl (fun u7 => ?_) (fun u7 => ?_)
        ·
          refine w_iinc (ls' := [(2, x0), (2, x1), (0, (p2_0 + 1))]) gz_116_28 rfl gm_116 rfl rfl rfl ⟨by omega, by omega⟩ ?_
          refine w_goto (t := 2) gz_116_31 rfl ?_
          exact ih_2_0 ((p2_0 + 1)) (by omega) (by omega) (by omega)
        ·
          refine w_iconst gz_116_26 (by decide) ?_
          exact w_bret gz_116_27 gm_116 (by omega) (by omega) (k0 )
  refine w_iconst gz_116_0 (by decide) ?_
  refine w_istore_n (ls' := [(2, x0), (2, x1), (0, 0)]) gz_116_1 gm_116 rfl rfl rfl ?_
  exact J2_0 241 (0) (by omega) (by omega) (by omega)
theorem c_ThroughWindow_wall {l : Launch} {rho : Nat → Int32} {d : Nat} {h : my_H} {Q : my_H → my_V → Prop} {x1 x2 : Int} (k0 : ∀ (h' : my_H), my_fr [(25, -1)] h h' → Q h' (0, 0)) (k1 : ∀ (h' : my_H), my_fr [(25, -1)] h h' → 0 ≤ x1 → x1 ≤ 2 → 1 ≤ x2 → x2 ≤ 4 → Q h' (0, 1)) : wp l rho (d + 1) 12 0 [(2, 0), (0, x1), (0, x2)] [] h Q := by
  refine w_iload_n gz_12_0 rfl ?_
  refine w_iflt (t := 30) gz_12_1 rfl (fun u1 => ?_) (fun u1 => ?_)
  ·
    refine w_iconst gz_12_30 (by decide) ?_
    exact w_bret gz_12_31 gm_12 (by omega) (by omega) (k0 h (my_fr.rf))
  ·
    refine w_iload_n gz_12_4 rfl ?_
    refine w_iconst gz_12_5 (by decide) ?_
    refine w_icge (t := 30) gz_12_6 rfl (fun u2 => ?_) (fun u2 => ?_)
    ·
      refine w_iconst gz_12_30 (by decide) ?_
      exact w_bret gz_12_31 gm_12 (by omega) (by omega) (k0 h (my_fr.rf))
    ·
      refine w_aload_n gz_12_9 rfl ?_
      refine w_getX (v := 1) gz_12_10 is_0 rd_9 rfl (by decide) rfl ?_
      refine w_iload_n gz_12_13 rfl ?_
      refine w_inv (k := 0) (as := [(0, x1)]) (r := []) (x := 1) (ls0 := [(2, 1), (0, x1)]) gz_12_14 gm_13 rfl is_1 rd_3 rfl rfl rfl rfl rfl ?_
      refine w_iload_n gz_13_0 rfl ?_
      refine w_iflt (t := 22) gz_13_1 rfl (fun u4 => by exfalso; omega) (fun u4 => ?_)
      refine w_iload_n gz_13_4 rfl ?_
      refine w_iconst gz_13_5 (by decide) ?_
      refine w_icge (t := 22) gz_13_6 rfl (fun u5 => by exfalso; omega) (fun u5 => ?_)
      refine w_aload_n gz_13_9 rfl ?_
      refine w_getX (v := 2) gz_13_10 is_1 rd_3 rfl (by decide) rfl ?_
      refine w_iload_n gz_13_13 rfl ?_
      refine w_iald gz_13_14 is_2 rd_25 (by omega) (by omega) (fun v7 ev7 pv7 qv7 => ?_)
      refine w_ifle (t := 22) gz_13_15 rfl (fun u8 => ?_) (fun u8 => ?_)
      ·
        refine w_iconst gz_13_22 (by decide) ?_
        refine w_bret gz_13_23 gm_13 (by omega) (by omega) ?_
        show wp l rho (d + 1) 12 17 [(2, 0), (0, x1), (0, x2)] [(0, 0)] h Q
        refine w_ifne (t := 30) gz_12_17 rfl (fun u9 => by exfalso; omega) (fun u9 => ?_)
        refine w_iload_n gz_12_20 rfl ?_
        refine w_iconst gz_12_21 (by decide) ?_
        refine w_iclt (t := 30) gz_12_22 rfl (fun u10 => ?_) (fun u10 => ?_)
        ·
          refine w_iconst gz_12_30 (by decide) ?_
          exact w_bret gz_12_31 gm_12 (by omega) (by omega) (k0 h (my_fr.rf))
        ·
          refine w_iload_n gz_12_25 rfl ?_
          refine w_iconst gz_12_26 (by decide) ?_
          refine w_icle (t := 32) gz_12_27 rfl (fun u11 => ?_) (fun u11 => ?_)
          ·
            refine w_aload_n gz_12_32 rfl ?_
            refine w_getX (v := 1) gz_12_33 is_0 rd_9 rfl (by decide) rfl ?_
            refine w_getX (v := 2) gz_12_36 is_1 rd_3 rfl (by decide) rfl ?_
            refine w_iload_n gz_12_39 rfl ?_
            refine w_iload_n gz_12_40 rfl ?_
            refine w_iast gz_12_41 is_2 rd_25 (by omega) (by omega) (by omega) (by omega) (fun h14 fh14 => ?_)
            have gh14 : my_fr [(25, -1)] h h14 := my_fr.up my_fr.rf is_2 fh14 rfl
            refine w_iconst gz_12_42 (by decide) ?_
            exact w_bret gz_12_43 gm_12 (by omega) (by omega) (k1 h14 (gh14) (by omega) (by omega) (by omega) (by omega))
          ·
            refine w_iconst gz_12_30 (by decide) ?_
            exact w_bret gz_12_31 gm_12 (by omega) (by omega) (k0 h (my_fr.rf))
      ·
        refine w_iconst gz_13_18 (by decide) ?_
        refine w_goto (t := 23) gz_13_19 rfl ?_
        refine w_bret gz_13_23 gm_13 (by omega) (by omega) ?_
        show wp l rho (d + 1) 12 17 [(2, 0), (0, x1), (0, x2)] [(0, 1)] h Q
        refine w_ifne (t := 30) gz_12_17 rfl (fun u15 => ?_) (fun u15 => by exfalso; omega)
        refine w_iconst gz_12_30 (by decide) ?_
        exact w_bret gz_12_31 gm_12 (by omega) (by omega) (k0 h (my_fr.rf))
theorem c_Rows_keysOf {l : Launch} {rho : Nat → Int32} {d : Nat} {h : my_H} {Q : my_H → my_V → Prop} {x0 x1 x2 : Int} (t0 : my_is 6 x0) (a1 : 0 ≤ x1) (b1 : x1 ≤ 2) (a2 : (-1) ≤ x2) (b2 : x2 ≤ 2147483646) (k0 : ∀ (y : Int), Q h (0, y)) : wp l rho (d + 1) 121 0 [(2, x0), (0, x1), (0, x2), (9, 0), (9, 0), (9, 0)] [] h Q := by
  have J8_0 : ∀ (n : Nat) (p8_0 p8_1 p8_2 : Int), 0 ≤ p8_1 → p8_1 ≤ 20 → 0 ≤ p8_2 → p8_2 ≤ 20 → p8_1 ≤ p8_2 → 21 - p8_2 ≤ (n : Int) → wp l rho (d + 1) 121 8 [(2, x0), (0, x1), (0, x2), (0, p8_0), (0, p8_1), (0, p8_2)] [] h Q := by
    intro n
    induction n with
    | zero => intro p8_0 p8_1 p8_2 q0_8_0 q1_8_0 q2_8_0 q3_8_0 q4_8_0 hm_8_0; exfalso; omega
    | succ n ih_8_0 =>
      intro p8_0 p8_1 p8_2 q0_8_0 q1_8_0 q2_8_0 q3_8_0 q4_8_0 hm_8_0
      have J40_0 : ∀ (p40_0 p40_1 : Int), 0 ≤ p40_1 → p40_1 ≤ 20 → p8_2 ≤ 19 → p8_1 ≤ 19 → p40_1 ≤ (p8_2 + 1) → p40_1 ≤ (p8_1 + 1) → p8_1 ≤ p40_1 → p8_1 ≤ p8_2 → wp l rho (d + 1) 121 40 [(2, x0), (0, x1), (0, x2), (0, p40_0), (0, p40_1), (0, p8_2)] [] h Q := by
        intro p40_0 p40_1 q0_40_0 q1_40_0 q2_40_0 q3_40_0 q4_40_0 q5_40_0 q6_40_0 q7_40_0
        refine w_iinc (ls' := [(2, x0), (0, x1), (0, x2), (0, p40_0), (0, p40_1), (0, (p8_2 + 1))]) gz_121_40 rfl gm_121 rfl rfl rfl ⟨by omega, by omega⟩ ?_
        refine w_goto (t := 8) gz_121_43 rfl ?_
        exact ih_8_0 (p40_0) (p40_1) ((p8_2 + 1)) (by omega) (by omega) (by omega) (by omega) (by omega) (by omega)
      refine w_iload gz_121_8 rfl ?_
      refine w_bipush gz_121_10 (by decide) ?_
      refine w_icge (t := 46) gz_121_12 rfl (fun u1 => ?_) (fun u1 => ?_)
      ·
        refine w_iload_n gz_121_46 rfl ?_
        exact w_iret gz_121_47 gm_121 (k0 (p8_0))
      ·
        refine w_aload_n gz_121_15 rfl ?_
        refine w_iload_n gz_121_16 rfl ?_
        refine w_iload gz_121_17 rfl ?_
        refine w_inv (k := 0) (as := [(0, p8_2), (0, x1)]) (r := []) (x := x0) (ls0 := [(2, x0), (0, x1), (0, p8_2)]) gz_121_19 gm_15 rfl t0 rd_6 rfl rfl rfl rfl rfl ?_
        refine w_iload_n gz_15_0 rfl ?_
        refine w_iflt (t := 31) gz_15_1 rfl (fun u2 => by exfalso; omega) (fun u2 => ?_)
        refine w_iload_n gz_15_4 rfl ?_
        refine w_bipush gz_15_5 (by decide) ?_
        refine w_icge (t := 31) gz_15_7 rfl (fun u3 => by exfalso; omega) (fun u3 => ?_)
        refine w_aload_n gz_15_10 rfl ?_
        refine w_getX (v := (x0 + 1)) gz_15_11 t0 rd_6 rfl (by decide) rfl ?_
        refine w_iload_n gz_15_14 rfl ?_
        refine w_bipush gz_15_15 (by decide) ?_
        refine w_imul gz_15_17 ⟨by omega, by omega⟩ ?_
        refine w_iload_n gz_15_18 rfl ?_
        refine w_iadd gz_15_19 ⟨by omega, by omega⟩ ?_
        refine w_iconst gz_15_20 (by decide) ?_
        refine w_imul gz_15_21 ⟨by omega, by omega⟩ ?_
        refine w_iald gz_15_22 (ix_6_1 t0) rd_30 (by omega) (by omega) (fun v5 ev5 pv5 qv5 => ?_)
        refine w_iconst gz_15_23 (by decide) ?_
        refine w_iceq (t := 31) gz_15_24 rfl (fun u6 => ?_) (fun u6 => ?_)
        ·
          refine w_iconst gz_15_31 (by decide) ?_
          refine w_bret gz_15_32 gm_15 (by omega) (by omega) ?_
          show wp l rho (d + 1) 121 22 [(2, x0), (0, x1), (0, x2), (0, p8_0), (0, p8_1), (0, p8_2)] [(0, 0)] h Q
          refine w_ifeq (t := 40) gz_121_22 rfl (fun u7 => ?_) (fun u7 => by exfalso; omega)
          exact J40_0 (p8_0) (p8_1) (by omega) (by omega) (by omega) (by omega) (by omega) (by omega) (by omega) (by omega)
        ·
          refine w_iconst gz_15_27 (by decide) ?_
          refine w_goto (t := 32) gz_15_28 rfl ?_
          refine w_bret gz_15_32 gm_15 (by omega) (by omega) ?_
          show wp l rho (d + 1) 121 22 [(2, x0), (0, x1), (0, x2), (0, p8_0), (0, p8_1), (0, p8_2)] [(0, 1)] h Q
          refine w_ifeq (t := 40) gz_121_22 rfl (fun u8 => by exfalso; omega) (fun u8 => ?_)
          refine w_iload_n gz_121_25 rfl ?_
          refine w_iload_n gz_121_26 rfl ?_
          refine w_iload gz_121_27 rfl ?_
          refine w_ianyR gz_121_29 (fun v9 pv9 qv9 => ?_)
          refine w_iconst gz_121_30 (by decide) ?_
          refine w_iandM gz_121_31 (by decide) (fun v10 pv10 qv10 => ?_)
          refine w_iload gz_121_32 rfl ?_
          refine w_ianyL gz_121_34 (fun v11 pv11 qv11 => ?_)
          refine w_ianyO gz_121_35 (fun v12 pv12 qv12 => ?_)
          refine w_istore_n (ls' := [(2, x0), (0, x1), (0, x2), (0, v12), (0, p8_1), (0, p8_2)]) gz_121_36 gm_121 rfl rfl rfl ?_
          refine w_iinc (ls' := [(2, x0), (0, x1), (0, x2), (0, v12), (0, (p8_1 + 1)), (0, p8_2)]) gz_121_37 rfl gm_121 rfl rfl rfl ⟨by omega, by omega⟩ ?_
          exact J40_0 (v12) ((p8_1 + 1)) (by omega) (by omega) (by omega) (by omega) (by omega) (by omega) (by omega) (by omega)
  refine w_iconst gz_121_0 (by decide) ?_
  refine w_istore_n (ls' := [(2, x0), (0, x1), (0, x2), (0, 0), (9, 0), (9, 0)]) gz_121_1 gm_121 rfl rfl rfl ?_
  refine w_iconst gz_121_2 (by decide) ?_
  refine w_istore (ls' := [(2, x0), (0, x1), (0, x2), (0, 0), (0, 0), (9, 0)]) gz_121_3 gm_121 rfl rfl rfl ?_
  refine w_iconst gz_121_5 (by decide) ?_
  refine w_istore (ls' := [(2, x0), (0, x1), (0, x2), (0, 0), (0, 0), (0, 0)]) gz_121_6 gm_121 rfl rfl rfl ?_
  exact J8_0 21 (0) (0) (0) (by omega) (by omega) (by omega) (by omega) (by omega) (by omega)
theorem c_Cutter_picksColumns {l : Launch} {rho : Nat → Int32} {d : Nat} {h : my_H} {Q : my_H → my_V → Prop} {x1 x2 x3 : Int} (a1 : 0 ≤ x1) (a2 : 0 ≤ x2) (b2 : x2 ≤ 4) (a3 : 0 ≤ x3) (b3 : x3 ≤ 4) (k0 : ∀ (h' : my_H), my_fr [(45, -1)] h h' → 1 ≤ x2 → Q h' (0, 0)) (k1 : ∀ (h' : my_H), my_fr [(45, -1)] h h' → Q h' (0, 1)) : wp l rho d 124 0 [(2, 114), (0, x1), (0, x2), (0, x3), (9, 0), (9, 0), (9, 0)] [] h Q := by
  have J6_0 : ∀ (n : Nat) (p6_0 p6_1 : Int) (h6_0 : my_H), my_fr [(45, -1)] h h6_0 → 0 ≤ p6_1 → p6_1 ≤ 4 → p6_1 ≤ x2 → 5 - p6_1 ≤ (n : Int) → wp l rho d 124 6 [(2, 114), (0, x1), (0, x2), (0, x3), (0, p6_0), (0, p6_1), (9, 0)] [] h6_0 Q := by
    intro n
    induction n with
    | zero => intro p6_0 p6_1 h6_0 gh_6_0 q0_6_0 q1_6_0 q2_6_0 hm_6_0; exfalso; omega
    | succ n ih_6_0 =>
      intro p6_0 p6_1 h6_0 gh_6_0 q0_6_0 q1_6_0 q2_6_0 hm_6_0
      refine w_iload gz_124_6 rfl ?_
      refine w_iload_n gz_124_8 rfl ?_
      refine w_icge (t := 64) gz_124_9 rfl (fun u1 => ?_) (fun u1 => ?_)
      ·
        refine w_iconst gz_124_64 (by decide) ?_
        exact w_bret gz_124_65 gm_124 (by omega) (by omega) (k1 h6_0 (gh_6_0))
      ·
        refine w_iload_n gz_124_12 rfl ?_
        refine w_iconst gz_124_13 (by decide) ?_
        refine w_iload gz_124_14 rfl ?_
        refine w_imul gz_124_16 ⟨by omega, by omega⟩ ?_
        refine w_ianyR gz_124_17 (fun v2 pv2 qv2 => ?_)
        refine w_iconst gz_124_18 (by decide) ?_
        refine w_iandM gz_124_19 (by decide) (fun v3 pv3 qv3 => ?_)
        refine w_istore (ls' := [(2, 114), (0, x1), (0, x2), (0, x3), (0, p6_0), (0, p6_1), (0, v3)]) gz_124_20 gm_124 rfl rfl rfl ?_
        refine w_iload gz_124_22 rfl ?_
        refine w_iload_n gz_124_24 rfl ?_
        refine w_icge (t := 38) gz_124_25 rfl (fun u4 => ?_) (fun u4 => ?_)
        ·
          refine w_iconst gz_124_38 (by decide) ?_
          exact w_bret gz_124_39 gm_124 (by omega) (by omega) (k0 h6_0 (gh_6_0) (by omega))
        ·
          refine w_iload gz_124_28 rfl ?_
          refine w_iload gz_124_30 rfl ?_
          refine w_ianyR gz_124_32 (fun v5 pv5 qv5 => ?_)
          refine w_iconst gz_124_33 (by decide) ?_
          refine w_iandM gz_124_34 (by decide) (fun v6 pv6 qv6 => ?_)
          refine w_ifeq (t := 40) gz_124_35 rfl (fun u7 => ?_) (fun u7 => ?_)
          ·
            refine w_iload gz_124_40 rfl ?_
            refine w_iconst gz_124_42 (by decide) ?_
            refine w_iload gz_124_43 rfl ?_
            refine w_ianyL gz_124_45 (fun v8 pv8 qv8 => ?_)
            refine w_ianyO gz_124_46 (fun v9 pv9 qv9 => ?_)
            refine w_istore (ls' := [(2, 114), (0, x1), (0, x2), (0, x3), (0, v9), (0, p6_1), (0, v3)]) gz_124_47 gm_124 rfl rfl rfl ?_
            refine w_aload_n gz_124_49 rfl ?_
            refine w_getX (v := 119) gz_124_50 is_114 rd_1 rfl (by decide) rfl ?_
            refine w_iload gz_124_53 rfl ?_
            refine w_iload gz_124_55 rfl ?_
            refine w_iast gz_124_57 is_119 rd_45 (by omega) (by omega) (by omega) (by omega) (fun h11 fh11 => ?_)
            have gh11 : my_fr [(45, -1)] h h11 := my_fr.up gh_6_0 is_119 fh11 rfl
            refine w_iinc (ls' := [(2, 114), (0, x1), (0, x2), (0, x3), (0, v9), (0, (p6_1 + 1)), (0, v3)]) gz_124_58 rfl gm_124 rfl rfl rfl ⟨by omega, by omega⟩ ?_
            refine w_goto (t := 6) gz_124_61 rfl ?_
            refine w_weak (ls' := [(2, 114), (0, x1), (0, x2), (0, x3), (0, v9), (0, (p6_1 + 1)), (9, 0)]) (wk_e (wk_e (wk_e (wk_e (wk_e (wk_e (wk_9 wk_n))))))) ?_
            exact ih_6_0 (v9) ((p6_1 + 1)) h11 (gh11) (by omega) (by omega) (by omega) (by omega)
          ·
            refine w_iconst gz_124_38 (by decide) ?_
            exact w_bret gz_124_39 gm_124 (by omega) (by omega) (k0 h6_0 (gh_6_0) (by omega))
  refine w_iconst gz_124_0 (by decide) ?_
  refine w_istore (ls' := [(2, 114), (0, x1), (0, x2), (0, x3), (0, 0), (9, 0), (9, 0)]) gz_124_1 gm_124 rfl rfl rfl ?_
  refine w_iconst gz_124_3 (by decide) ?_
  refine w_istore (ls' := [(2, 114), (0, x1), (0, x2), (0, x3), (0, 0), (0, 0), (9, 0)]) gz_124_4 gm_124 rfl rfl rfl ?_
  exact J6_0 5 (0) (0) h (my_fr.rf) (by omega) (by omega) (by omega) (by omega)
theorem c_Cutter_keysLeft {l : Launch} {rho : Nat → Int32} {d : Nat} {h : my_H} {Q : my_H → my_V → Prop} {x0 x1 x2 x3 x4 : Int} (t0 : my_is 6 x0) (a1 : 0 ≤ x1) (b1 : x1 ≤ 2) (a2 : 0 ≤ x2) (b2 : x2 ≤ 3) (a3 : 0 ≤ x3) (b3 : x3 ≤ 2) (a4 : 0 ≤ x4) (b4 : x4 ≤ 20) (k0 : x2 ≤ 0 → x3 ≤ 0 → x4 ≤ 0 → Q h (0, 0)) (k1 : ∀ (y : Int), Q h (0, y)) : wp l rho (d + 1) 125 0 [(2, x0), (0, x1), (0, x2), (0, x3), (0, x4), (9, 0), (9, 0), (9, 0)] [] h Q := by
  have J6_0 : ∀ (n : Nat) (p6_0 p6_1 p6_2 : Int), 0 ≤ p6_0 → p6_0 ≤ 2 → 0 ≤ p6_2 → p6_2 ≤ 20 → p6_0 ≤ x3 → x3 ≤ p6_0 → 21 - p6_2 ≤ (n : Int) → wp l rho (d + 1) 125 6 [(2, x0), (0, x1), (0, x2), (0, p6_0), (0, x4), (0, p6_1), (0, p6_2), (9, 0)] [] h Q := by
    intro n
    induction n with
    | zero => intro p6_0 p6_1 p6_2 q0_6_0 q1_6_0 q2_6_0 q3_6_0 q4_6_0 q5_6_0 hm_6_0; exfalso; omega
    | succ n ih_6_0 =>
      intro p6_0 p6_1 p6_2 q0_6_0 q1_6_0 q2_6_0 q3_6_0 q4_6_0 q5_6_0 hm_6_0
      have J59_0 : ∀ (p59_0 p59_1 p59_2 : Int), 0 ≤ p59_0 → p59_0 ≤ 2 → p6_2 ≤ 19 → 0 ≤ p59_2 → p59_2 ≤ 236 → p59_0 ≤ p6_0 → p59_0 ≤ x3 → p6_0 ≤ p59_0 → p6_0 ≤ x3 → x3 ≤ p59_0 → x3 ≤ p6_0 → wp l rho (d + 1) 125 59 [(2, x0), (0, x1), (0, x2), (0, p59_0), (0, x4), (0, p59_1), (0, p6_2), (0, p59_2)] [] h Q := by
        intro p59_0 p59_1 p59_2 q0_59_0 q1_59_0 q2_59_0 q3_59_0 q4_59_0 q5_59_0 q6_59_0 q7_59_0 q8_59_0 q9_59_0 q10_59_0
        refine w_iinc (ls' := [(2, x0), (0, x1), (0, x2), (0, p59_0), (0, x4), (0, p59_1), (0, (p6_2 + 1)), (0, p59_2)]) gz_125_59 rfl gm_125 rfl rfl rfl ⟨by omega, by omega⟩ ?_
        refine w_goto (t := 6) gz_125_62 rfl ?_
        refine w_weak (ls' := [(2, x0), (0, x1), (0, x2), (0, p59_0), (0, x4), (0, p59_1), (0, (p6_2 + 1)), (9, 0)]) (wk_e (wk_e (wk_e (wk_e (wk_e (wk_e (wk_e (wk_9 wk_n)))))))) ?_
        exact ih_6_0 (p59_0) (p59_1) ((p6_2 + 1)) (by omega) (by omega) (by omega) (by omega) (by omega) (by omega) (by omega)
      refine w_iload gz_125_6 rfl ?_
      refine w_bipush gz_125_8 (by decide) ?_
      refine w_icge (t := 65) gz_125_10 rfl (fun u1 => ?_) (fun u1 => ?_)
      ·
        refine w_iload gz_125_65 rfl ?_
        exact w_iret gz_125_67 gm_125 (k1 (p6_1))
      ·
        refine w_iload_n gz_125_13 rfl ?_
        refine w_iload gz_125_14 rfl ?_
        refine w_inS (k := 0) (as := [(0, p6_2), (0, x1)]) (r := []) (ls0 := [(0, x1), (0, p6_2)]) gz_125_16 gm_17 rfl rfl rfl rfl rfl rfl ?_
        refine w_iload_n gz_17_0 rfl ?_
        refine w_bipush gz_17_1 (by decide) ?_
        refine w_imul gz_17_3 ⟨by omega, by omega⟩ ?_
        refine w_iload_n gz_17_4 rfl ?_
        refine w_iadd gz_17_5 ⟨by omega, by omega⟩ ?_
        refine w_iconst gz_17_6 (by decide) ?_
        refine w_imul gz_17_7 ⟨by omega, by omega⟩ ?_
        refine w_iret gz_17_8 gm_17 ?_
        show wp l rho (d + 1) 125 19 [(2, x0), (0, x1), (0, x2), (0, p6_0), (0, x4), (0, p6_1), (0, p6_2), (9, 0)] [(0, (((x1 * 20) + p6_2) * 4))] h Q
        refine w_istore (ls' := [(2, x0), (0, x1), (0, x2), (0, p6_0), (0, x4), (0, p6_1), (0, p6_2), (0, (((x1 * 20) + p6_2) * 4))]) gz_125_19 gm_125 rfl rfl rfl ?_
        refine w_aload_n gz_125_21 rfl ?_
        refine w_getX (v := (x0 + 1)) gz_125_22 t0 rd_6 rfl (by decide) rfl ?_
        refine w_iload gz_125_25 rfl ?_
        refine w_iald gz_125_27 (ix_6_1 t0) rd_30 (by omega) (by omega) (fun v3 ev3 pv3 qv3 => ?_)
        refine w_iconst gz_125_28 (by decide) ?_
        refine w_iceq (t := 59) gz_125_29 rfl (fun u4 => ?_) (fun u4 => ?_)
        ·
          exact J59_0 (p6_0) (p6_1) ((((x1 * 20) + p6_2) * 4)) (by omega) (by omega) (by omega) (by omega) (by omega) (by omega) (by omega) (by omega) (by omega) (by omega) (by omega)
        ·
          refine w_iload_n gz_125_32 rfl ?_
          refine w_aload_n gz_125_33 rfl ?_
          refine w_getX (v := (x0 + 1)) gz_125_34 t0 rd_6 rfl (by decide) rfl ?_
          refine w_iload gz_125_37 rfl ?_
          refine w_iload_n gz_125_39 rfl ?_
          refine w_iadd gz_125_40 ⟨by omega, by omega⟩ ?_
          refine w_iald gz_125_41 (ix_6_1 t0) rd_30 (by omega) (by omega) (fun v6 ev6 pv6 qv6 => ?_)
          refine w_iload gz_125_42 rfl ?_
          refine w_inS (k := 0) (as := [(0, x4), (0, v6), (0, p6_0)]) (r := []) (ls0 := [(0, p6_0), (0, v6), (0, x4)]) gz_125_44 gm_78 rfl rfl rfl rfl rfl rfl ?_
          refine w_iload_n gz_78_0 rfl ?_
          refine w_ifne (t := 17) gz_78_1 rfl (fun u7 => ?_) (fun u7 => ?_)
          ·
            refine w_iload_n gz_78_17 rfl ?_
            refine w_iconst gz_78_18 (by decide) ?_
            refine w_icne (t := 35) gz_78_19 rfl (fun u8 => ?_) (fun u8 => ?_)
            ·
              refine w_iload_n gz_78_35 rfl ?_
              refine w_iload_n gz_78_36 rfl ?_
              refine w_icle (t := 44) gz_78_37 rfl (fun u9 => ?_) (fun u9 => ?_)
              ·
                refine w_iconst gz_78_44 (by decide) ?_
                refine w_bret gz_78_45 gm_78 (by omega) (by omega) ?_
                show wp l rho (d + 1) 125 47 [(2, x0), (0, x1), (0, x2), (0, p6_0), (0, x4), (0, p6_1), (0, p6_2), (0, (((x1 * 20) + p6_2) * 4))] [(0, 0)] h Q
                refine w_ifeq (t := 59) gz_125_47 rfl (fun u10 => ?_) (fun u10 => by exfalso; omega)
                exact J59_0 (p6_0) (p6_1) ((((x1 * 20) + p6_2) * 4)) (by omega) (by omega) (by omega) (by omega) (by omega) (by omega) (by omega) (by omega) (by omega) (by omega) (by omega)
              ·
                refine w_iconst gz_78_40 (by decide) ?_
                refine w_goto (t := 45) gz_78_41 rfl ?_
                refine w_bret gz_78_45 gm_78 (by omega) (by omega) ?_
                show wp l rho (d + 1) 125 47 [(2, x0), (0, x1), (0, x2), (0, p6_0), (0, x4), (0, p6_1), (0, p6_2), (0, (((x1 * 20) + p6_2) * 4))] [(0, 1)] h Q
                refine w_ifeq (t := 59) gz_125_47 rfl (fun u11 => by exfalso; omega) (fun u11 => ?_)
                refine w_iload gz_125_50 rfl ?_
                refine w_iconst gz_125_52 (by decide) ?_
                refine w_iload gz_125_53 rfl ?_
                refine w_ianyL gz_125_55 (fun v12 pv12 qv12 => ?_)
                refine w_ianyO gz_125_56 (fun v13 pv13 qv13 => ?_)
                refine w_istore (ls' := [(2, x0), (0, x1), (0, x2), (0, p6_0), (0, x4), (0, v13), (0, p6_2), (0, (((x1 * 20) + p6_2) * 4))]) gz_125_57 gm_125 rfl rfl rfl ?_
                exact J59_0 (p6_0) (v13) ((((x1 * 20) + p6_2) * 4)) (by omega) (by omega) (by omega) (by omega) (by omega) (by omega) (by omega) (by omega) (by omega) (by omega) (by omega)
            ·
              refine w_iload_n gz_78_22 rfl ?_
              refine w_iload_n gz_78_23 rfl ?_
              refine w_icne (t := 31) gz_78_24 rfl (fun u14 => ?_) (fun u14 => ?_)
              ·
                refine w_iconst gz_78_31 (by decide) ?_
                refine w_goto (t := 45) gz_78_32 rfl ?_
                refine w_bret gz_78_45 gm_78 (by omega) (by omega) ?_
                show wp l rho (d + 1) 125 47 [(2, x0), (0, x1), (0, x2), (0, p6_0), (0, x4), (0, p6_1), (0, p6_2), (0, (((x1 * 20) + p6_2) * 4))] [(0, 0)] h Q
                refine w_ifeq (t := 59) gz_125_47 rfl (fun u15 => ?_) (fun u15 => by exfalso; omega)
                exact J59_0 (p6_0) (p6_1) ((((x1 * 20) + p6_2) * 4)) (by omega) (by omega) (by omega) (by omega) (by omega) (by omega) (by omega) (by omega) (by omega) (by omega) (by omega)
              ·
                refine w_iconst gz_78_27 (by decide) ?_
                refine w_goto (t := 45) gz_78_28 rfl ?_
                refine w_bret gz_78_45 gm_78 (by omega) (by omega) ?_
                show wp l rho (d + 1) 125 47 [(2, x0), (0, x1), (0, x2), (0, p6_0), (0, x4), (0, p6_1), (0, p6_2), (0, (((x1 * 20) + p6_2) * 4))] [(0, 1)] h Q
                refine w_ifeq (t := 59) gz_125_47 rfl (fun u16 => by exfalso; omega) (fun u16 => ?_)
                refine w_iload gz_125_50 rfl ?_
                refine w_iconst gz_125_52 (by decide) ?_
                refine w_iload gz_125_53 rfl ?_
                refine w_ianyL gz_125_55 (fun v17 pv17 qv17 => ?_)
                refine w_ianyO gz_125_56 (fun v18 pv18 qv18 => ?_)
                refine w_istore (ls' := [(2, x0), (0, x1), (0, x2), (0, p6_0), (0, x4), (0, v18), (0, p6_2), (0, (((x1 * 20) + p6_2) * 4))]) gz_125_57 gm_125 rfl rfl rfl ?_
                exact J59_0 (p6_0) (v18) ((((x1 * 20) + p6_2) * 4)) (by omega) (by omega) (by omega) (by omega) (by omega) (by omega) (by omega) (by omega) (by omega) (by omega) (by omega)
          ·
            refine w_iload_n gz_78_4 rfl ?_
            refine w_iload_n gz_78_5 rfl ?_
            refine w_icge (t := 13) gz_78_6 rfl (fun u19 => ?_) (fun u19 => ?_)
            ·
              refine w_iconst gz_78_13 (by decide) ?_
              refine w_goto (t := 45) gz_78_14 rfl ?_
              refine w_bret gz_78_45 gm_78 (by omega) (by omega) ?_
              show wp l rho (d + 1) 125 47 [(2, x0), (0, x1), (0, x2), (0, p6_0), (0, x4), (0, p6_1), (0, p6_2), (0, (((x1 * 20) + p6_2) * 4))] [(0, 0)] h Q
              refine w_ifeq (t := 59) gz_125_47 rfl (fun u20 => ?_) (fun u20 => by exfalso; omega)
              exact J59_0 (p6_0) (p6_1) ((((x1 * 20) + p6_2) * 4)) (by omega) (by omega) (by omega) (by omega) (by omega) (by omega) (by omega) (by omega) (by omega) (by omega) (by omega)
            ·
              refine w_iconst gz_78_9 (by decide) ?_
              refine w_goto (t := 45) gz_78_10 rfl ?_
              refine w_bret gz_78_45 gm_78 (by omega) (by omega) ?_
              show wp l rho (d + 1) 125 47 [(2, x0), (0, x1), (0, x2), (0, p6_0), (0, x4), (0, p6_1), (0, p6_2), (0, (((x1 * 20) + p6_2) * 4))] [(0, 1)] h Q
              refine w_ifeq (t := 59) gz_125_47 rfl (fun u21 => by exfalso; omega) (fun u21 => ?_)
              refine w_iload gz_125_50 rfl ?_
              refine w_iconst gz_125_52 (by decide) ?_
              refine w_iload gz_125_53 rfl ?_
              refine w_ianyL gz_125_55 (fun v22 pv22 qv22 => ?_)
              refine w_ianyO gz_125_56 (fun v23 pv23 qv23 => ?_)
              refine w_istore (ls' := [(2, x0), (0, x1), (0, x2), (0, p6_0), (0, x4), (0, v23), (0, p6_2), (0, (((x1 * 20) + p6_2) * 4))]) gz_125_57 gm_125 rfl rfl rfl ?_
              exact J59_0 (p6_0) (v23) ((((x1 * 20) + p6_2) * 4)) (by omega) (by omega) (by omega) (by omega) (by omega) (by omega) (by omega) (by omega) (by omega) (by omega) (by omega)
  refine w_iconst gz_125_0 (by decide) ?_
  refine w_istore (ls' := [(2, x0), (0, x1), (0, x2), (0, x3), (0, x4), (0, 0), (9, 0), (9, 0)]) gz_125_1 gm_125 rfl rfl rfl ?_
  refine w_iconst gz_125_3 (by decide) ?_
  refine w_istore (ls' := [(2, x0), (0, x1), (0, x2), (0, x3), (0, x4), (0, 0), (0, 0), (9, 0)]) gz_125_4 gm_125 rfl rfl rfl ?_
  exact J6_0 21 (x3) (0) (0) (by omega) (by omega) (by omega) (by omega) (by omega) (by omega) (by omega)
theorem c_ThroughWindow_clerk {l : Launch} {rho : Nat → Int32} {d : Nat} {h : my_H} {Q : my_H → my_V → Prop} {x1 x2 x3 x4 : Int} (k0 : ∀ (h' : my_H), my_fr [(46, -1), (47, -1), (48, -1)] h h' → Q h' (0, 0)) (k1 : ∀ (h' : my_H), my_fr [(46, -1), (47, -1), (48, -1)] h h' → 0 ≤ x1 → x1 ≤ 2 → (-1) ≤ x2 → x2 ≤ 5 → Q h' (0, 1)) : wp l rho (d + 1) 127 0 [(2, 0), (0, x1), (0, x2), (0, x3), (0, x4)] [] h Q := by
  refine w_iload_n gz_127_0 rfl ?_
  refine w_iflt (t := 9) gz_127_1 rfl (fun u1 => ?_) (fun u1 => ?_)
  ·
    refine w_iconst gz_127_9 (by decide) ?_
    exact w_bret gz_127_10 gm_127 (by omega) (by omega) (k0 h (my_fr.rf))
  ·
    refine w_iload_n gz_127_4 rfl ?_
    refine w_iconst gz_127_5 (by decide) ?_
    refine w_iclt (t := 11) gz_127_6 rfl (fun u2 => ?_) (fun u2 => ?_)
    ·
      refine w_iload_n gz_127_11 rfl ?_
      refine w_iconst gz_127_12 (by decide) ?_
      refine w_icne (t := 28) gz_127_13 rfl (fun u3 => ?_) (fun u3 => ?_)
      ·
        refine w_aload_n gz_127_28 rfl ?_
        refine w_getX (v := 94) gz_127_29 is_0 rd_9 rfl (by decide) rfl ?_
        refine w_iload_n gz_127_32 rfl ?_
        refine w_inv (k := 0) (as := [(0, x2)]) (r := []) (x := 94) (ls0 := [(2, 94), (0, x2)]) gz_127_33 gm_66 rfl is_94 rd_2 rfl rfl rfl rfl rfl ?_
        refine w_iload_n gz_66_0 rfl ?_
        refine w_iflt (t := 26) gz_66_1 rfl (fun u5 => ?_) (fun u5 => ?_)
        ·
          refine w_iconst gz_66_26 (by decide) ?_
          refine w_bret gz_66_27 gm_66 (by omega) (by omega) ?_
          show wp l rho (d + 1) 127 36 [(2, 0), (0, x1), (0, x2), (0, x3), (0, x4)] [(0, 0)] h Q
          refine w_ifeq (t := 62) gz_127_36 rfl (fun u6 => ?_) (fun u6 => by exfalso; omega)
          refine w_iconst gz_127_62 (by decide) ?_
          exact w_bret gz_127_63 gm_127 (by omega) (by omega) (k0 h (my_fr.rf))
        ·
          refine w_iload_n gz_66_4 rfl ?_
          refine w_bipush gz_66_5 (by decide) ?_
          refine w_icge (t := 26) gz_66_7 rfl (fun u7 => ?_) (fun u7 => ?_)
          ·
            refine w_iconst gz_66_26 (by decide) ?_
            refine w_bret gz_66_27 gm_66 (by omega) (by omega) ?_
            show wp l rho (d + 1) 127 36 [(2, 0), (0, x1), (0, x2), (0, x3), (0, x4)] [(0, 0)] h Q
            refine w_ifeq (t := 62) gz_127_36 rfl (fun u8 => ?_) (fun u8 => by exfalso; omega)
            refine w_iconst gz_127_62 (by decide) ?_
            exact w_bret gz_127_63 gm_127 (by omega) (by omega) (k0 h (my_fr.rf))
          ·
            refine w_aload_n gz_66_10 rfl ?_
            refine w_getX (v := 27) gz_66_11 is_94 rd_2 rfl (by decide) rfl ?_
            refine w_iload_n gz_66_14 rfl ?_
            refine w_aald gz_66_15 is_27 rd_22 rfl (by omega) (by omega) (fun v10 ev10 tv10 => ?_)
            refine v_getI (j := 0) gz_66_16 rfl tv10 rd_4 rfl (fun v11 ev11 pv11 qv11 => ?_)
            refine w_ifeq (t := 26) gz_66_19 rfl (fun u12 => ?_) (fun u12 => ?_)
            ·
              refine w_iconst gz_66_26 (by decide) ?_
              refine w_bret gz_66_27 gm_66 (by omega) (by omega) ?_
              show wp l rho (d + 1) 127 36 [(2, 0), (0, x1), (0, x2), (0, x3), (0, x4)] [(0, 0)] h Q
              refine w_ifeq (t := 62) gz_127_36 rfl (fun u13 => ?_) (fun u13 => by exfalso; omega)
              refine w_iconst gz_127_62 (by decide) ?_
              exact w_bret gz_127_63 gm_127 (by omega) (by omega) (k0 h (my_fr.rf))
            ·
              refine w_iconst gz_66_22 (by decide) ?_
              refine w_goto (t := 27) gz_66_23 rfl ?_
              refine w_bret gz_66_27 gm_66 (by omega) (by omega) ?_
              show wp l rho (d + 1) 127 36 [(2, 0), (0, x1), (0, x2), (0, x3), (0, x4)] [(0, 1)] h Q
              refine w_ifeq (t := 62) gz_127_36 rfl (fun u14 => by exfalso; omega) (fun u14 => ?_)
              refine w_iload_n gz_127_39 rfl ?_
              refine w_iflt (t := 62) gz_127_40 rfl (fun u15 => ?_) (fun u15 => ?_)
              ·
                refine w_iconst gz_127_62 (by decide) ?_
                exact w_bret gz_127_63 gm_127 (by omega) (by omega) (k0 h (my_fr.rf))
              ·
                refine w_iload_n gz_127_43 rfl ?_
                refine w_bipush gz_127_44 (by decide) ?_
                refine w_icge (t := 62) gz_127_46 rfl (fun u16 => ?_) (fun u16 => ?_)
                ·
                  refine w_iconst gz_127_62 (by decide) ?_
                  exact w_bret gz_127_63 gm_127 (by omega) (by omega) (k0 h (my_fr.rf))
                ·
                  refine w_iload gz_127_49 rfl ?_
                  refine w_iflt (t := 62) gz_127_51 rfl (fun u17 => ?_) (fun u17 => ?_)
                  ·
                    refine w_iconst gz_127_62 (by decide) ?_
                    exact w_bret gz_127_63 gm_127 (by omega) (by omega) (k0 h (my_fr.rf))
                  ·
                    refine w_iload gz_127_54 rfl ?_
                    refine w_sipush gz_127_56 (by decide) ?_
                    refine w_iclt (t := 64) gz_127_59 rfl (fun u18 => ?_) (fun u18 => ?_)
                    ·
                      refine w_aload_n gz_127_64 rfl ?_
                      refine w_getX (v := 120) gz_127_65 is_0 rd_9 rfl (by decide) rfl ?_
                      refine w_getX (v := 121) gz_127_68 is_120 rd_0 rfl (by decide) rfl ?_
                      refine w_iload_n gz_127_71 rfl ?_
                      refine w_iload_n gz_127_72 rfl ?_
                      refine w_iast gz_127_73 is_121 rd_46 (by omega) (by omega) (by omega) (by omega) (fun h21 fh21 => ?_)
                      have gh21 : my_fr [(46, -1), (47, -1), (48, -1)] h h21 := my_fr.up my_fr.rf is_121 fh21 rfl
                      refine w_aload_n gz_127_74 rfl ?_
                      refine w_getX (v := 120) gz_127_75 is_0 rd_9 rfl (by decide) rfl ?_
                      refine w_getX (v := 122) gz_127_78 is_120 rd_0 rfl (by decide) rfl ?_
                      refine w_iload_n gz_127_81 rfl ?_
                      refine w_iload_n gz_127_82 rfl ?_
                      refine w_iast gz_127_83 is_122 rd_47 (by omega) (by omega) (by omega) (by omega) (fun h24 fh24 => ?_)
                      have gh24 : my_fr [(46, -1), (47, -1), (48, -1)] h h24 := my_fr.up gh21 is_122 fh24 rfl
                      refine w_aload_n gz_127_84 rfl ?_
                      refine w_getX (v := 120) gz_127_85 is_0 rd_9 rfl (by decide) rfl ?_
                      refine w_getX (v := 123) gz_127_88 is_120 rd_0 rfl (by decide) rfl ?_
                      refine w_iload_n gz_127_91 rfl ?_
                      refine w_iload gz_127_92 rfl ?_
                      refine w_iast gz_127_94 is_123 rd_48 (by omega) (by omega) (by omega) (by omega) (fun h27 fh27 => ?_)
                      have gh27 : my_fr [(46, -1), (47, -1), (48, -1)] h h27 := my_fr.up gh24 is_123 fh27 rfl
                      refine w_iconst gz_127_95 (by decide) ?_
                      exact w_bret gz_127_96 gm_127 (by omega) (by omega) (k1 h27 (gh27) (by omega) (by omega) (by omega) (by omega))
                    ·
                      refine w_iconst gz_127_62 (by decide) ?_
                      exact w_bret gz_127_63 gm_127 (by omega) (by omega) (k0 h (my_fr.rf))
      ·
        refine w_aload_n gz_127_16 rfl ?_
        refine w_getX (v := 120) gz_127_17 is_0 rd_9 rfl (by decide) rfl ?_
        refine w_getX (v := 121) gz_127_20 is_120 rd_0 rfl (by decide) rfl ?_
        refine w_iload_n gz_127_23 rfl ?_
        refine w_iconst gz_127_24 (by decide) ?_
        refine w_iast gz_127_25 is_121 rd_46 (by omega) (by omega) (by omega) (by omega) (fun h30 fh30 => ?_)
        have gh30 : my_fr [(46, -1), (47, -1), (48, -1)] h h30 := my_fr.up my_fr.rf is_121 fh30 rfl
        refine w_iconst gz_127_26 (by decide) ?_
        exact w_bret gz_127_27 gm_127 (by omega) (by omega) (k1 h30 (gh30) (by omega) (by omega) (by omega) (by omega))
    ·
      refine w_iconst gz_127_9 (by decide) ?_
      exact w_bret gz_127_10 gm_127 (by omega) (by omega) (k0 h (my_fr.rf))
theorem c_Clerks_beginNight {l : Launch} {rho : Nat → Int32} {d : Nat} {h : my_H} {Q : my_H → my_V → Prop} (k0 : ∀ (h' : my_H), my_fr [(0, 4), (0, 6), (0, 7), (0, 8), (0, 9), (49, -1)] h h' → 0 ≤ h' 120 4 → h' 120 4 ≤ 3 → h' 120 6 = 0 → 1 ≤ h' 120 7 → h' 120 7 ≤ 6 → h' 120 8 = 0 → h' 120 9 = 0 → Q h' (9, 0)) : wp l rho d 129 0 [(2, 120), (9, 0)] [] h Q := by
  have J72_1 : ∀ (p72_0 p72_1 : Int) (h72_1 : my_H), my_fr [(0, 4), (0, 6), (0, 7), (0, 8), (0, 9), (49, -1)] h h72_1 → 2 ≤ p72_0 → p72_0 ≤ 6 → 2 ≤ p72_1 → p72_1 ≤ 3 → p72_0 ≤ (p72_1 + 3) → p72_1 ≤ p72_0 → h72_1 120 4 = p72_1 → wp l rho d 129 72 [(2, 120), (0, 3)] [(0, p72_0), (2, 120)] h72_1 Q := by
    intro p72_0 p72_1 h72_1 gh_72_1 q0_72_1 q1_72_1 q2_72_1 q3_72_1 q4_72_1 q5_72_1 c120_4_72_1
    refine v_putI (j := 7) gz_129_72 rfl is_120 rd_0 rfl (by omega) (by omega) rfl (fun h1 fh1 => ?_)
    have gh1 : my_fr [(0, 4), (0, 6), (0, 7), (0, 8), (0, 9), (49, -1)] h h1 := my_fr.up gh_72_1 is_120 fh1 rfl
    refine w_aload_n gz_129_75 rfl ?_
    refine w_iconst gz_129_76 (by decide) ?_
    refine v_putI (j := 6) gz_129_77 rfl is_120 rd_0 rfl (by omega) (by omega) rfl (fun h2 fh2 => ?_)
    have gh2 : my_fr [(0, 4), (0, 6), (0, 7), (0, 8), (0, 9), (49, -1)] h h2 := my_fr.up gh1 is_120 fh2 rfl
    refine w_aload_n gz_129_80 rfl ?_
    refine w_iconst gz_129_81 (by decide) ?_
    refine v_putA (j := 8) gz_129_82 rfl is_120 rd_0 rfl rfl (fun h3 fh3 => ?_)
    have gh3 : my_fr [(0, 4), (0, 6), (0, 7), (0, 8), (0, 9), (49, -1)] h h3 := my_fr.up gh2 is_120 fh3 rfl
    refine w_aload_n gz_129_85 rfl ?_
    refine w_iconst gz_129_86 (by decide) ?_
    refine v_putA (j := 9) gz_129_87 rfl is_120 rd_0 rfl rfl (fun h4 fh4 => ?_)
    have gh4 : my_fr [(0, 4), (0, 6), (0, 7), (0, 8), (0, 9), (49, -1)] h h4 := my_fr.up gh3 is_120 fh4 rfl
    have c5 := ((my_up_fld fh4 (by decide)).trans ((my_up_fld fh3 (by decide)).trans ((my_up_fld fh2 (by decide)).trans ((my_up_fld fh1 (by decide)).trans c120_4_72_1))))
    have c6 := ((my_up_fld fh4 (by decide)).trans ((my_up_fld fh3 (by decide)).trans (my_up_self fh2)))
    have c7 := ((my_up_fld fh4 (by decide)).trans ((my_up_fld fh3 (by decide)).trans ((my_up_fld fh2 (by decide)).trans (my_up_self fh1))))
    have c8 := ((my_up_fld fh4 (by decide)).trans (my_up_self fh3))
    have c9 := (my_up_self fh4)
    exact w_vret gz_129_90 gm_129 (k0 h4 (gh4) (by omega) (by omega) (by omega) (by omega) (by omega) (by omega) (by omega))
  have J7_0 : ∀ (n : Nat) (p7_0 p7_1 : Int) (h7_0 : my_H), my_fr [(0, 4), (0, 6), (0, 7), (0, 8), (0, 9), (49, -1)] h h7_0 → 0 ≤ p7_0 → p7_0 ≤ 3 → 0 ≤ p7_1 → p7_1 ≤ 3 → p7_1 ≤ p7_0 → h7_0 120 4 = p7_1 → 4 - p7_0 ≤ (n : Int) → wp l rho d 129 7 [(2, 120), (0, p7_0)] [] h7_0 Q := by
    intro n
    induction n with
    | zero => intro p7_0 p7_1 h7_0 gh_7_0 q0_7_0 q1_7_0 q2_7_0 q3_7_0 q4_7_0 c120_4_7_0 hm_7_0; exfalso; omega
    | succ n ih_7_0 =>
      intro p7_0 p7_1 h7_0 gh_7_0 q0_7_0 q1_7_0 q2_7_0 q3_7_0 q4_7_0 c120_4_7_0 hm_7_0
      have J39_0 : ∀ (p39_0 : Int) (h39_0 : my_H), my_fr [(0, 4), (0, 6), (0, 7), (0, 8), (0, 9), (49, -1)] h h39_0 → p7_0 ≤ 2 → 0 ≤ p39_0 → p39_0 ≤ 3 → p7_1 ≤ 2 → p39_0 ≤ (p7_0 + 1) → p39_0 ≤ (p7_1 + 1) → p7_1 ≤ p39_0 → p7_1 ≤ p7_0 → h39_0 120 4 = p39_0 → wp l rho d 129 39 [(2, 120), (0, p7_0)] [] h39_0 Q := by
        intro p39_0 h39_0 gh_39_0 q0_39_0 q1_39_0 q2_39_0 q3_39_0 q4_39_0 q5_39_0 q6_39_0 q7_39_0 c120_4_39_0
        refine w_iinc (ls' := [(2, 120), (0, (p7_0 + 1))]) gz_129_39 rfl gm_129 rfl rfl rfl ⟨by omega, by omega⟩ ?_
        refine w_goto (t := 7) gz_129_42 rfl ?_
        exact ih_7_0 ((p7_0 + 1)) (p39_0) h39_0 (gh_39_0) (by omega) (by omega) (by omega) (by omega) (by omega) (c120_4_39_0.trans (by omega)) (by omega)
      refine w_iload_n gz_129_7 rfl ?_
      refine w_iconst gz_129_8 (by decide) ?_
      refine w_icge (t := 45) gz_129_9 rfl (fun u10 => ?_) (fun u10 => ?_)
      ·
        refine w_aload_n gz_129_45 rfl ?_
        refine w_aload_n gz_129_46 rfl ?_
        refine v_getI (j := 4) gz_129_47 rfl is_120 rd_0 rfl (fun v11 ev11 pv11 qv11 => ?_)
        have zv11 := ev11.trans c120_4_7_0
        refine w_iconst gz_129_50 (by decide) ?_
        refine w_icne (t := 59) gz_129_51 rfl (fun u12 => ?_) (fun u12 => ?_)
        ·
          refine w_aload_n gz_129_59 rfl ?_
          refine v_getI (j := 4) gz_129_60 rfl is_120 rd_0 rfl (fun v13 ev13 pv13 qv13 => ?_)
          have zv13 := ev13.trans ev11.symm
          refine w_iconst gz_129_63 (by decide) ?_
          refine w_icne (t := 71) gz_129_64 rfl (fun u14 => ?_) (fun u14 => ?_)
          ·
            refine w_iconst gz_129_71 (by decide) ?_
            refine v_putI (j := 7) gz_129_72 rfl is_120 rd_0 rfl (by omega) (by omega) rfl (fun h15 fh15 => ?_)
            have gh15 : my_fr [(0, 4), (0, 6), (0, 7), (0, 8), (0, 9), (49, -1)] h h15 := my_fr.up gh_7_0 is_120 fh15 rfl
            refine w_aload_n gz_129_75 rfl ?_
            refine w_iconst gz_129_76 (by decide) ?_
            refine v_putI (j := 6) gz_129_77 rfl is_120 rd_0 rfl (by omega) (by omega) rfl (fun h16 fh16 => ?_)
            have gh16 : my_fr [(0, 4), (0, 6), (0, 7), (0, 8), (0, 9), (49, -1)] h h16 := my_fr.up gh15 is_120 fh16 rfl
            refine w_aload_n gz_129_80 rfl ?_
            refine w_iconst gz_129_81 (by decide) ?_
            refine v_putA (j := 8) gz_129_82 rfl is_120 rd_0 rfl rfl (fun h17 fh17 => ?_)
            have gh17 : my_fr [(0, 4), (0, 6), (0, 7), (0, 8), (0, 9), (49, -1)] h h17 := my_fr.up gh16 is_120 fh17 rfl
            refine w_aload_n gz_129_85 rfl ?_
            refine w_iconst gz_129_86 (by decide) ?_
            refine v_putA (j := 9) gz_129_87 rfl is_120 rd_0 rfl rfl (fun h18 fh18 => ?_)
            have gh18 : my_fr [(0, 4), (0, 6), (0, 7), (0, 8), (0, 9), (49, -1)] h h18 := my_fr.up gh17 is_120 fh18 rfl
            have c19 := ((my_up_fld fh18 (by decide)).trans ((my_up_fld fh17 (by decide)).trans ((my_up_fld fh16 (by decide)).trans ((my_up_fld fh15 (by decide)).trans ev13.symm))))
            have c20 := ((my_up_fld fh18 (by decide)).trans ((my_up_fld fh17 (by decide)).trans (my_up_self fh16)))
            have c21 := ((my_up_fld fh18 (by decide)).trans ((my_up_fld fh17 (by decide)).trans ((my_up_fld fh16 (by decide)).trans (my_up_self fh15))))
            have c22 := ((my_up_fld fh18 (by decide)).trans (my_up_self fh17))
            have c23 := (my_up_self fh18)
            exact w_vret gz_129_90 gm_129 (k0 h18 (gh18) (by omega) (by omega) (by omega) (by omega) (by omega) (by omega) (by omega))
          ·
            refine w_iconst gz_129_67 (by decide) ?_
            refine w_goto (t := 72) gz_129_68 rfl ?_
            rw [show (p7_0 : Int) = 3 from by omega]
            exact J72_1 (2) (v13) h7_0 (gh_7_0) (by omega) (by omega) (by omega) (by omega) (by omega) (by omega) (ev13.symm.trans (by omega))
        ·
          refine w_bipush gz_129_54 (by decide) ?_
          refine w_goto (t := 72) gz_129_56 rfl ?_
          rw [show (p7_0 : Int) = 3 from by omega]
          exact J72_1 (6) (v11) h7_0 (gh_7_0) (by omega) (by omega) (by omega) (by omega) (by omega) (by omega) (ev11.symm.trans (by omega))
      ·
        refine w_aload_n gz_129_12 rfl ?_
        refine w_getX (v := 121) gz_129_13 is_120 rd_0 rfl (by decide) rfl ?_
        refine w_iload_n gz_129_16 rfl ?_
        refine w_iald gz_129_17 is_121 rd_46 (by omega) (by omega) (fun v25 ev25 pv25 qv25 => ?_)
        refine w_iconst gz_129_18 (by decide) ?_
        refine w_iceq (t := 39) gz_129_19 rfl (fun u26 => ?_) (fun u26 => ?_)
        ·
          exact J39_0 (p7_1) h7_0 (gh_7_0) (by omega) (by omega) (by omega) (by omega) (by omega) (by omega) (by omega) (by omega) (c120_4_7_0.trans (by omega))
        ·
          refine w_aload_n gz_129_22 rfl ?_
          refine w_getX (v := 124) gz_129_23 is_120 rd_0 rfl (by decide) rfl ?_
          refine w_aload_n gz_129_26 rfl ?_
          refine w_dup gz_129_27 rfl ?_
          refine v_getI (j := 4) gz_129_28 rfl is_120 rd_0 rfl (fun v28 ev28 pv28 qv28 => ?_)
          have zv28 := ev28.trans c120_4_7_0
          refine w_dupx gz_129_31 rfl rfl ?_
          refine w_iconst gz_129_32 (by decide) ?_
          refine w_iadd gz_129_33 ⟨by omega, by omega⟩ ?_
          refine v_putI (j := 4) gz_129_34 rfl is_120 rd_0 rfl (by omega) (by omega) rfl (fun h29 fh29 => ?_)
          have gh29 : my_fr [(0, 4), (0, 6), (0, 7), (0, 8), (0, 9), (49, -1)] h h29 := my_fr.up gh_7_0 is_120 fh29 rfl
          refine w_iload_n gz_129_37 rfl ?_
          refine w_iast gz_129_38 is_124 rd_49 (by omega) (by omega) (by omega) (by omega) (fun h30 fh30 => ?_)
          have gh30 : my_fr [(0, 4), (0, 6), (0, 7), (0, 8), (0, 9), (49, -1)] h h30 := my_fr.up gh29 is_124 fh30 rfl
          exact J39_0 ((v28 + 1)) h30 (gh30) (by omega) (by omega) (by omega) (by omega) (by omega) (by omega) (by omega) (by omega) (((my_up_role fh30 is_120 is_124 rfl).trans (my_up_self fh29)).trans (by omega))
  refine w_aload_n gz_129_0 rfl ?_
  refine w_iconst gz_129_1 (by decide) ?_
  refine v_putI (j := 4) gz_129_2 rfl is_120 rd_0 rfl (by omega) (by omega) rfl (fun h31 fh31 => ?_)
  have gh31 : my_fr [(0, 4), (0, 6), (0, 7), (0, 8), (0, 9), (49, -1)] h h31 := my_fr.up my_fr.rf is_120 fh31 rfl
  refine w_iconst gz_129_5 (by decide) ?_
  refine w_istore_n (ls' := [(2, 120), (0, 0)]) gz_129_6 gm_129 rfl rfl rfl ?_
  exact J7_0 4 (0) (0) h31 (gh31) (by omega) (by omega) (by omega) (by omega) (by omega) ((my_up_self fh31).trans (by omega)) (by omega)
theorem c_Cutter_findCuts {l : Launch} {rho : Nat → Int32} {d : Nat} {h : my_H} {Q : my_H → my_V → Prop} {x1 x2 x3 : Int} (t1 : my_is 6 x1) (a2 : 0 ≤ x2) (b2 : x2 ≤ 2) (k0 : ∀ (h' : my_H), my_fr [(1, 3), (1, 4), (1, 5), (1, 6)] h h' → (-1) ≤ h' 114 4 → h' 114 4 ≤ 3 → (-1) ≤ h' 114 5 → h' 114 5 ≤ 2 → (-1) ≤ h' 114 6 → h' 114 6 ≤ 20 → Q h' (9, 0)) : wp l rho (d + 2) 136 0 [(2, 114), (2, x1), (0, x2), (0, x3), (9, 0), (9, 0), (9, 0)] [] h Q := by
  have J23_0 : ∀ (n : Nat) (p23_0 p23_1 p23_2 p23_3 p23_4 : Int) (h23_0 : my_H), my_fr [(1, 3), (1, 4), (1, 5), (1, 6)] h h23_0 → 0 ≤ p23_0 → p23_0 ≤ 4 → (-1) ≤ p23_2 → p23_2 ≤ 3 → (-1) ≤ p23_3 → p23_3 ≤ 2 → (-1) ≤ p23_4 → p23_4 ≤ 20 → p23_2 ≤ (p23_0 - 1) → p23_2 ≤ (p23_3 + 3) → p23_3 ≤ (p23_0 + 1) → p23_3 ≤ (p23_2 + 2) → h23_0 114 3 = p23_1 → h23_0 114 4 = p23_2 → h23_0 114 5 = p23_3 → h23_0 114 6 = p23_4 → 5 - p23_0 ≤ (n : Int) → wp l rho (d + 2) 136 23 [(2, 114), (2, x1), (0, x2), (0, x3), (0, p23_0), (9, 0), (9, 0)] [] h23_0 Q := by
    intro n
    induction n with
    | zero => intro p23_0 p23_1 p23_2 p23_3 p23_4 h23_0 gh_23_0 q0_23_0 q1_23_0 q2_23_0 q3_23_0 q4_23_0 q5_23_0 q6_23_0 q7_23_0 q8_23_0 q9_23_0 q10_23_0 q11_23_0 c114_3_23_0 c114_4_23_0 c114_5_23_0 c114_6_23_0 hm_23_0; exfalso; omega
    | succ n ih_23_0 =>
      intro p23_0 p23_1 p23_2 p23_3 p23_4 h23_0 gh_23_0 q0_23_0 q1_23_0 q2_23_0 q3_23_0 q4_23_0 q5_23_0 q6_23_0 q7_23_0 q8_23_0 q9_23_0 q10_23_0 q11_23_0 c114_3_23_0 c114_4_23_0 c114_5_23_0 c114_6_23_0 hm_23_0
      have J40_0 : ∀ (n : Nat) (p40_0 p40_1 p40_2 p40_3 p40_4 : Int) (h40_0 : my_H), my_fr [(1, 3), (1, 4), (1, 5), (1, 6)] h h40_0 → p23_0 ≤ 3 → 0 ≤ p40_0 → p40_0 ≤ 3 → (-1) ≤ p40_2 → p40_2 ≤ 3 → (-1) ≤ p40_3 → p40_3 ≤ 2 → (-1) ≤ p40_4 → p40_4 ≤ 20 → p23_2 ≤ 2 → p40_2 ≤ (p40_0 + 2) → p40_2 ≤ (p40_3 + 3) → p40_2 ≤ (p40_4 + 3) → p40_2 ≤ p23_0 → p40_3 ≤ (p40_2 + 2) → p23_2 ≤ p40_2 → p23_2 ≤ (p23_0 - 1) → p23_3 ≤ (p40_2 + 2) → p23_3 ≤ (p40_3 + 2) → p23_3 ≤ (p23_0 + 1) → p23_3 ≤ (p23_2 + 2) → h40_0 114 3 = p40_1 → h40_0 114 4 = p40_2 → h40_0 114 5 = p40_3 → h40_0 114 6 = p40_4 → 4 - p40_0 ≤ (n : Int) → wp l rho (d + 2) 136 40 [(2, 114), (2, x1), (0, x2), (0, x3), (0, p23_0), (0, p40_0), (9, 0)] [] h40_0 Q := by
        intro n
        induction n with
        | zero => intro p40_0 p40_1 p40_2 p40_3 p40_4 h40_0 gh_40_0 q0_40_0 q1_40_0 q2_40_0 q3_40_0 q4_40_0 q5_40_0 q6_40_0 q7_40_0 q8_40_0 q9_40_0 q10_40_0 q11_40_0 q12_40_0 q13_40_0 q14_40_0 q15_40_0 q16_40_0 q17_40_0 q18_40_0 q19_40_0 q20_40_0 c114_3_40_0 c114_4_40_0 c114_5_40_0 c114_6_40_0 hm_40_0; exfalso; omega
        | succ n ih_40_0 =>
          intro p40_0 p40_1 p40_2 p40_3 p40_4 h40_0 gh_40_0 q0_40_0 q1_40_0 q2_40_0 q3_40_0 q4_40_0 q5_40_0 q6_40_0 q7_40_0 q8_40_0 q9_40_0 q10_40_0 q11_40_0 q12_40_0 q13_40_0 q14_40_0 q15_40_0 q16_40_0 q17_40_0 q18_40_0 q19_40_0 q20_40_0 c114_3_40_0 c114_4_40_0 c114_5_40_0 c114_6_40_0 hm_40_0
          have J49_0 : ∀ (n : Nat) (p49_0 p49_1 p49_2 p49_3 p49_4 : Int) (h49_0 : my_H), my_fr [(1, 3), (1, 4), (1, 5), (1, 6)] h h49_0 → p40_0 ≤ 2 → 0 ≤ p49_0 → p49_0 ≤ 21 → (-1) ≤ p49_2 → p49_2 ≤ 3 → (-1) ≤ p49_3 → p49_3 ≤ 2 → (-1) ≤ p49_4 → p49_4 ≤ 20 → p49_2 ≤ (p49_3 + 3) → p49_2 ≤ (p49_4 + 3) → p49_2 ≤ p23_0 → p49_3 ≤ (p49_2 + 2) → p40_2 ≤ p49_2 → p40_2 ≤ (p49_3 + 3) → p40_2 ≤ (p49_4 + 3) → p40_2 ≤ p23_0 → p40_2 ≤ (p40_0 + 2) → p40_2 ≤ (p40_3 + 3) → p40_2 ≤ (p40_4 + 3) → p40_3 ≤ (p49_2 + 2) → p40_3 ≤ (p49_3 + 2) → p40_3 ≤ (p40_2 + 2) → p23_2 ≤ p49_2 → p23_2 ≤ (p23_0 - 1) → p23_2 ≤ p40_2 → p23_3 ≤ (p49_2 + 2) → p23_3 ≤ (p49_3 + 2) → p23_3 ≤ (p23_0 + 1) → p23_3 ≤ (p40_2 + 2) → p23_3 ≤ (p40_3 + 2) → p23_3 ≤ (p23_2 + 2) → h49_0 114 3 = p49_1 → h49_0 114 4 = p49_2 → h49_0 114 5 = p49_3 → h49_0 114 6 = p49_4 → 22 - p49_0 ≤ (n : Int) → wp l rho (d + 2) 136 49 [(2, 114), (2, x1), (0, x2), (0, x3), (0, p23_0), (0, p40_0), (0, p49_0)] [] h49_0 Q := by
            intro n
            induction n with
            | zero => intro p49_0 p49_1 p49_2 p49_3 p49_4 h49_0 gh_49_0 q0_49_0 q1_49_0 q2_49_0 q3_49_0 q4_49_0 q5_49_0 q6_49_0 q7_49_0 q8_49_0 q9_49_0 q10_49_0 q11_49_0 q12_49_0 q13_49_0 q14_49_0 q15_49_0 q16_49_0 q17_49_0 q18_49_0 q19_49_0 q20_49_0 q21_49_0 q22_49_0 q23_49_0 q24_49_0 q25_49_0 q26_49_0 q27_49_0 q28_49_0 q29_49_0 q30_49_0 q31_49_0 c114_3_49_0 c114_4_49_0 c114_5_49_0 c114_6_49_0 hm_49_0; exfalso; omega
            | succ n ih_49_0 =>
              intro p49_0 p49_1 p49_2 p49_3 p49_4 h49_0 gh_49_0 q0_49_0 q1_49_0 q2_49_0 q3_49_0 q4_49_0 q5_49_0 q6_49_0 q7_49_0 q8_49_0 q9_49_0 q10_49_0 q11_49_0 q12_49_0 q13_49_0 q14_49_0 q15_49_0 q16_49_0 q17_49_0 q18_49_0 q19_49_0 q20_49_0 q21_49_0 q22_49_0 q23_49_0 q24_49_0 q25_49_0 q26_49_0 q27_49_0 q28_49_0 q29_49_0 q30_49_0 q31_49_0 c114_3_49_0 c114_4_49_0 c114_5_49_0 c114_6_49_0 hm_49_0
              have J110_0 : ∀ (p110_0 p110_1 p110_2 p110_3 : Int) (h110_0 : my_H), my_fr [(1, 3), (1, 4), (1, 5), (1, 6)] h h110_0 → p49_0 ≤ 20 → (-1) ≤ p110_1 → p110_1 ≤ 3 → (-1) ≤ p110_2 → p110_2 ≤ 2 → (-1) ≤ p110_3 → p110_3 ≤ 20 → p110_1 ≤ (p110_2 + 3) → p110_1 ≤ (p110_3 + 3) → p110_1 ≤ p23_0 → p110_2 ≤ (p110_1 + 2) → p49_2 ≤ p110_1 → p49_2 ≤ (p110_2 + 3) → p49_2 ≤ (p110_3 + 3) → p49_2 ≤ p23_0 → p49_2 ≤ (p49_3 + 3) → p49_2 ≤ (p49_4 + 3) → p49_3 ≤ (p110_1 + 2) → p49_3 ≤ (p110_2 + 2) → p49_3 ≤ (p49_2 + 2) → p40_2 ≤ p110_1 → p40_2 ≤ (p110_2 + 3) → p40_2 ≤ (p110_3 + 3) → p40_2 ≤ p23_0 → p40_2 ≤ (p40_0 + 2) → p40_2 ≤ p49_2 → p40_2 ≤ (p49_3 + 3) → p40_2 ≤ (p49_4 + 3) → p40_2 ≤ (p40_3 + 3) → p40_2 ≤ (p40_4 + 3) → p40_3 ≤ (p110_1 + 2) → p40_3 ≤ (p110_2 + 2) → p40_3 ≤ (p49_2 + 2) → p40_3 ≤ (p49_3 + 2) → p40_3 ≤ (p40_2 + 2) → p23_2 ≤ p110_1 → p23_2 ≤ (p23_0 - 1) → p23_2 ≤ p49_2 → p23_2 ≤ p40_2 → p23_3 ≤ (p110_1 + 2) → p23_3 ≤ (p110_2 + 2) → p23_3 ≤ (p23_0 + 1) → p23_3 ≤ (p49_2 + 2) → p23_3 ≤ (p49_3 + 2) → p23_3 ≤ (p40_2 + 2) → p23_3 ≤ (p40_3 + 2) → p23_3 ≤ (p23_2 + 2) → h110_0 114 3 = p110_0 → h110_0 114 4 = p110_1 → h110_0 114 5 = p110_2 → h110_0 114 6 = p110_3 → wp l rho (d + 2) 136 110 [(2, 114), (2, x1), (0, x2), (0, x3), (0, p23_0), (0, p40_0), (0, p49_0)] [] h110_0 Q := by
                intro p110_0 p110_1 p110_2 p110_3 h110_0 gh_110_0 q0_110_0 q1_110_0 q2_110_0 q3_110_0 q4_110_0 q5_110_0 q6_110_0 q7_110_0 q8_110_0 q9_110_0 q10_110_0 q11_110_0 q12_110_0 q13_110_0 q14_110_0 q15_110_0 q16_110_0 q17_110_0 q18_110_0 q19_110_0 q20_110_0 q21_110_0 q22_110_0 q23_110_0 q24_110_0 q25_110_0 q26_110_0 q27_110_0 q28_110_0 q29_110_0 q30_110_0 q31_110_0 q32_110_0 q33_110_0 q34_110_0 q35_110_0 q36_110_0 q37_110_0 q38_110_0 q39_110_0 q40_110_0 q41_110_0 q42_110_0 q43_110_0 q44_110_0 q45_110_0 q46_110_0 c114_3_110_0 c114_4_110_0 c114_5_110_0 c114_6_110_0
                refine w_iinc (ls' := [(2, 114), (2, x1), (0, x2), (0, x3), (0, p23_0), (0, p40_0), (0, (p49_0 + 1))]) gz_136_110 rfl gm_136 rfl rfl rfl ⟨by omega, by omega⟩ ?_
                refine w_goto (t := 49) gz_136_113 rfl ?_
                exact ih_49_0 ((p49_0 + 1)) (p110_0) (p110_1) (p110_2) (p110_3) h110_0 (gh_110_0) (by omega) (by omega) (by omega) (by omega) (by omega) (by omega) (by omega) (by omega) (by omega) (by omega) (by omega) (by omega) (by omega) (by omega) (by omega) (by omega) (by omega) (by omega) (by omega) (by omega) (by omega) (by omega) (by omega) (by omega) (by omega) (by omega) (by omega) (by omega) (by omega) (by omega) (by omega) (by omega) (c114_3_110_0.trans (by omega)) (c114_4_110_0.trans (by omega)) (c114_5_110_0.trans (by omega)) (c114_6_110_0.trans (by omega)) (by omega)
              have J96_0 : ∀ (p96_0 p96_1 p96_2 p96_3 : Int) (h96_0 : my_H), my_fr [(1, 3), (1, 4), (1, 5), (1, 6)] h h96_0 → p49_0 ≤ 20 → (-1) ≤ p96_1 → p96_1 ≤ 3 → (-1) ≤ p96_2 → p96_2 ≤ 2 → (-1) ≤ p96_3 → p96_3 ≤ 20 → p96_1 ≤ (p96_2 + 3) → p96_1 ≤ (p96_3 + 3) → p96_1 ≤ p23_0 → p96_2 ≤ (p96_1 + 2) → p96_0 ≤ p49_1 → p49_2 ≤ p96_1 → p49_2 ≤ (p96_2 + 3) → p49_2 ≤ (p96_3 + 3) → p49_2 ≤ p23_0 → p49_2 ≤ (p49_3 + 3) → p49_2 ≤ (p49_4 + 3) → p49_3 ≤ (p96_1 + 2) → p49_3 ≤ (p96_2 + 2) → p49_3 ≤ (p49_2 + 2) → p49_1 ≤ p96_0 → p40_2 ≤ p96_1 → p40_2 ≤ (p96_2 + 3) → p40_2 ≤ (p96_3 + 3) → p40_2 ≤ p23_0 → p40_2 ≤ (p40_0 + 2) → p40_2 ≤ p49_2 → p40_2 ≤ (p49_3 + 3) → p40_2 ≤ (p49_4 + 3) → p40_2 ≤ (p40_3 + 3) → p40_2 ≤ (p40_4 + 3) → p40_3 ≤ (p96_1 + 2) → p40_3 ≤ (p96_2 + 2) → p40_3 ≤ (p49_2 + 2) → p40_3 ≤ (p49_3 + 2) → p40_3 ≤ (p40_2 + 2) → p23_2 ≤ p96_1 → p23_2 ≤ (p23_0 - 1) → p23_2 ≤ p49_2 → p23_2 ≤ p40_2 → p23_3 ≤ (p96_1 + 2) → p23_3 ≤ (p96_2 + 2) → p23_3 ≤ (p23_0 + 1) → p23_3 ≤ (p49_2 + 2) → p23_3 ≤ (p49_3 + 2) → p23_3 ≤ (p40_2 + 2) → p23_3 ≤ (p40_3 + 2) → p23_3 ≤ (p23_2 + 2) → h96_0 114 3 = p96_0 → h96_0 114 4 = p96_1 → h96_0 114 5 = p96_2 → h96_0 114 6 = p96_3 → wp l rho (d + 2) 136 96 [(2, 114), (2, x1), (0, x2), (0, x3), (0, p23_0), (0, p40_0), (0, p49_0)] [] h96_0 Q := by
                intro p96_0 p96_1 p96_2 p96_3 h96_0 gh_96_0 q0_96_0 q1_96_0 q2_96_0 q3_96_0 q4_96_0 q5_96_0 q6_96_0 q7_96_0 q8_96_0 q9_96_0 q10_96_0 q11_96_0 q12_96_0 q13_96_0 q14_96_0 q15_96_0 q16_96_0 q17_96_0 q18_96_0 q19_96_0 q20_96_0 q21_96_0 q22_96_0 q23_96_0 q24_96_0 q25_96_0 q26_96_0 q27_96_0 q28_96_0 q29_96_0 q30_96_0 q31_96_0 q32_96_0 q33_96_0 q34_96_0 q35_96_0 q36_96_0 q37_96_0 q38_96_0 q39_96_0 q40_96_0 q41_96_0 q42_96_0 q43_96_0 q44_96_0 q45_96_0 q46_96_0 q47_96_0 q48_96_0 c114_3_96_0 c114_4_96_0 c114_5_96_0 c114_6_96_0
                refine w_aload_n gz_136_96 rfl ?_
                refine w_dup gz_136_97 rfl ?_
                refine v_getI (j := 3) gz_136_98 rfl is_114 rd_1 rfl (fun v1 ev1 pv1 qv1 => ?_)
                have zv1 := ev1.trans c114_3_96_0
                refine w_iload gz_136_101 rfl ?_
                refine w_inS (k := 0) (as := [(0, p49_0)]) (r := [(0, v1), (2, 114)]) (ls0 := [(0, p49_0)]) gz_136_103 gm_126 rfl rfl rfl rfl rfl rfl ?_
                refine w_iload_n gz_126_0 rfl ?_
                refine w_bipush gz_126_1 (by decide) ?_
                refine w_icge (t := 10) gz_126_3 rfl (fun u2 => ?_) (fun u2 => ?_)
                ·
                  refine w_sipush gz_126_10 (by decide) ?_
                  refine w_iret gz_126_13 gm_126 ?_
                  show wp l rho (d + 2) 136 106 [(2, 114), (2, x1), (0, x2), (0, x3), (0, p23_0), (0, p40_0), (0, p49_0)] [(0, 180), (0, v1), (2, 114)] h96_0 Q
                  refine w_ianyA gz_136_106 (fun v3 pv3 qv3 => ?_)
                  refine v_putA (j := 3) gz_136_107 rfl is_114 rd_1 rfl rfl (fun h4 fh4 => ?_)
                  have gh4 : my_fr [(1, 3), (1, 4), (1, 5), (1, 6)] h h4 := my_fr.up gh_96_0 is_114 fh4 rfl
                  exact J110_0 (v3) (p96_1) (p96_2) (p96_3) h4 (gh4) (by omega) (by omega) (by omega) (by omega) (by omega) (by omega) (by omega) (by omega) (by omega) (by omega) (by omega) (by omega) (by omega) (by omega) (by omega) (by omega) (by omega) (by omega) (by omega) (by omega) (by omega) (by omega) (by omega) (by omega) (by omega) (by omega) (by omega) (by omega) (by omega) (by omega) (by omega) (by omega) (by omega) (by omega) (by omega) (by omega) (by omega) (by omega) (by omega) (by omega) (by omega) (by omega) (by omega) (by omega) (by omega) (by omega) (by omega) ((my_up_self fh4).trans (by omega)) (((my_up_fld fh4 (by decide)).trans c114_4_96_0).trans (by omega)) (((my_up_fld fh4 (by decide)).trans c114_5_96_0).trans (by omega)) (((my_up_fld fh4 (by decide)).trans c114_6_96_0).trans (by omega))
                ·
                  refine w_iconst gz_126_6 (by decide) ?_
                  refine w_goto (t := 13) gz_126_7 rfl ?_
                  refine w_iret gz_126_13 gm_126 ?_
                  show wp l rho (d + 2) 136 106 [(2, 114), (2, x1), (0, x2), (0, x3), (0, p23_0), (0, p40_0), (0, p49_0)] [(0, 1), (0, v1), (2, 114)] h96_0 Q
                  refine w_ianyA gz_136_106 (fun v5 pv5 qv5 => ?_)
                  refine v_putA (j := 3) gz_136_107 rfl is_114 rd_1 rfl rfl (fun h6 fh6 => ?_)
                  have gh6 : my_fr [(1, 3), (1, 4), (1, 5), (1, 6)] h h6 := my_fr.up gh_96_0 is_114 fh6 rfl
                  exact J110_0 (v5) (p96_1) (p96_2) (p96_3) h6 (gh6) (by omega) (by omega) (by omega) (by omega) (by omega) (by omega) (by omega) (by omega) (by omega) (by omega) (by omega) (by omega) (by omega) (by omega) (by omega) (by omega) (by omega) (by omega) (by omega) (by omega) (by omega) (by omega) (by omega) (by omega) (by omega) (by omega) (by omega) (by omega) (by omega) (by omega) (by omega) (by omega) (by omega) (by omega) (by omega) (by omega) (by omega) (by omega) (by omega) (by omega) (by omega) (by omega) (by omega) (by omega) (by omega) (by omega) (by omega) ((my_up_self fh6).trans (by omega)) (((my_up_fld fh6 (by decide)).trans c114_4_96_0).trans (by omega)) (((my_up_fld fh6 (by decide)).trans c114_5_96_0).trans (by omega)) (((my_up_fld fh6 (by decide)).trans c114_6_96_0).trans (by omega))
              refine w_iload gz_136_49 rfl ?_
              refine w_bipush gz_136_51 (by decide) ?_
              refine w_icgt (t := 116) gz_136_53 rfl (fun u7 => ?_) (fun u7 => ?_)
              ·
                refine w_iinc (ls' := [(2, 114), (2, x1), (0, x2), (0, x3), (0, p23_0), (0, (p40_0 + 1)), (0, p49_0)]) gz_136_116 rfl gm_136 rfl rfl rfl ⟨by omega, by omega⟩ ?_
                refine w_goto (t := 40) gz_136_119 rfl ?_
                refine w_weak (ls' := [(2, 114), (2, x1), (0, x2), (0, x3), (0, p23_0), (0, (p40_0 + 1)), (9, 0)]) (wk_e (wk_e (wk_e (wk_e (wk_e (wk_e (wk_9 wk_n))))))) ?_
                exact ih_40_0 ((p40_0 + 1)) (p49_1) (p49_2) (p49_3) (p49_4) h49_0 (gh_49_0) (by omega) (by omega) (by omega) (by omega) (by omega) (by omega) (by omega) (by omega) (by omega) (by omega) (by omega) (by omega) (by omega) (by omega) (by omega) (by omega) (by omega) (by omega) (by omega) (by omega) (by omega) (c114_3_49_0.trans (by omega)) (c114_4_49_0.trans (by omega)) (c114_5_49_0.trans (by omega)) (c114_6_49_0.trans (by omega)) (by omega)
              ·
                refine w_aload_n gz_136_56 rfl ?_
                refine w_iload_n gz_136_57 rfl ?_
                refine w_iload gz_136_58 rfl ?_
                refine w_iload gz_136_60 rfl ?_
                refine w_iload gz_136_62 rfl ?_
                refine w_inS (k := 3) (as := [(0, p49_0), (0, p40_0), (0, p23_0), (0, x2), (2, x1)]) (r := []) (ls0 := [(2, x1), (0, x2), (0, p23_0), (0, p40_0), (0, p49_0), (9, 0), (9, 0), (9, 0)]) gz_136_64 gm_125 rfl rfl rfl rfl rfl rfl (c_Cutter_keysLeft (d := d) (x0 := x1) (x1 := x2) (x2 := p23_0) (x3 := p40_0) (x4 := p49_0) t1 (by omega) (by omega) (by omega) (by omega) (by omega) (by omega) (by omega) (by omega) (fun w8 w9 w10 => ?_) (fun v11 => ?_))
                ·
                  show wp l rho (d + 2) 136 67 [(2, 114), (2, x1), (0, x2), (0, x3), (0, p23_0), (0, p40_0), (0, p49_0)] [(0, 0)] h49_0 Q
                  refine w_iload_n gz_136_67 rfl ?_
                  refine w_icne (t := 110) gz_136_68 rfl (fun u12 => ?_) (fun u12 => ?_)
                  ·
                    exact J110_0 (p49_1) (p49_2) (p49_3) (p49_4) h49_0 (gh_49_0) (by omega) (by omega) (by omega) (by omega) (by omega) (by omega) (by omega) (by omega) (by omega) (by omega) (by omega) (by omega) (by omega) (by omega) (by omega) (by omega) (by omega) (by omega) (by omega) (by omega) (by omega) (by omega) (by omega) (by omega) (by omega) (by omega) (by omega) (by omega) (by omega) (by omega) (by omega) (by omega) (by omega) (by omega) (by omega) (by omega) (by omega) (by omega) (by omega) (by omega) (by omega) (by omega) (by omega) (by omega) (by omega) (by omega) (by omega) (c114_3_49_0.trans (by omega)) (c114_4_49_0.trans (by omega)) (c114_5_49_0.trans (by omega)) (c114_6_49_0.trans (by omega))
                  ·
                    refine w_aload_n gz_136_71 rfl ?_
                    refine v_getI (j := 3) gz_136_72 rfl is_114 rd_1 rfl (fun v13 ev13 pv13 qv13 => ?_)
                    have zv13 := ev13.trans c114_3_49_0
                    refine w_ifne (t := 96) gz_136_75 rfl (fun u14 => ?_) (fun u14 => ?_)
                    ·
                      exact J96_0 (v13) (p49_2) (p49_3) (p49_4) h49_0 (gh_49_0) (by omega) (by omega) (by omega) (by omega) (by omega) (by omega) (by omega) (by omega) (by omega) (by omega) (by omega) (by omega) (by omega) (by omega) (by omega) (by omega) (by omega) (by omega) (by omega) (by omega) (by omega) (by omega) (by omega) (by omega) (by omega) (by omega) (by omega) (by omega) (by omega) (by omega) (by omega) (by omega) (by omega) (by omega) (by omega) (by omega) (by omega) (by omega) (by omega) (by omega) (by omega) (by omega) (by omega) (by omega) (by omega) (by omega) (by omega) (by omega) (by omega) (ev13.symm.trans (by omega)) (c114_4_49_0.trans (by omega)) (c114_5_49_0.trans (by omega)) (c114_6_49_0.trans (by omega))
                    ·
                      refine w_aload_n gz_136_78 rfl ?_
                      refine w_iload gz_136_79 rfl ?_
                      refine v_putA (j := 4) gz_136_81 rfl is_114 rd_1 rfl rfl (fun h15 fh15 => ?_)
                      have gh15 : my_fr [(1, 3), (1, 4), (1, 5), (1, 6)] h h15 := my_fr.up gh_49_0 is_114 fh15 rfl
                      refine w_aload_n gz_136_84 rfl ?_
                      refine w_iload gz_136_85 rfl ?_
                      refine v_putA (j := 5) gz_136_87 rfl is_114 rd_1 rfl rfl (fun h16 fh16 => ?_)
                      have gh16 : my_fr [(1, 3), (1, 4), (1, 5), (1, 6)] h h16 := my_fr.up gh15 is_114 fh16 rfl
                      refine w_aload_n gz_136_90 rfl ?_
                      refine w_iload gz_136_91 rfl ?_
                      refine v_putA (j := 6) gz_136_93 rfl is_114 rd_1 rfl rfl (fun h17 fh17 => ?_)
                      have gh17 : my_fr [(1, 3), (1, 4), (1, 5), (1, 6)] h h17 := my_fr.up gh16 is_114 fh17 rfl
                      exact J96_0 (v13) (p23_0) (p40_0) (p49_0) h17 (gh17) (by omega) (by omega) (by omega) (by omega) (by omega) (by omega) (by omega) (by omega) (by omega) (by omega) (by omega) (by omega) (by omega) (by omega) (by omega) (by omega) (by omega) (by omega) (by omega) (by omega) (by omega) (by omega) (by omega) (by omega) (by omega) (by omega) (by omega) (by omega) (by omega) (by omega) (by omega) (by omega) (by omega) (by omega) (by omega) (by omega) (by omega) (by omega) (by omega) (by omega) (by omega) (by omega) (by omega) (by omega) (by omega) (by omega) (by omega) (by omega) (by omega) (((my_up_fld fh17 (by decide)).trans ((my_up_fld fh16 (by decide)).trans ((my_up_fld fh15 (by decide)).trans ev13.symm))).trans (by omega)) (((my_up_fld fh17 (by decide)).trans ((my_up_fld fh16 (by decide)).trans (my_up_self fh15))).trans (by omega)) (((my_up_fld fh17 (by decide)).trans (my_up_self fh16)).trans (by omega)) ((my_up_self fh17).trans (by omega))
                ·
                  show wp l rho (d + 2) 136 67 [(2, 114), (2, x1), (0, x2), (0, x3), (0, p23_0), (0, p40_0), (0, p49_0)] [(0, v11)] h49_0 Q
                  refine w_iload_n gz_136_67 rfl ?_
                  refine w_icne (t := 110) gz_136_68 rfl (fun u18 => ?_) (fun u18 => ?_)
                  ·
                    exact J110_0 (p49_1) (p49_2) (p49_3) (p49_4) h49_0 (gh_49_0) (by omega) (by omega) (by omega) (by omega) (by omega) (by omega) (by omega) (by omega) (by omega) (by omega) (by omega) (by omega) (by omega) (by omega) (by omega) (by omega) (by omega) (by omega) (by omega) (by omega) (by omega) (by omega) (by omega) (by omega) (by omega) (by omega) (by omega) (by omega) (by omega) (by omega) (by omega) (by omega) (by omega) (by omega) (by omega) (by omega) (by omega) (by omega) (by omega) (by omega) (by omega) (by omega) (by omega) (by omega) (by omega) (by omega) (by omega) (c114_3_49_0.trans (by omega)) (c114_4_49_0.trans (by omega)) (c114_5_49_0.trans (by omega)) (c114_6_49_0.trans (by omega))
                  ·
                    refine w_aload_n gz_136_71 rfl ?_
                    refine v_getI (j := 3) gz_136_72 rfl is_114 rd_1 rfl (fun v19 ev19 pv19 qv19 => ?_)
                    have zv19 := ev19.trans c114_3_49_0
                    refine w_ifne (t := 96) gz_136_75 rfl (fun u20 => ?_) (fun u20 => ?_)
                    ·
                      exact J96_0 (v19) (p49_2) (p49_3) (p49_4) h49_0 (gh_49_0) (by omega) (by omega) (by omega) (by omega) (by omega) (by omega) (by omega) (by omega) (by omega) (by omega) (by omega) (by omega) (by omega) (by omega) (by omega) (by omega) (by omega) (by omega) (by omega) (by omega) (by omega) (by omega) (by omega) (by omega) (by omega) (by omega) (by omega) (by omega) (by omega) (by omega) (by omega) (by omega) (by omega) (by omega) (by omega) (by omega) (by omega) (by omega) (by omega) (by omega) (by omega) (by omega) (by omega) (by omega) (by omega) (by omega) (by omega) (by omega) (by omega) (ev19.symm.trans (by omega)) (c114_4_49_0.trans (by omega)) (c114_5_49_0.trans (by omega)) (c114_6_49_0.trans (by omega))
                    ·
                      refine w_aload_n gz_136_78 rfl ?_
                      refine w_iload gz_136_79 rfl ?_
                      refine v_putA (j := 4) gz_136_81 rfl is_114 rd_1 rfl rfl (fun h21 fh21 => ?_)
                      have gh21 : my_fr [(1, 3), (1, 4), (1, 5), (1, 6)] h h21 := my_fr.up gh_49_0 is_114 fh21 rfl
                      refine w_aload_n gz_136_84 rfl ?_
                      refine w_iload gz_136_85 rfl ?_
                      refine v_putA (j := 5) gz_136_87 rfl is_114 rd_1 rfl rfl (fun h22 fh22 => ?_)
                      have gh22 : my_fr [(1, 3), (1, 4), (1, 5), (1, 6)] h h22 := my_fr.up gh21 is_114 fh22 rfl
                      refine w_aload_n gz_136_90 rfl ?_
                      refine w_iload gz_136_91 rfl ?_
                      refine v_putA (j := 6) gz_136_93 rfl is_114 rd_1 rfl rfl (fun h23 fh23 => ?_)
                      have gh23 : my_fr [(1, 3), (1, 4), (1, 5), (1, 6)] h h23 := my_fr.up gh22 is_114 fh23 rfl
                      exact J96_0 (v19) (p23_0) (p40_0) (p49_0) h23 (gh23) (by omega) (by omega) (by omega) (by omega) (by omega) (by omega) (by omega) (by omega) (by omega) (by omega) (by omega) (by omega) (by omega) (by omega) (by omega) (by omega) (by omega) (by omega) (by omega) (by omega) (by omega) (by omega) (by omega) (by omega) (by omega) (by omega) (by omega) (by omega) (by omega) (by omega) (by omega) (by omega) (by omega) (by omega) (by omega) (by omega) (by omega) (by omega) (by omega) (by omega) (by omega) (by omega) (by omega) (by omega) (by omega) (by omega) (by omega) (by omega) (by omega) (((my_up_fld fh23 (by decide)).trans ((my_up_fld fh22 (by decide)).trans ((my_up_fld fh21 (by decide)).trans ev19.symm))).trans (by omega)) (((my_up_fld fh23 (by decide)).trans ((my_up_fld fh22 (by decide)).trans (my_up_self fh21))).trans (by omega)) (((my_up_fld fh23 (by decide)).trans (my_up_self fh22)).trans (by omega)) ((my_up_self fh23).trans (by omega))
          refine w_iload gz_136_40 rfl ?_
          refine w_iconst gz_136_42 (by decide) ?_
          refine w_icgt (t := 122) gz_136_43 rfl (fun u24 => ?_) (fun u24 => ?_)
          ·
            refine w_iinc (ls' := [(2, 114), (2, x1), (0, x2), (0, x3), (0, (p23_0 + 1)), (0, p40_0), (9, 0)]) gz_136_122 rfl gm_136 rfl rfl rfl ⟨by omega, by omega⟩ ?_
            refine w_goto (t := 23) gz_136_125 rfl ?_
            refine w_weak (ls' := [(2, 114), (2, x1), (0, x2), (0, x3), (0, (p23_0 + 1)), (9, 0), (9, 0)]) (wk_e (wk_e (wk_e (wk_e (wk_e (wk_9 (wk_9 wk_n))))))) ?_
            exact ih_23_0 ((p23_0 + 1)) (p40_1) (p40_2) (p40_3) (p40_4) h40_0 (gh_40_0) (by omega) (by omega) (by omega) (by omega) (by omega) (by omega) (by omega) (by omega) (by omega) (by omega) (by omega) (by omega) (c114_3_40_0.trans (by omega)) (c114_4_40_0.trans (by omega)) (c114_5_40_0.trans (by omega)) (c114_6_40_0.trans (by omega)) (by omega)
          ·
            refine w_iconst gz_136_46 (by decide) ?_
            refine w_istore (ls' := [(2, 114), (2, x1), (0, x2), (0, x3), (0, p23_0), (0, p40_0), (0, 0)]) gz_136_47 gm_136 rfl rfl rfl ?_
            exact J49_0 22 (0) (p40_1) (p40_2) (p40_3) (p40_4) h40_0 (gh_40_0) (by omega) (by omega) (by omega) (by omega) (by omega) (by omega) (by omega) (by omega) (by omega) (by omega) (by omega) (by omega) (by omega) (by omega) (by omega) (by omega) (by omega) (by omega) (by omega) (by omega) (by omega) (by omega) (by omega) (by omega) (by omega) (by omega) (by omega) (by omega) (by omega) (by omega) (by omega) (by omega) (c114_3_40_0.trans (by omega)) (c114_4_40_0.trans (by omega)) (c114_5_40_0.trans (by omega)) (c114_6_40_0.trans (by omega)) (by omega)
      refine w_iload gz_136_23 rfl ?_
      refine w_aload_n gz_136_25 rfl ?_
      refine w_getX (v := 1) gz_136_26 is_114 rd_1 rfl (by decide) rfl ?_
      refine w_getX (v := 2) gz_136_29 is_1 rd_3 rfl (by decide) rfl ?_
      refine w_iload_n gz_136_32 rfl ?_
      refine w_iald gz_136_33 is_2 rd_25 (by omega) (by omega) (fun v27 ev27 pv27 qv27 => ?_)
      refine w_icge (t := 128) gz_136_34 rfl (fun u28 => ?_) (fun u28 => ?_)
      ·
        have c29 := c114_4_23_0
        have c30 := c114_5_23_0
        have c31 := c114_6_23_0
        exact w_vret gz_136_128 gm_136 (k0 h23_0 (gh_23_0) (by omega) (by omega) (by omega) (by omega) (by omega) (by omega))
      ·
        refine w_iconst gz_136_37 (by decide) ?_
        refine w_istore (ls' := [(2, 114), (2, x1), (0, x2), (0, x3), (0, p23_0), (0, 0), (9, 0)]) gz_136_38 gm_136 rfl rfl rfl ?_
        exact J40_0 4 (0) (p23_1) (p23_2) (p23_3) (p23_4) h23_0 (gh_23_0) (by omega) (by omega) (by omega) (by omega) (by omega) (by omega) (by omega) (by omega) (by omega) (by omega) (by omega) (by omega) (by omega) (by omega) (by omega) (by omega) (by omega) (by omega) (by omega) (by omega) (by omega) (c114_3_23_0.trans (by omega)) (c114_4_23_0.trans (by omega)) (c114_5_23_0.trans (by omega)) (c114_6_23_0.trans (by omega)) (by omega)
  refine w_aload_n gz_136_0 rfl ?_
  refine w_iconst gz_136_1 (by decide) ?_
  refine v_putA (j := 3) gz_136_2 rfl is_114 rd_1 rfl rfl (fun h32 fh32 => ?_)
  have gh32 : my_fr [(1, 3), (1, 4), (1, 5), (1, 6)] h h32 := my_fr.up my_fr.rf is_114 fh32 rfl
  refine w_aload_n gz_136_5 rfl ?_
  refine w_iconst gz_136_6 (by decide) ?_
  refine v_putA (j := 4) gz_136_7 rfl is_114 rd_1 rfl rfl (fun h33 fh33 => ?_)
  have gh33 : my_fr [(1, 3), (1, 4), (1, 5), (1, 6)] h h33 := my_fr.up gh32 is_114 fh33 rfl
  refine w_aload_n gz_136_10 rfl ?_
  refine w_iconst gz_136_11 (by decide) ?_
  refine v_putA (j := 5) gz_136_12 rfl is_114 rd_1 rfl rfl (fun h34 fh34 => ?_)
  have gh34 : my_fr [(1, 3), (1, 4), (1, 5), (1, 6)] h h34 := my_fr.up gh33 is_114 fh34 rfl
  refine w_aload_n gz_136_15 rfl ?_
  refine w_iconst gz_136_16 (by decide) ?_
  refine v_putA (j := 6) gz_136_17 rfl is_114 rd_1 rfl rfl (fun h35 fh35 => ?_)
  have gh35 : my_fr [(1, 3), (1, 4), (1, 5), (1, 6)] h h35 := my_fr.up gh34 is_114 fh35 rfl
  refine w_iconst gz_136_20 (by decide) ?_
  refine w_istore (ls' := [(2, 114), (2, x1), (0, x2), (0, x3), (0, 0), (9, 0), (9, 0)]) gz_136_21 gm_136 rfl rfl rfl ?_
  exact J23_0 5 (0) (0) ((-1)) ((-1)) ((-1)) h35 (gh35) (by omega) (by omega) (by omega) (by omega) (by omega) (by omega) (by omega) (by omega) (by omega) (by omega) (by omega) (by omega) (((my_up_fld fh35 (by decide)).trans ((my_up_fld fh34 (by decide)).trans ((my_up_fld fh33 (by decide)).trans (my_up_self fh32)))).trans (by omega)) (((my_up_fld fh35 (by decide)).trans ((my_up_fld fh34 (by decide)).trans (my_up_self fh33))).trans (by omega)) (((my_up_fld fh35 (by decide)).trans (my_up_self fh34)).trans (by omega)) ((my_up_self fh35).trans (by omega)) (by omega)
theorem c_ThroughWindow_countTold {l : Launch} {rho : Nat → Int32} {d : Nat} {h : my_H} {Q : my_H → my_V → Prop} (k0 : ∀ (y : Int), 0 ≤ y → y ≤ 6 → Q h (0, y)) : wp l rho d 140 0 [(2, 0), (9, 0), (9, 0)] [] h Q := by
  have J4_0 : ∀ (n : Nat) (p4_0 p4_1 : Int), 0 ≤ p4_0 → p4_0 ≤ 6 → 0 ≤ p4_1 → p4_1 ≤ 6 → p4_0 ≤ p4_1 → 7 - p4_1 ≤ (n : Int) → wp l rho d 140 4 [(2, 0), (0, p4_0), (0, p4_1)] [] h Q := by
    intro n
    induction n with
    | zero => intro p4_0 p4_1 q0_4_0 q1_4_0 q2_4_0 q3_4_0 q4_4_0 hm_4_0; exfalso; omega
    | succ n ih_4_0 =>
      intro p4_0 p4_1 q0_4_0 q1_4_0 q2_4_0 q3_4_0 q4_4_0 hm_4_0
      have J25_0 : ∀ (p25_0 : Int), 0 ≤ p25_0 → p25_0 ≤ 6 → p4_1 ≤ 5 → p4_0 ≤ 5 → p25_0 ≤ (p4_1 + 1) → p25_0 ≤ (p4_0 + 1) → p4_0 ≤ p25_0 → p4_0 ≤ p4_1 → wp l rho d 140 25 [(2, 0), (0, p25_0), (0, p4_1)] [] h Q := by
        intro p25_0 q0_25_0 q1_25_0 q2_25_0 q3_25_0 q4_25_0 q5_25_0 q6_25_0 q7_25_0
        refine w_iinc (ls' := [(2, 0), (0, p25_0), (0, (p4_1 + 1))]) gz_140_25 rfl gm_140 rfl rfl rfl ⟨by omega, by omega⟩ ?_
        refine w_goto (t := 4) gz_140_28 rfl ?_
        exact ih_4_0 (p25_0) ((p4_1 + 1)) (by omega) (by omega) (by omega) (by omega) (by omega) (by omega)
      refine w_iload_n gz_140_4 rfl ?_
      refine w_bipush gz_140_5 (by decide) ?_
      refine w_icge (t := 31) gz_140_7 rfl (fun u1 => ?_) (fun u1 => ?_)
      ·
        refine w_iload_n gz_140_31 rfl ?_
        exact w_iret gz_140_32 gm_140 (k0 (p4_0) (by omega) (by omega))
      ·
        refine w_aload_n gz_140_10 rfl ?_
        refine w_getX (v := 27) gz_140_11 is_0 rd_9 rfl (by decide) rfl ?_
        refine w_iload_n gz_140_14 rfl ?_
        refine w_aald gz_140_15 is_27 rd_22 rfl (by omega) (by omega) (fun v3 ev3 tv3 => ?_)
        refine v_getI (j := 0) gz_140_16 rfl tv3 rd_4 rfl (fun v4 ev4 pv4 qv4 => ?_)
        refine w_ifeq (t := 25) gz_140_19 rfl (fun u5 => ?_) (fun u5 => ?_)
        ·
          exact J25_0 (p4_0) (by omega) (by omega) (by omega) (by omega) (by omega) (by omega) (by omega) (by omega)
        ·
          refine w_iinc (ls' := [(2, 0), (0, (p4_0 + 1)), (0, p4_1)]) gz_140_22 rfl gm_140 rfl rfl rfl ⟨by omega, by omega⟩ ?_
          exact J25_0 ((p4_0 + 1)) (by omega) (by omega) (by omega) (by omega) (by omega) (by omega) (by omega) (by omega)
  refine w_iconst gz_140_0 (by decide) ?_
  refine w_istore_n (ls' := [(2, 0), (0, 0), (9, 0)]) gz_140_1 gm_140 rfl rfl rfl ?_
  refine w_iconst gz_140_2 (by decide) ?_
  refine w_istore_n (ls' := [(2, 0), (0, 0), (0, 0)]) gz_140_3 gm_140 rfl rfl rfl ?_
  exact J4_0 7 (0) (0) (by omega) (by omega) (by omega) (by omega) (by omega) (by omega)
theorem c_Rows_sumOfValues {l : Launch} {rho : Nat → Int32} {d : Nat} {h : my_H} {Q : my_H → my_V → Prop} {x0 : Int} (t0 : my_is 6 x0) (k0 : ∀ (y : Int), Q h (0, y)) : wp l rho d 141 0 [(2, x0), (9, 0), (9, 0)] [] h Q := by
  have J4_0 : ∀ (n : Nat) (p4_0 p4_1 : Int), 0 ≤ p4_1 → p4_1 ≤ 240 → 241 - p4_1 ≤ (n : Int) → wp l rho d 141 4 [(2, x0), (0, p4_0), (0, p4_1)] [] h Q := by
    intro n
    induction n with
    | zero => intro p4_0 p4_1 q0_4_0 q1_4_0 hm_4_0; exfalso; omega
    | succ n ih_4_0 =>
      intro p4_0 p4_1 q0_4_0 q1_4_0 hm_4_0
      have J32_0 : ∀ (p32_0 : Int), p4_1 ≤ 239 → wp l rho d 141 32 [(2, x0), (0, p32_0), (0, p4_1)] [] h Q := by
        intro p32_0 q0_32_0
        refine w_iinc (ls' := [(2, x0), (0, p32_0), (0, (p4_1 + 1))]) gz_141_32 rfl gm_141 rfl rfl rfl ⟨by omega, by omega⟩ ?_
        refine w_goto (t := 4) gz_141_35 rfl ?_
        exact ih_4_0 (p32_0) ((p4_1 + 1)) (by omega) (by omega) (by omega)
      refine w_iload_n gz_141_4 rfl ?_
      refine w_aload_n gz_141_5 rfl ?_
      refine w_getX (v := (x0 + 1)) gz_141_6 t0 rd_6 rfl (by decide) rfl ?_
      refine v_alen (j := 240) gz_141_9 rfl (ix_6_1 t0) rd_30 (by decide) ?_
      refine w_icge (t := 38) gz_141_10 rfl (fun u2 => ?_) (fun u2 => ?_)
      ·
        refine w_iload_n gz_141_38 rfl ?_
        exact w_iret gz_141_39 gm_141 (k0 (p4_0))
      ·
        refine w_aload_n gz_141_13 rfl ?_
        refine w_getX (v := (x0 + 1)) gz_141_14 t0 rd_6 rfl (by decide) rfl ?_
        refine w_iload_n gz_141_17 rfl ?_
        refine w_iald gz_141_18 (ix_6_1 t0) rd_30 (by omega) (by omega) (fun v4 ev4 pv4 qv4 => ?_)
        refine w_iconst gz_141_19 (by decide) ?_
        refine w_iceq (t := 32) gz_141_20 rfl (fun u5 => ?_) (fun u5 => ?_)
        ·
          exact J32_0 (p4_0) (by omega)
        ·
          refine w_iload_n gz_141_23 rfl ?_
          refine w_aload_n gz_141_24 rfl ?_
          refine w_getX (v := (x0 + 1)) gz_141_25 t0 rd_6 rfl (by decide) rfl ?_
          refine w_iload_n gz_141_28 rfl ?_
          refine w_iald gz_141_29 (ix_6_1 t0) rd_30 (by omega) (by omega) (fun v7 ev7 pv7 qv7 => ?_)
          have zv7 := ev7.trans ev4.symm
          refine w_ianyA gz_141_30 (fun v8 pv8 qv8 => ?_)
          refine w_istore_n (ls' := [(2, x0), (0, v8), (0, p4_1)]) gz_141_31 gm_141 rfl rfl rfl ?_
          exact J32_0 (v8) (by omega)
  refine w_iconst gz_141_0 (by decide) ?_
  refine w_istore_n (ls' := [(2, x0), (0, 0), (9, 0)]) gz_141_1 gm_141 rfl rfl rfl ?_
  refine w_iconst gz_141_2 (by decide) ?_
  refine w_istore_n (ls' := [(2, x0), (0, 0), (0, 0)]) gz_141_3 gm_141 rfl rfl rfl ?_
  exact J4_0 241 (0) (0) (by omega) (by omega) (by omega)
theorem c_Model_lay {l : Launch} {rho : Nat → Int32} {d : Nat} {h : my_H} {Q : my_H → my_V → Prop} {x1 : Int} (k0 : ∀ (h' : my_H), my_fr [(10, 2), (51, -1)] h h' → Q h' (9, 0)) : wp l rho d 144 0 [(2, 151), (1, x1), (9, 0), (9, 0), (9, 0)] [] h Q := by
  have J3_0 : ∀ (n : Nat) (z3_l1 p3_0 : Int) (h3_0 : my_H), my_fr [(10, 2), (51, -1)] h h3_0 → (-8) ≤ p3_0 → p3_0 ≤ 56 → p3_0 - (-9) ≤ (n : Int) → wp l rho d 144 3 [(2, 151), (1, z3_l1), (9, 0), (0, p3_0), (9, 0)] [] h3_0 Q := by
    intro n
    induction n with
    | zero => intro z3_l1 p3_0 h3_0 gh_3_0 q0_3_0 q1_3_0 hm_3_0; exfalso; omega
    | succ n ih_3_0 =>
      intro z3_l1 p3_0 h3_0 gh_3_0 q0_3_0 q1_3_0 hm_3_0
      have J69_0 : ∀ (z69_l1 p69_0 : Int) (h69_0 : my_H), my_fr [(10, 2), (51, -1)] h h69_0 → 0 ≤ p3_0 → 0 ≤ p69_0 → p69_0 ≤ 255 → wp l rho d 144 69 [(2, 151), (1, z69_l1), (9, 0), (0, p3_0), (0, p69_0)] [] h69_0 Q := by
        intro z69_l1 p69_0 h69_0 gh_69_0 q0_69_0 q1_69_0 q2_69_0
        refine w_iinc (ls' := [(2, 151), (1, z69_l1), (9, 0), (0, (p3_0 + (-8))), (0, p69_0)]) gz_144_69 rfl gm_144 rfl rfl rfl ⟨by omega, by omega⟩ ?_
        refine w_goto (t := 3) gz_144_72 rfl ?_
        refine w_weak (ls' := [(2, 151), (1, z69_l1), (9, 0), (0, (p3_0 + (-8))), (9, 0)]) (wk_e (wk_e (wk_9 (wk_e (wk_9 wk_n))))) ?_
        exact ih_3_0 (z69_l1) ((p3_0 + (-8))) h69_0 (gh_69_0) (by omega) (by omega) (by omega)
      have J38_0 : ∀ (z38_l1 p38_0 : Int) (h38_0 : my_H), my_fr [(10, 2), (51, -1)] h h38_0 → 0 ≤ p3_0 → 10 ≤ p38_0 → p38_0 ≤ 126 → wp l rho d 144 38 [(2, 151), (1, z38_l1), (9, 0), (0, p3_0), (0, p38_0)] [] h38_0 Q := by
        intro z38_l1 p38_0 h38_0 gh_38_0 q0_38_0 q1_38_0 q2_38_0
        refine w_aload_n gz_144_38 rfl ?_
        refine v_getI (j := 2) gz_144_39 rfl is_151 rd_10 rfl (fun v1 ev1 pv1 qv1 => ?_)
        refine w_sipush gz_144_42 (by decide) ?_
        refine w_icge (t := 69) gz_144_45 rfl (fun u2 => ?_) (fun u2 => ?_)
        ·
          exact J69_0 (z38_l1) (p38_0) h38_0 (gh_38_0) (by omega) (by omega) (by omega)
        ·
          refine w_aload_n gz_144_48 rfl ?_
          refine w_getX (v := 152) gz_144_49 is_151 rd_10 rfl (by decide) rfl ?_
          refine w_aload_n gz_144_52 rfl ?_
          refine v_getI (j := 2) gz_144_53 rfl is_151 rd_10 rfl (fun v4 ev4 pv4 qv4 => ?_)
          have zv4 := ev4.trans ev1.symm
          refine w_iload gz_144_56 rfl ?_
          refine w_iast gz_144_58 is_152 rd_51 (by omega) (by omega) (by omega) (by omega) (fun h5 fh5 => ?_)
          have gh5 : my_fr [(10, 2), (51, -1)] h h5 := my_fr.up gh_38_0 is_152 fh5 rfl
          refine w_aload_n gz_144_59 rfl ?_
          refine w_dup gz_144_60 rfl ?_
          refine v_getI (j := 2) gz_144_61 rfl is_151 rd_10 rfl (fun v6 ev6 pv6 qv6 => ?_)
          have zv6 := ev6.trans ((my_up_role fh5 is_151 is_152 rfl).trans ev4.symm)
          refine w_iconst gz_144_64 (by decide) ?_
          refine w_iadd gz_144_65 ⟨by omega, by omega⟩ ?_
          refine v_putI (j := 2) gz_144_66 rfl is_151 rd_10 rfl (by omega) (by omega) rfl (fun h7 fh7 => ?_)
          have gh7 : my_fr [(10, 2), (51, -1)] h h7 := my_fr.up gh5 is_151 fh7 rfl
          exact J69_0 (z38_l1) (p38_0) h7 (gh7) (by omega) (by omega) (by omega)
      refine w_iload_n gz_144_3 rfl ?_
      refine w_iflt (t := 75) gz_144_4 rfl (fun u8 => ?_) (fun u8 => ?_)
      ·
        exact w_vret gz_144_75 gm_144 (k0 h3_0 (gh_3_0))
      ·
        refine w_lload_n gz_144_7 rfl ?_
        refine w_iload_n gz_144_8 rfl ?_
        refine w_jshf gz_144_9 (fun _ => rfl) rfl (fun v9 pv9 => ?_)
        refine w_l2i gz_144_10 (fun v10 pv10 qv10 => ?_)
        refine w_sipush gz_144_11 (by decide) ?_
        refine w_iandM gz_144_14 (by decide) (fun v11 pv11 qv11 => ?_)
        refine w_istore (ls' := [(2, 151), (1, z3_l1), (9, 0), (0, p3_0), (0, v11)]) gz_144_15 gm_144 rfl rfl rfl ?_
        refine w_iload gz_144_17 rfl ?_
        refine w_bipush gz_144_19 (by decide) ?_
        refine w_iceq (t := 38) gz_144_21 rfl (fun u12 => ?_) (fun u12 => ?_)
        ·
          exact J38_0 (z3_l1) (v11) h3_0 (gh_3_0) (by omega) (by omega) (by omega)
        ·
          refine w_iload gz_144_24 rfl ?_
          refine w_bipush gz_144_26 (by decide) ?_
          refine w_iclt (t := 69) gz_144_28 rfl (fun u13 => ?_) (fun u13 => ?_)
          ·
            exact J69_0 (z3_l1) (v11) h3_0 (gh_3_0) (by omega) (by omega) (by omega)
          ·
            refine w_iload gz_144_31 rfl ?_
            refine w_bipush gz_144_33 (by decide) ?_
            refine w_icgt (t := 69) gz_144_35 rfl (fun u14 => ?_) (fun u14 => ?_)
            ·
              exact J69_0 (z3_l1) (v11) h3_0 (gh_3_0) (by omega) (by omega) (by omega)
            ·
              exact J38_0 (z3_l1) (v11) h3_0 (gh_3_0) (by omega) (by omega) (by omega)
  refine w_bipush gz_144_0 (by decide) ?_
  refine w_istore_n (ls' := [(2, 151), (1, x1), (9, 0), (0, 56), (9, 0)]) gz_144_2 gm_144 rfl rfl rfl ?_
  exact J3_0 65 (x1) (56) h (my_fr.rf) (by omega) (by omega) (by omega)
theorem c_Model_wall {l : Launch} {rho : Nat → Int32} {d : Nat} {h : my_H} {Q : my_H → my_V → Prop} {x1 x2 : Int} (k0 : ∀ (h' : my_H), my_fr [(10, 0), (56, -1)] h h' → h' 151 0 = 0 → Q h' (0, 0)) (k1 : ∀ (h' : my_H), my_fr [(10, 0), (56, -1)] h h' → 0 ≤ x1 → x1 ≤ 2 → 1 ≤ x2 → x2 ≤ 4 → h' 151 0 = 0 → Q h' (0, 1)) : wp l rho (d + 1) 146 0 [(2, 151), (0, x1), (0, x2)] [] h Q := by
  refine w_aload_n gz_146_0 rfl ?_
  refine w_iconst gz_146_1 (by decide) ?_
  refine v_putI (j := 0) gz_146_2 rfl is_151 rd_10 rfl (by omega) (by omega) rfl (fun h1 fh1 => ?_)
  have gh1 : my_fr [(10, 0), (56, -1)] h h1 := my_fr.up my_fr.rf is_151 fh1 rfl
  refine w_iload_n gz_146_5 rfl ?_
  refine w_iconst gz_146_6 (by decide) ?_
  refine w_iconst gz_146_7 (by decide) ?_
  refine w_inS (k := 0) (as := [(0, 2), (0, 0), (0, x1)]) (r := []) (ls0 := [(0, x1), (0, 0), (0, 2)]) gz_146_8 gm_147 rfl rfl rfl rfl rfl rfl ?_
  refine w_iload_n gz_147_0 rfl ?_
  refine w_iload_n gz_147_1 rfl ?_
  refine w_iclt (t := 14) gz_147_2 rfl (fun u2 => ?_) (fun u2 => ?_)
  ·
    refine w_iconst gz_147_14 (by decide) ?_
    refine w_bret gz_147_15 gm_147 (by omega) (by omega) ?_
    show wp l rho (d + 1) 146 11 [(2, 151), (0, x1), (0, x2)] [(0, 0)] h1 Q
    refine w_ifeq (t := 32) gz_146_11 rfl (fun u3 => ?_) (fun u3 => by exfalso; omega)
    refine w_iconst gz_146_32 (by decide) ?_
    have c4 := (my_up_self fh1)
    exact w_bret gz_146_33 gm_146 (by omega) (by omega) (k0 h1 (gh1) (by omega))
  ·
    refine w_iload_n gz_147_5 rfl ?_
    refine w_iload_n gz_147_6 rfl ?_
    refine w_icgt (t := 14) gz_147_7 rfl (fun u5 => ?_) (fun u5 => ?_)
    ·
      refine w_iconst gz_147_14 (by decide) ?_
      refine w_bret gz_147_15 gm_147 (by omega) (by omega) ?_
      show wp l rho (d + 1) 146 11 [(2, 151), (0, x1), (0, x2)] [(0, 0)] h1 Q
      refine w_ifeq (t := 32) gz_146_11 rfl (fun u6 => ?_) (fun u6 => by exfalso; omega)
      refine w_iconst gz_146_32 (by decide) ?_
      have c7 := (my_up_self fh1)
      exact w_bret gz_146_33 gm_146 (by omega) (by omega) (k0 h1 (gh1) (by omega))
    ·
      refine w_iconst gz_147_10 (by decide) ?_
      refine w_goto (t := 15) gz_147_11 rfl ?_
      refine w_bret gz_147_15 gm_147 (by omega) (by omega) ?_
      show wp l rho (d + 1) 146 11 [(2, 151), (0, x1), (0, x2)] [(0, 1)] h1 Q
      refine w_ifeq (t := 32) gz_146_11 rfl (fun u8 => by exfalso; omega) (fun u8 => ?_)
      refine w_iload_n gz_146_14 rfl ?_
      refine w_iconst gz_146_15 (by decide) ?_
      refine w_iconst gz_146_16 (by decide) ?_
      refine w_inS (k := 0) (as := [(0, 4), (0, 1), (0, x2)]) (r := []) (ls0 := [(0, x2), (0, 1), (0, 4)]) gz_146_17 gm_147 rfl rfl rfl rfl rfl rfl ?_
      refine w_iload_n gz_147_0 rfl ?_
      refine w_iload_n gz_147_1 rfl ?_
      refine w_iclt (t := 14) gz_147_2 rfl (fun u9 => ?_) (fun u9 => ?_)
      ·
        refine w_iconst gz_147_14 (by decide) ?_
        refine w_bret gz_147_15 gm_147 (by omega) (by omega) ?_
        show wp l rho (d + 1) 146 20 [(2, 151), (0, x1), (0, x2)] [(0, 0)] h1 Q
        refine w_ifeq (t := 32) gz_146_20 rfl (fun u10 => ?_) (fun u10 => by exfalso; omega)
        refine w_iconst gz_146_32 (by decide) ?_
        have c11 := (my_up_self fh1)
        exact w_bret gz_146_33 gm_146 (by omega) (by omega) (k0 h1 (gh1) (by omega))
      ·
        refine w_iload_n gz_147_5 rfl ?_
        refine w_iload_n gz_147_6 rfl ?_
        refine w_icgt (t := 14) gz_147_7 rfl (fun u12 => ?_) (fun u12 => ?_)
        ·
          refine w_iconst gz_147_14 (by decide) ?_
          refine w_bret gz_147_15 gm_147 (by omega) (by omega) ?_
          show wp l rho (d + 1) 146 20 [(2, 151), (0, x1), (0, x2)] [(0, 0)] h1 Q
          refine w_ifeq (t := 32) gz_146_20 rfl (fun u13 => ?_) (fun u13 => by exfalso; omega)
          refine w_iconst gz_146_32 (by decide) ?_
          have c14 := (my_up_self fh1)
          exact w_bret gz_146_33 gm_146 (by omega) (by omega) (k0 h1 (gh1) (by omega))
        ·
          refine w_iconst gz_147_10 (by decide) ?_
          refine w_goto (t := 15) gz_147_11 rfl ?_
          refine w_bret gz_147_15 gm_147 (by omega) (by omega) ?_
          show wp l rho (d + 1) 146 20 [(2, 151), (0, x1), (0, x2)] [(0, 1)] h1 Q
          refine w_ifeq (t := 32) gz_146_20 rfl (fun u15 => by exfalso; omega) (fun u15 => ?_)
          refine w_aload_n gz_146_23 rfl ?_
          refine w_getX (v := 157) gz_146_24 is_151 rd_10 rfl (by decide) rfl ?_
          refine w_iload_n gz_146_27 rfl ?_
          refine w_iald gz_146_28 is_157 rd_56 (by omega) (by omega) (fun v17 ev17 pv17 qv17 => ?_)
          refine w_ifle (t := 34) gz_146_29 rfl (fun u18 => ?_) (fun u18 => ?_)
          ·
            refine w_aload_n gz_146_34 rfl ?_
            refine w_getX (v := 157) gz_146_35 is_151 rd_10 rfl (by decide) rfl ?_
            refine w_iload_n gz_146_38 rfl ?_
            refine w_iload_n gz_146_39 rfl ?_
            refine w_iast gz_146_40 is_157 rd_56 (by omega) (by omega) (by omega) (by omega) (fun h20 fh20 => ?_)
            have gh20 : my_fr [(10, 0), (56, -1)] h h20 := my_fr.up gh1 is_157 fh20 rfl
            refine w_iconst gz_146_41 (by decide) ?_
            have c21 := ((my_up_role fh20 is_151 is_157 rfl).trans (my_up_self fh1))
            exact w_bret gz_146_42 gm_146 (by omega) (by omega) (k1 h20 (gh20) (by omega) (by omega) (by omega) (by omega) (by omega))
          ·
            refine w_iconst gz_146_32 (by decide) ?_
            have c22 := (my_up_self fh1)
            exact w_bret gz_146_33 gm_146 (by omega) (by omega) (k0 h1 (gh1) (by omega))
theorem c_Model_rowsOf {l : Launch} {rho : Nat → Int32} {d : Nat} {h : my_H} {Q : my_H → my_V → Prop} {x1 x2 : Int} (a1 : 0 ≤ x1) (b1 : x1 ≤ 15) (a2 : 0 ≤ x2) (b2 : x2 ≤ 2) (k0 : ∀ (y : Int), 0 ≤ y → y ≤ 20 → Q h (0, y)) : wp l rho (d + 1) 151 0 [(2, 151), (0, x1), (0, x2), (9, 0), (9, 0)] [] h Q := by
  have J5_0 : ∀ (n : Nat) (p5_0 p5_1 : Int), 0 ≤ p5_0 → p5_0 ≤ 20 → 0 ≤ p5_1 → p5_1 ≤ 20 → p5_0 ≤ p5_1 → 21 - p5_1 ≤ (n : Int) → wp l rho (d + 1) 151 5 [(2, 151), (0, x1), (0, x2), (0, p5_0), (0, p5_1)] [] h Q := by
    intro n
    induction n with
    | zero => intro p5_0 p5_1 q0_5_0 q1_5_0 q2_5_0 q3_5_0 q4_5_0 hm_5_0; exfalso; omega
    | succ n ih_5_0 =>
      intro p5_0 p5_1 q0_5_0 q1_5_0 q2_5_0 q3_5_0 q4_5_0 hm_5_0
      refine w_iload gz_151_5 rfl ?_
      refine w_bipush gz_151_7 (by decide) ?_
      refine w_icge (t := 41) gz_151_9 rfl (fun u1 => ?_) (fun u1 => ?_)
      ·
        refine w_iload_n gz_151_41 rfl ?_
        exact w_iret gz_151_42 gm_151 (k0 (p5_0) (by omega) (by omega))
      ·
        refine w_iload_n gz_151_12 rfl ?_
        refine w_aload_n gz_151_13 rfl ?_
        refine w_getX (v := 162) gz_151_14 is_151 rd_10 rfl (by decide) rfl ?_
        refine w_iload_n gz_151_17 rfl ?_
        refine w_iload_n gz_151_18 rfl ?_
        refine w_iload gz_151_19 rfl ?_
        refine w_inS (k := 0) (as := [(0, p5_1), (0, x2), (0, x1)]) (r := [(2, 162), (0, p5_0)]) (ls0 := [(0, x1), (0, x2), (0, p5_1)]) gz_151_21 gm_150 rfl rfl rfl rfl rfl rfl ?_
        refine w_bipush gz_150_0 (by decide) ?_
        refine w_iload_n gz_150_2 rfl ?_
        refine w_imul gz_150_3 ⟨by omega, by omega⟩ ?_
        refine w_bipush gz_150_4 (by decide) ?_
        refine w_iload_n gz_150_6 rfl ?_
        refine w_imul gz_150_7 ⟨by omega, by omega⟩ ?_
        refine w_iadd gz_150_8 ⟨by omega, by omega⟩ ?_
        refine w_iload_n gz_150_9 rfl ?_
        refine w_iadd gz_150_10 ⟨by omega, by omega⟩ ?_
        refine w_iret gz_150_11 gm_150 ?_
        show wp l rho (d + 1) 151 24 [(2, 151), (0, x1), (0, x2), (0, p5_0), (0, p5_1)] [(0, (((60 * x1) + (20 * x2)) + p5_1)), (2, 162), (0, p5_0)] h Q
        refine w_bald gz_151_24 is_162 rd_61 (by omega) (by omega) (fun v3 ev3 pv3 qv3 => ?_)
        refine w_ifeq (t := 32) gz_151_25 rfl (fun u4 => ?_) (fun u4 => ?_)
        ·
          refine w_iconst gz_151_32 (by decide) ?_
          refine w_iadd gz_151_33 ⟨by omega, by omega⟩ ?_
          refine w_istore_n (ls' := [(2, 151), (0, x1), (0, x2), (0, (p5_0 + 0)), (0, p5_1)]) gz_151_34 gm_151 rfl rfl rfl ?_
          refine w_iinc (ls' := [(2, 151), (0, x1), (0, x2), (0, (p5_0 + 0)), (0, (p5_1 + 1))]) gz_151_35 rfl gm_151 rfl rfl rfl ⟨by omega, by omega⟩ ?_
          refine w_goto (t := 5) gz_151_38 rfl ?_
          exact ih_5_0 ((p5_0 + 0)) ((p5_1 + 1)) (by omega) (by omega) (by omega) (by omega) (by omega) (by omega)
        ·
          refine w_iconst gz_151_28 (by decide) ?_
          refine w_goto (t := 33) gz_151_29 rfl ?_
          refine w_iadd gz_151_33 ⟨by omega, by omega⟩ ?_
          refine w_istore_n (ls' := [(2, 151), (0, x1), (0, x2), (0, (p5_0 + 1)), (0, p5_1)]) gz_151_34 gm_151 rfl rfl rfl ?_
          refine w_iinc (ls' := [(2, 151), (0, x1), (0, x2), (0, (p5_0 + 1)), (0, (p5_1 + 1))]) gz_151_35 rfl gm_151 rfl rfl rfl ⟨by omega, by omega⟩ ?_
          refine w_goto (t := 5) gz_151_38 rfl ?_
          exact ih_5_0 ((p5_0 + 1)) ((p5_1 + 1)) (by omega) (by omega) (by omega) (by omega) (by omega) (by omega)
  refine w_iconst gz_151_0 (by decide) ?_
  refine w_istore_n (ls' := [(2, 151), (0, x1), (0, x2), (0, 0), (9, 0)]) gz_151_1 gm_151 rfl rfl rfl ?_
  refine w_iconst gz_151_2 (by decide) ?_
  refine w_istore (ls' := [(2, 151), (0, x1), (0, x2), (0, 0), (0, 0)]) gz_151_3 gm_151 rfl rfl rfl ?_
  exact J5_0 21 (0) (0) (by omega) (by omega) (by omega) (by omega) (by omega) (by omega)
theorem c_Model_copies {l : Launch} {rho : Nat → Int32} {d : Nat} {h : my_H} {Q : my_H → my_V → Prop} {x1 x2 : Int} (a1 : 0 ≤ x1) (b1 : x1 ≤ 15) (a2 : 0 ≤ x2) (b2 : x2 ≤ 15) (k0 : ∀ (h' : my_H), my_fr [(61, -1), (62, -1)] h h' → Q h' (9, 0)) : wp l rho d 152 0 [(2, 151), (0, x1), (0, x2), (9, 0)] [] h Q := by
  have J38_0 : ∀ (n : Nat) (p38_0 : Int) (h38_0 : my_H), my_fr [(61, -1), (62, -1)] h h38_0 → 0 ≤ p38_0 → p38_0 ≤ 240 → 241 - p38_0 ≤ (n : Int) → wp l rho d 152 38 [(2, 151), (0, x1), (0, x2), (0, p38_0)] [] h38_0 Q := by
    intro n
    induction n with
    | zero => intro p38_0 h38_0 gh_38_0 q0_38_0 q1_38_0 hm_38_0; exfalso; omega
    | succ n ih_38_0 =>
      intro p38_0 h38_0 gh_38_0 q0_38_0 q1_38_0 hm_38_0
      refine w_iload_n gz_152_38 rfl ?_
      refine w_sipush gz_152_39 (by decide) ?_
      refine w_icge (t := 75) gz_152_42 rfl (fun u1 => ?_) (fun u1 => ?_)
      ·
        exact w_vret gz_152_75 gm_152 (k0 h38_0 (gh_38_0))
      ·
        refine w_aload_n gz_152_45 rfl ?_
        refine w_getX (v := 163) gz_152_46 is_151 rd_10 rfl (by decide) rfl ?_
        refine w_sipush gz_152_49 (by decide) ?_
        refine w_iload_n gz_152_52 rfl ?_
        refine w_imul gz_152_53 ⟨by omega, by omega⟩ ?_
        refine w_iload_n gz_152_54 rfl ?_
        refine w_iadd gz_152_55 ⟨by omega, by omega⟩ ?_
        refine w_aload_n gz_152_56 rfl ?_
        refine w_getX (v := 163) gz_152_57 is_151 rd_10 rfl (by decide) rfl ?_
        refine w_sipush gz_152_60 (by decide) ?_
        refine w_iload_n gz_152_63 rfl ?_
        refine w_imul gz_152_64 ⟨by omega, by omega⟩ ?_
        refine w_iload_n gz_152_65 rfl ?_
        refine w_iadd gz_152_66 ⟨by omega, by omega⟩ ?_
        refine w_iald gz_152_67 is_163 rd_62 (by omega) (by omega) (fun v4 ev4 pv4 qv4 => ?_)
        refine w_iast gz_152_68 is_163 rd_62 (by omega) (by omega) (by omega) (by omega) (fun h5 fh5 => ?_)
        have gh5 : my_fr [(61, -1), (62, -1)] h h5 := my_fr.up gh_38_0 is_163 fh5 rfl
        refine w_iinc (ls' := [(2, 151), (0, x1), (0, x2), (0, (p38_0 + 1))]) gz_152_69 rfl gm_152 rfl rfl rfl ⟨by omega, by omega⟩ ?_
        refine w_goto (t := 38) gz_152_72 rfl ?_
        exact ih_38_0 ((p38_0 + 1)) h5 (gh5) (by omega) (by omega) (by omega)
  have J2_0 : ∀ (n : Nat) (p2_0 : Int) (h2_0 : my_H), my_fr [(61, -1), (62, -1)] h h2_0 → 0 ≤ p2_0 → p2_0 ≤ 60 → 61 - p2_0 ≤ (n : Int) → wp l rho d 152 2 [(2, 151), (0, x1), (0, x2), (0, p2_0)] [] h2_0 Q := by
    intro n
    induction n with
    | zero => intro p2_0 h2_0 gh_2_0 q0_2_0 q1_2_0 hm_2_0; exfalso; omega
    | succ n ih_2_0 =>
      intro p2_0 h2_0 gh_2_0 q0_2_0 q1_2_0 hm_2_0
      refine w_iload_n gz_152_2 rfl ?_
      refine w_bipush gz_152_3 (by decide) ?_
      refine w_icge (t := 36) gz_152_5 rfl (fun u6 => ?_) (fun u6 => ?_)
      ·
        refine w_iconst gz_152_36 (by decide) ?_
        refine w_istore_n (ls' := [(2, 151), (0, x1), (0, x2), (0, 0)]) gz_152_37 gm_152 rfl rfl rfl ?_
        exact J38_0 241 (0) h2_0 (gh_2_0) (by omega) (by omega) (by omega)
      ·
        refine w_aload_n gz_152_8 rfl ?_
        refine w_getX (v := 162) gz_152_9 is_151 rd_10 rfl (by decide) rfl ?_
        refine w_bipush gz_152_12 (by decide) ?_
        refine w_iload_n gz_152_14 rfl ?_
        refine w_imul gz_152_15 ⟨by omega, by omega⟩ ?_
        refine w_iload_n gz_152_16 rfl ?_
        refine w_iadd gz_152_17 ⟨by omega, by omega⟩ ?_
        refine w_aload_n gz_152_18 rfl ?_
        refine w_getX (v := 162) gz_152_19 is_151 rd_10 rfl (by decide) rfl ?_
        refine w_bipush gz_152_22 (by decide) ?_
        refine w_iload_n gz_152_24 rfl ?_
        refine w_imul gz_152_25 ⟨by omega, by omega⟩ ?_
        refine w_iload_n gz_152_26 rfl ?_
        refine w_iadd gz_152_27 ⟨by omega, by omega⟩ ?_
        refine w_bald gz_152_28 is_162 rd_61 (by omega) (by omega) (fun v9 ev9 pv9 qv9 => ?_)
        refine w_bast gz_152_29 is_162 rd_61 (by omega) (by omega) (by omega) (by omega) (fun h10 fh10 => ?_)
        have gh10 : my_fr [(61, -1), (62, -1)] h h10 := my_fr.up gh_2_0 is_162 fh10 rfl
        refine w_iinc (ls' := [(2, 151), (0, x1), (0, x2), (0, (p2_0 + 1))]) gz_152_30 rfl gm_152 rfl rfl rfl ⟨by omega, by omega⟩ ?_
        refine w_goto (t := 2) gz_152_33 rfl ?_
        exact ih_2_0 ((p2_0 + 1)) h10 (gh10) (by omega) (by omega) (by omega)
  refine w_iconst gz_152_0 (by decide) ?_
  refine w_istore_n (ls' := [(2, 151), (0, x1), (0, x2), (0, 0)]) gz_152_1 gm_152 rfl rfl rfl ?_
  exact J2_0 61 (0) h (my_fr.rf) (by omega) (by omega) (by omega)
theorem c_Model_lays {l : Launch} {rho : Nat → Int32} {d : Nat} {h : my_H} {Q : my_H → my_V → Prop} {x1 x2 x3 x4 x5 x6 : Int} (a1 : 0 ≤ x1) (b1 : x1 ≤ 15) (a2 : 0 ≤ x2) (b2 : x2 ≤ 2) (a3 : 0 ≤ x3) (b3 : x3 ≤ 19) (a4 : 0 ≤ x4) (b4 : x4 ≤ 19) (a5 : 0 ≤ x5) (b5 : x5 ≤ 19) (a6 : 0 ≤ x6) (b6 : x6 ≤ 19) (k0 : ∀ (h' : my_H), my_fr [(61, -1), (62, -1)] h h' → Q h' (9, 0)) : wp l rho (d + 1) 153 0 [(2, 151), (0, x1), (0, x2), (0, x3), (0, x4), (0, x5), (0, x6), (9, 0)] [] h Q := by
  refine w_iload_n gz_153_0 rfl ?_
  refine w_iload_n gz_153_1 rfl ?_
  refine w_iload_n gz_153_2 rfl ?_
  refine w_inS (k := 0) (as := [(0, x3), (0, x2), (0, x1)]) (r := []) (ls0 := [(0, x1), (0, x2), (0, x3)]) gz_153_3 gm_150 rfl rfl rfl rfl rfl rfl ?_
  refine w_bipush gz_150_0 (by decide) ?_
  refine w_iload_n gz_150_2 rfl ?_
  refine w_imul gz_150_3 ⟨by omega, by omega⟩ ?_
  refine w_bipush gz_150_4 (by decide) ?_
  refine w_iload_n gz_150_6 rfl ?_
  refine w_imul gz_150_7 ⟨by omega, by omega⟩ ?_
  refine w_iadd gz_150_8 ⟨by omega, by omega⟩ ?_
  refine w_iload_n gz_150_9 rfl ?_
  refine w_iadd gz_150_10 ⟨by omega, by omega⟩ ?_
  refine w_iret gz_150_11 gm_150 ?_
  show wp l rho (d + 1) 153 6 [(2, 151), (0, x1), (0, x2), (0, x3), (0, x4), (0, x5), (0, x6), (9, 0)] [(0, (((60 * x1) + (20 * x2)) + x3))] h Q
  refine w_istore (ls' := [(2, 151), (0, x1), (0, x2), (0, x3), (0, x4), (0, x5), (0, x6), (0, (((60 * x1) + (20 * x2)) + x3))]) gz_153_6 gm_153 rfl rfl rfl ?_
  refine w_aload_n gz_153_8 rfl ?_
  refine w_getX (v := 162) gz_153_9 is_151 rd_10 rfl (by decide) rfl ?_
  refine w_iload gz_153_12 rfl ?_
  refine w_iconst gz_153_14 (by decide) ?_
  refine w_bast gz_153_15 is_162 rd_61 (by omega) (by omega) (by omega) (by omega) (fun h2 fh2 => ?_)
  have gh2 : my_fr [(61, -1), (62, -1)] h h2 := my_fr.up my_fr.rf is_162 fh2 rfl
  refine w_aload_n gz_153_16 rfl ?_
  refine w_getX (v := 163) gz_153_17 is_151 rd_10 rfl (by decide) rfl ?_
  refine w_iconst gz_153_20 (by decide) ?_
  refine w_iload gz_153_21 rfl ?_
  refine w_imul gz_153_23 ⟨by omega, by omega⟩ ?_
  refine w_iload_n gz_153_24 rfl ?_
  refine w_iast gz_153_25 is_163 rd_62 (by omega) (by omega) (by omega) (by omega) (fun h4 fh4 => ?_)
  have gh4 : my_fr [(61, -1), (62, -1)] h h4 := my_fr.up gh2 is_163 fh4 rfl
  refine w_aload_n gz_153_26 rfl ?_
  refine w_getX (v := 163) gz_153_27 is_151 rd_10 rfl (by decide) rfl ?_
  refine w_iconst gz_153_30 (by decide) ?_
  refine w_iload gz_153_31 rfl ?_
  refine w_imul gz_153_33 ⟨by omega, by omega⟩ ?_
  refine w_iconst gz_153_34 (by decide) ?_
  refine w_iadd gz_153_35 ⟨by omega, by omega⟩ ?_
  refine w_iload gz_153_36 rfl ?_
  refine w_iast gz_153_38 is_163 rd_62 (by omega) (by omega) (by omega) (by omega) (fun h6 fh6 => ?_)
  have gh6 : my_fr [(61, -1), (62, -1)] h h6 := my_fr.up gh4 is_163 fh6 rfl
  refine w_aload_n gz_153_39 rfl ?_
  refine w_getX (v := 163) gz_153_40 is_151 rd_10 rfl (by decide) rfl ?_
  refine w_iconst gz_153_43 (by decide) ?_
  refine w_iload gz_153_44 rfl ?_
  refine w_imul gz_153_46 ⟨by omega, by omega⟩ ?_
  refine w_iconst gz_153_47 (by decide) ?_
  refine w_iadd gz_153_48 ⟨by omega, by omega⟩ ?_
  refine w_iload gz_153_49 rfl ?_
  refine w_iast gz_153_51 is_163 rd_62 (by omega) (by omega) (by omega) (by omega) (fun h8 fh8 => ?_)
  have gh8 : my_fr [(61, -1), (62, -1)] h h8 := my_fr.up gh6 is_163 fh8 rfl
  refine w_aload_n gz_153_52 rfl ?_
  refine w_getX (v := 163) gz_153_53 is_151 rd_10 rfl (by decide) rfl ?_
  refine w_iconst gz_153_56 (by decide) ?_
  refine w_iload gz_153_57 rfl ?_
  refine w_imul gz_153_59 ⟨by omega, by omega⟩ ?_
  refine w_iconst gz_153_60 (by decide) ?_
  refine w_iadd gz_153_61 ⟨by omega, by omega⟩ ?_
  refine w_iload gz_153_62 rfl ?_
  refine w_iast gz_153_64 is_163 rd_62 (by omega) (by omega) (by omega) (by omega) (fun h10 fh10 => ?_)
  have gh10 : my_fr [(61, -1), (62, -1)] h h10 := my_fr.up gh8 is_163 fh10 rfl
  exact w_vret gz_153_65 gm_153 (k0 h10 (gh10))
theorem c_Model_isLawfulRow {l : Launch} {rho : Nat → Int32} {d : Nat} {h : my_H} {Q : my_H → my_V → Prop} {x1 x2 x3 : Int} (a1 : 0 ≤ x1) (b1 : x1 ≤ 15) (a2 : 0 ≤ x2) (b2 : x2 ≤ 2) (a3 : 0 ≤ x3) (b3 : x3 ≤ 19) (k0 : Q h (0, 0)) (k1 : Q h (0, 1)) : wp l rho (d + 2) 156 0 [(2, 151), (0, x1), (0, x2), (0, x3), (9, 0), (9, 0), (9, 0), (9, 0)] [] h Q := by
  have J3_0 : ∀ (n : Nat) (p3_0 : Int), 0 ≤ p3_0 → p3_0 ≤ 4 → 5 - p3_0 ≤ (n : Int) → wp l rho (d + 2) 156 3 [(2, 151), (0, x1), (0, x2), (0, x3), (0, p3_0), (9, 0), (9, 0), (9, 0)] [] h Q := by
    intro n
    induction n with
    | zero => intro p3_0 q0_3_0 q1_3_0 hm_3_0; exfalso; omega
    | succ n ih_3_0 =>
      intro p3_0 q0_3_0 q1_3_0 hm_3_0
      have J145_0 : ∀ (p145_0 p145_1 p145_2 : Int), p3_0 ≤ 3 → 0 ≤ p145_0 → p145_0 ≤ 19 → 0 ≤ p145_1 → p145_1 ≤ 11 → 0 ≤ p145_2 → p145_2 ≤ 19 → p145_2 ≤ x3 → wp l rho (d + 2) 156 145 [(2, 151), (0, x1), (0, x2), (0, x3), (0, p3_0), (0, p145_0), (0, p145_1), (0, p145_2)] [] h Q := by
        intro p145_0 p145_1 p145_2 q0_145_0 q1_145_0 q2_145_0 q3_145_0 q4_145_0 q5_145_0 q6_145_0 q7_145_0
        refine w_iinc (ls' := [(2, 151), (0, x1), (0, x2), (0, x3), (0, (p3_0 + 1)), (0, p145_0), (0, p145_1), (0, p145_2)]) gz_156_145 rfl gm_156 rfl rfl rfl ⟨by omega, by omega⟩ ?_
        refine w_goto (t := 3) gz_156_148 rfl ?_
        refine w_weak (ls' := [(2, 151), (0, x1), (0, x2), (0, x3), (0, (p3_0 + 1)), (9, 0), (9, 0), (9, 0)]) (wk_e (wk_e (wk_e (wk_e (wk_e (wk_9 (wk_9 (wk_9 wk_n)))))))) ?_
        exact ih_3_0 ((p3_0 + 1)) (by omega) (by omega) (by omega)
      have J91_0 : ∀ (n : Nat) (p91_0 p91_1 p91_2 : Int), p3_0 ≤ 3 → 0 ≤ p91_0 → p91_0 ≤ 19 → 0 ≤ p91_1 → p91_1 ≤ 11 → 0 ≤ p91_2 → p91_2 ≤ 19 → p91_2 ≤ x3 → 20 - p91_2 ≤ (n : Int) → wp l rho (d + 2) 156 91 [(2, 151), (0, x1), (0, x2), (0, x3), (0, p3_0), (0, p91_0), (0, p91_1), (0, p91_2)] [] h Q := by
        intro n
        induction n with
        | zero => intro p91_0 p91_1 p91_2 q0_91_0 q1_91_0 q2_91_0 q3_91_0 q4_91_0 q5_91_0 q6_91_0 q7_91_0 hm_91_0; exfalso; omega
        | succ n ih_91_0 =>
          intro p91_0 p91_1 p91_2 q0_91_0 q1_91_0 q2_91_0 q3_91_0 q4_91_0 q5_91_0 q6_91_0 q7_91_0 hm_91_0
          have J139_0 : 1 ≤ x3 → p91_2 ≤ 18 → p91_2 ≤ (x3 - 1) → wp l rho (d + 2) 156 139 [(2, 151), (0, x1), (0, x2), (0, x3), (0, p3_0), (0, p91_0), (0, p91_1), (0, p91_2)] [] h Q := by
            intro q0_139_0 q1_139_0 q2_139_0
            refine w_iinc (ls' := [(2, 151), (0, x1), (0, x2), (0, x3), (0, p3_0), (0, p91_0), (0, p91_1), (0, (p91_2 + 1))]) gz_156_139 rfl gm_156 rfl rfl rfl ⟨by omega, by omega⟩ ?_
            refine w_goto (t := 91) gz_156_142 rfl ?_
            exact ih_91_0 (p91_0) (p91_1) ((p91_2 + 1)) (by omega) (by omega) (by omega) (by omega) (by omega) (by omega) (by omega) (by omega) (by omega)
          refine w_iload gz_156_91 rfl ?_
          refine w_iload_n gz_156_93 rfl ?_
          refine w_icge (t := 145) gz_156_94 rfl (fun u1 => ?_) (fun u1 => ?_)
          ·
            exact J145_0 (p91_0) (p91_1) (p91_2) (by omega) (by omega) (by omega) (by omega) (by omega) (by omega) (by omega) (by omega)
          ·
            refine w_aload_n gz_156_97 rfl ?_
            refine w_getX (v := 161) gz_156_98 is_151 rd_10 rfl (by decide) rfl ?_
            refine w_iload gz_156_101 rfl ?_
            refine w_bald gz_156_103 is_161 rd_60 (by omega) (by omega) (fun v3 ev3 pv3 qv3 => ?_)
            refine w_ifeq (t := 145) gz_156_104 rfl (fun u4 => ?_) (fun u4 => ?_)
            ·
              exact J145_0 (p91_0) (p91_1) (p91_2) (by omega) (by omega) (by omega) (by omega) (by omega) (by omega) (by omega) (by omega)
            ·
              refine w_aload_n gz_156_107 rfl ?_
              refine w_getX (v := 162) gz_156_108 is_151 rd_10 rfl (by decide) rfl ?_
              refine w_iload_n gz_156_111 rfl ?_
              refine w_iload_n gz_156_112 rfl ?_
              refine w_iload gz_156_113 rfl ?_
              refine w_inS (k := 0) (as := [(0, p91_2), (0, x2), (0, x1)]) (r := [(2, 162)]) (ls0 := [(0, x1), (0, x2), (0, p91_2)]) gz_156_115 gm_150 rfl rfl rfl rfl rfl rfl ?_
              refine w_bipush gz_150_0 (by decide) ?_
              refine w_iload_n gz_150_2 rfl ?_
              refine w_imul gz_150_3 ⟨by omega, by omega⟩ ?_
              refine w_bipush gz_150_4 (by decide) ?_
              refine w_iload_n gz_150_6 rfl ?_
              refine w_imul gz_150_7 ⟨by omega, by omega⟩ ?_
              refine w_iadd gz_150_8 ⟨by omega, by omega⟩ ?_
              refine w_iload_n gz_150_9 rfl ?_
              refine w_iadd gz_150_10 ⟨by omega, by omega⟩ ?_
              refine w_iret gz_150_11 gm_150 ?_
              show wp l rho (d + 2) 156 118 [(2, 151), (0, x1), (0, x2), (0, x3), (0, p3_0), (0, p91_0), (0, p91_1), (0, p91_2)] [(0, (((60 * x1) + (20 * x2)) + p91_2)), (2, 162)] h Q
              refine w_bald gz_156_118 is_162 rd_61 (by omega) (by omega) (fun v6 ev6 pv6 qv6 => ?_)
              refine w_ifeq (t := 139) gz_156_119 rfl (fun u7 => ?_) (fun u7 => ?_)
              ·
                exact J139_0 (by omega) (by omega) (by omega)
              ·
                refine w_aload_n gz_156_122 rfl ?_
                refine w_iload_n gz_156_123 rfl ?_
                refine w_iload_n gz_156_124 rfl ?_
                refine w_iload gz_156_125 rfl ?_
                refine w_iload gz_156_127 rfl ?_
                refine w_inv (k := 0) (as := [(0, p3_0), (0, p91_2), (0, x2), (0, x1)]) (r := []) (x := 151) (ls0 := [(2, 151), (0, x1), (0, x2), (0, p91_2), (0, p3_0)]) gz_156_129 gm_157 rfl is_151 rd_10 rfl rfl rfl rfl rfl ?_
                refine w_aload_n gz_157_0 rfl ?_
                refine w_getX (v := 163) gz_157_1 is_151 rd_10 rfl (by decide) rfl ?_
                refine w_iconst gz_157_4 (by decide) ?_
                refine w_iload_n gz_157_5 rfl ?_
                refine w_iload_n gz_157_6 rfl ?_
                refine w_iload_n gz_157_7 rfl ?_
                refine w_inS (k := 0) (as := [(0, p91_2), (0, x2), (0, x1)]) (r := [(0, 4), (2, 163)]) (ls0 := [(0, x1), (0, x2), (0, p91_2)]) gz_157_8 gm_150 rfl rfl rfl rfl rfl rfl ?_
                refine w_bipush gz_150_0 (by decide) ?_
                refine w_iload_n gz_150_2 rfl ?_
                refine w_imul gz_150_3 ⟨by omega, by omega⟩ ?_
                refine w_bipush gz_150_4 (by decide) ?_
                refine w_iload_n gz_150_6 rfl ?_
                refine w_imul gz_150_7 ⟨by omega, by omega⟩ ?_
                refine w_iadd gz_150_8 ⟨by omega, by omega⟩ ?_
                refine w_iload_n gz_150_9 rfl ?_
                refine w_iadd gz_150_10 ⟨by omega, by omega⟩ ?_
                refine w_iret gz_150_11 gm_150 ?_
                show wp l rho (d + 1) 157 11 [(2, 151), (0, x1), (0, x2), (0, p91_2), (0, p3_0)] [(0, (((60 * x1) + (20 * x2)) + p91_2)), (0, 4), (2, 163)] h _
                refine w_imul gz_157_11 ⟨by omega, by omega⟩ ?_
                refine w_iload gz_157_12 rfl ?_
                refine w_iadd gz_157_14 ⟨by omega, by omega⟩ ?_
                refine w_iald gz_157_15 is_163 rd_62 (by omega) (by omega) (fun v9 ev9 pv9 qv9 => ?_)
                refine w_iret gz_157_16 gm_157 ?_
                show wp l rho (d + 2) 156 132 [(2, 151), (0, x1), (0, x2), (0, x3), (0, p3_0), (0, p91_0), (0, p91_1), (0, p91_2)] [(0, v9)] h Q
                refine w_iload gz_156_132 rfl ?_
                refine w_icne (t := 139) gz_156_134 rfl (fun u10 => ?_) (fun u10 => ?_)
                ·
                  exact J139_0 (by omega) (by omega) (by omega)
                ·
                  refine w_iconst gz_156_137 (by decide) ?_
                  exact w_bret gz_156_138 gm_156 (by omega) (by omega) (k0 )
      have J88_0 : ∀ (p88_0 p88_1 : Int), p3_0 ≤ 3 → 0 ≤ p88_0 → p88_0 ≤ 19 → 0 ≤ p88_1 → p88_1 ≤ 11 → wp l rho (d + 2) 156 88 [(2, 151), (0, x1), (0, x2), (0, x3), (0, p3_0), (0, p88_0), (0, p88_1), (9, 0)] [] h Q := by
        intro p88_0 p88_1 q0_88_0 q1_88_0 q2_88_0 q3_88_0 q4_88_0
        refine w_iconst gz_156_88 (by decide) ?_
        refine w_istore (ls' := [(2, 151), (0, x1), (0, x2), (0, x3), (0, p3_0), (0, p88_0), (0, p88_1), (0, 0)]) gz_156_89 gm_156 rfl rfl rfl ?_
        exact J91_0 20 (p88_0) (p88_1) (0) (by omega) (by omega) (by omega) (by omega) (by omega) (by omega) (by omega) (by omega) (by omega)
      refine w_iload gz_156_3 rfl ?_
      refine w_aload_n gz_156_5 rfl ?_
      refine w_getX (v := 157) gz_156_6 is_151 rd_10 rfl (by decide) rfl ?_
      refine w_iload_n gz_156_9 rfl ?_
      refine w_iald gz_156_10 is_157 rd_56 (by omega) (by omega) (fun v12 ev12 pv12 qv12 => ?_)
      refine w_icge (t := 151) gz_156_11 rfl (fun u13 => ?_) (fun u13 => ?_)
      ·
        refine w_iconst gz_156_151 (by decide) ?_
        exact w_bret gz_156_152 gm_156 (by omega) (by omega) (k1 )
      ·
        refine w_aload_n gz_156_14 rfl ?_
        refine w_iload_n gz_156_15 rfl ?_
        refine w_iload_n gz_156_16 rfl ?_
        refine w_iload_n gz_156_17 rfl ?_
        refine w_iload gz_156_18 rfl ?_
        refine w_inv (k := 0) (as := [(0, p3_0), (0, x3), (0, x2), (0, x1)]) (r := []) (x := 151) (ls0 := [(2, 151), (0, x1), (0, x2), (0, x3), (0, p3_0)]) gz_156_20 gm_157 rfl is_151 rd_10 rfl rfl rfl rfl rfl ?_
        refine w_aload_n gz_157_0 rfl ?_
        refine w_getX (v := 163) gz_157_1 is_151 rd_10 rfl (by decide) rfl ?_
        refine w_iconst gz_157_4 (by decide) ?_
        refine w_iload_n gz_157_5 rfl ?_
        refine w_iload_n gz_157_6 rfl ?_
        refine w_iload_n gz_157_7 rfl ?_
        refine w_inS (k := 0) (as := [(0, x3), (0, x2), (0, x1)]) (r := [(0, 4), (2, 163)]) (ls0 := [(0, x1), (0, x2), (0, x3)]) gz_157_8 gm_150 rfl rfl rfl rfl rfl rfl ?_
        refine w_bipush gz_150_0 (by decide) ?_
        refine w_iload_n gz_150_2 rfl ?_
        refine w_imul gz_150_3 ⟨by omega, by omega⟩ ?_
        refine w_bipush gz_150_4 (by decide) ?_
        refine w_iload_n gz_150_6 rfl ?_
        refine w_imul gz_150_7 ⟨by omega, by omega⟩ ?_
        refine w_iadd gz_150_8 ⟨by omega, by omega⟩ ?_
        refine w_iload_n gz_150_9 rfl ?_
        refine w_iadd gz_150_10 ⟨by omega, by omega⟩ ?_
        refine w_iret gz_150_11 gm_150 ?_
        show wp l rho (d + 1) 157 11 [(2, 151), (0, x1), (0, x2), (0, x3), (0, p3_0)] [(0, (((60 * x1) + (20 * x2)) + x3)), (0, 4), (2, 163)] h _
        refine w_imul gz_157_11 ⟨by omega, by omega⟩ ?_
        refine w_iload gz_157_12 rfl ?_
        refine w_iadd gz_157_14 ⟨by omega, by omega⟩ ?_
        refine w_iald gz_157_15 is_163 rd_62 (by omega) (by omega) (fun v15 ev15 pv15 qv15 => ?_)
        refine w_iret gz_157_16 gm_157 ?_
        show wp l rho (d + 2) 156 23 [(2, 151), (0, x1), (0, x2), (0, x3), (0, p3_0), (9, 0), (9, 0), (9, 0)] [(0, v15)] h Q
        refine w_istore (ls' := [(2, 151), (0, x1), (0, x2), (0, x3), (0, p3_0), (0, v15), (9, 0), (9, 0)]) gz_156_23 gm_156 rfl rfl rfl ?_
        refine w_iconst gz_156_25 (by decide) ?_
        refine w_iload_n gz_156_26 rfl ?_
        refine w_imul gz_156_27 ⟨by omega, by omega⟩ ?_
        refine w_iload gz_156_28 rfl ?_
        refine w_iadd gz_156_30 ⟨by omega, by omega⟩ ?_
        refine w_istore (ls' := [(2, 151), (0, x1), (0, x2), (0, x3), (0, p3_0), (0, v15), (0, ((4 * x2) + p3_0)), (9, 0)]) gz_156_31 gm_156 rfl rfl rfl ?_
        refine w_iload gz_156_33 rfl ?_
        refine w_aload_n gz_156_35 rfl ?_
        refine w_getX (v := 158) gz_156_36 is_151 rd_10 rfl (by decide) rfl ?_
        refine w_iload gz_156_39 rfl ?_
        refine w_iald gz_156_41 is_158 rd_57 (by omega) (by omega) (fun v17 ev17 pv17 qv17 => ?_)
        refine w_aload_n gz_156_42 rfl ?_
        refine w_getX (v := 159) gz_156_43 is_151 rd_10 rfl (by decide) rfl ?_
        refine w_iload gz_156_46 rfl ?_
        refine w_iald gz_156_48 is_159 rd_58 (by omega) (by omega) (fun v19 ev19 pv19 qv19 => ?_)
        refine w_inS (k := 0) (as := [(0, v19), (0, v17), (0, v15)]) (r := []) (ls0 := [(0, v15), (0, v17), (0, v19)]) gz_156_49 gm_147 rfl rfl rfl rfl rfl rfl ?_
        refine w_iload_n gz_147_0 rfl ?_
        refine w_iload_n gz_147_1 rfl ?_
        refine w_iclt (t := 14) gz_147_2 rfl (fun u20 => ?_) (fun u20 => ?_)
        ·
          refine w_iconst gz_147_14 (by decide) ?_
          refine w_bret gz_147_15 gm_147 (by omega) (by omega) ?_
          show wp l rho (d + 2) 156 52 [(2, 151), (0, x1), (0, x2), (0, x3), (0, p3_0), (0, v15), (0, ((4 * x2) + p3_0)), (9, 0)] [(0, 0)] h Q
          refine w_ifeq (t := 86) gz_156_52 rfl (fun u21 => ?_) (fun u21 => by exfalso; omega)
          refine w_iconst gz_156_86 (by decide) ?_
          exact w_bret gz_156_87 gm_156 (by omega) (by omega) (k0 )
        ·
          refine w_iload_n gz_147_5 rfl ?_
          refine w_iload_n gz_147_6 rfl ?_
          refine w_icgt (t := 14) gz_147_7 rfl (fun u22 => ?_) (fun u22 => ?_)
          ·
            refine w_iconst gz_147_14 (by decide) ?_
            refine w_bret gz_147_15 gm_147 (by omega) (by omega) ?_
            show wp l rho (d + 2) 156 52 [(2, 151), (0, x1), (0, x2), (0, x3), (0, p3_0), (0, v15), (0, ((4 * x2) + p3_0)), (9, 0)] [(0, 0)] h Q
            refine w_ifeq (t := 86) gz_156_52 rfl (fun u23 => ?_) (fun u23 => by exfalso; omega)
            refine w_iconst gz_156_86 (by decide) ?_
            exact w_bret gz_156_87 gm_156 (by omega) (by omega) (k0 )
          ·
            refine w_iconst gz_147_10 (by decide) ?_
            refine w_goto (t := 15) gz_147_11 rfl ?_
            refine w_bret gz_147_15 gm_147 (by omega) (by omega) ?_
            show wp l rho (d + 2) 156 52 [(2, 151), (0, x1), (0, x2), (0, x3), (0, p3_0), (0, v15), (0, ((4 * x2) + p3_0)), (9, 0)] [(0, 1)] h Q
            refine w_ifeq (t := 86) gz_156_52 rfl (fun u24 => by exfalso; omega) (fun u24 => ?_)
            refine w_aload_n gz_156_55 rfl ?_
            refine w_getX (v := 160) gz_156_56 is_151 rd_10 rfl (by decide) rfl ?_
            refine w_iload gz_156_59 rfl ?_
            refine w_iald gz_156_61 is_160 rd_59 (by omega) (by omega) (fun v26 ev26 pv26 qv26 => ?_)
            refine w_iflt (t := 88) gz_156_62 rfl (fun u27 => ?_) (fun u27 => ?_)
            ·
              exact J88_0 (v15) (((4 * x2) + p3_0)) (by omega) (by omega) (by omega) (by omega) (by omega)
            ·
              refine w_aload_n gz_156_65 rfl ?_
              refine w_getX (v := 162) gz_156_66 is_151 rd_10 rfl (by decide) rfl ?_
              refine w_iload_n gz_156_69 rfl ?_
              refine w_aload_n gz_156_70 rfl ?_
              refine w_getX (v := 160) gz_156_71 is_151 rd_10 rfl (by decide) rfl ?_
              refine w_iload gz_156_74 rfl ?_
              refine w_iald gz_156_76 is_160 rd_59 (by omega) (by omega) (fun v30 ev30 pv30 qv30 => ?_)
              have zv30 := ev30.trans ev26.symm
              refine w_iload gz_156_77 rfl ?_
              refine w_inS (k := 0) (as := [(0, v15), (0, v30), (0, x1)]) (r := [(2, 162)]) (ls0 := [(0, x1), (0, v30), (0, v15)]) gz_156_79 gm_150 rfl rfl rfl rfl rfl rfl ?_
              refine w_bipush gz_150_0 (by decide) ?_
              refine w_iload_n gz_150_2 rfl ?_
              refine w_imul gz_150_3 ⟨by omega, by omega⟩ ?_
              refine w_bipush gz_150_4 (by decide) ?_
              refine w_iload_n gz_150_6 rfl ?_
              refine w_imul gz_150_7 ⟨by omega, by omega⟩ ?_
              refine w_iadd gz_150_8 ⟨by omega, by omega⟩ ?_
              refine w_iload_n gz_150_9 rfl ?_
              refine w_iadd gz_150_10 ⟨by omega, by omega⟩ ?_
              refine w_iret gz_150_11 gm_150 ?_
              show wp l rho (d + 2) 156 82 [(2, 151), (0, x1), (0, x2), (0, x3), (0, p3_0), (0, v15), (0, ((4 * x2) + p3_0)), (9, 0)] [(0, (((60 * x1) + (20 * v30)) + v15)), (2, 162)] h Q
              refine w_bald gz_156_82 is_162 rd_61 (by omega) (by omega) (fun v31 ev31 pv31 qv31 => ?_)
              refine w_ifne (t := 88) gz_156_83 rfl (fun u32 => ?_) (fun u32 => ?_)
              ·
                exact J88_0 (v15) (((4 * x2) + p3_0)) (by omega) (by omega) (by omega) (by omega) (by omega)
              ·
                refine w_iconst gz_156_86 (by decide) ?_
                exact w_bret gz_156_87 gm_156 (by omega) (by omega) (k0 )
  refine w_iconst gz_156_0 (by decide) ?_
  refine w_istore (ls' := [(2, 151), (0, x1), (0, x2), (0, x3), (0, 0), (9, 0), (9, 0), (9, 0)]) gz_156_1 gm_156 rfl rfl rfl ?_
  exact J3_0 5 (0) (by omega) (by omega) (by omega)
theorem c_Model_isRow {l : Launch} {rho : Nat → Int32} {d : Nat} {h : my_H} {Q : my_H → my_V → Prop} {x1 x2 : Int} (k0 : Q h (0, 0)) (k1 : 0 ≤ x1 → x1 ≤ 2 → 0 ≤ x2 → x2 ≤ 19 → Q h (0, 1)) : wp l rho (d + 1) 159 0 [(2, 151), (0, x1), (0, x2)] [] h Q := by
  refine w_aload_n gz_159_0 rfl ?_
  refine w_iload_n gz_159_1 rfl ?_
  refine w_inv (k := 0) (as := [(0, x1)]) (r := []) (x := 151) (ls0 := [(2, 151), (0, x1)]) gz_159_2 gm_149 rfl is_151 rd_10 rfl rfl rfl rfl rfl ?_
  refine w_iload_n gz_149_0 rfl ?_
  refine w_iflt (t := 22) gz_149_1 rfl (fun u1 => ?_) (fun u1 => ?_)
  ·
    refine w_iconst gz_149_22 (by decide) ?_
    refine w_bret gz_149_23 gm_149 (by omega) (by omega) ?_
    show wp l rho (d + 1) 159 5 [(2, 151), (0, x1), (0, x2)] [(0, 0)] h Q
    refine w_ifeq (t := 36) gz_159_5 rfl (fun u2 => ?_) (fun u2 => by exfalso; omega)
    refine w_iconst gz_159_36 (by decide) ?_
    exact w_bret gz_159_37 gm_159 (by omega) (by omega) (k0 )
  ·
    refine w_iload_n gz_149_4 rfl ?_
    refine w_iconst gz_149_5 (by decide) ?_
    refine w_icge (t := 22) gz_149_6 rfl (fun u3 => ?_) (fun u3 => ?_)
    ·
      refine w_iconst gz_149_22 (by decide) ?_
      refine w_bret gz_149_23 gm_149 (by omega) (by omega) ?_
      show wp l rho (d + 1) 159 5 [(2, 151), (0, x1), (0, x2)] [(0, 0)] h Q
      refine w_ifeq (t := 36) gz_159_5 rfl (fun u4 => ?_) (fun u4 => by exfalso; omega)
      refine w_iconst gz_159_36 (by decide) ?_
      exact w_bret gz_159_37 gm_159 (by omega) (by omega) (k0 )
    ·
      refine w_aload_n gz_149_9 rfl ?_
      refine w_getX (v := 157) gz_149_10 is_151 rd_10 rfl (by decide) rfl ?_
      refine w_iload_n gz_149_13 rfl ?_
      refine w_iald gz_149_14 is_157 rd_56 (by omega) (by omega) (fun v6 ev6 pv6 qv6 => ?_)
      refine w_ifle (t := 22) gz_149_15 rfl (fun u7 => ?_) (fun u7 => ?_)
      ·
        refine w_iconst gz_149_22 (by decide) ?_
        refine w_bret gz_149_23 gm_149 (by omega) (by omega) ?_
        show wp l rho (d + 1) 159 5 [(2, 151), (0, x1), (0, x2)] [(0, 0)] h Q
        refine w_ifeq (t := 36) gz_159_5 rfl (fun u8 => ?_) (fun u8 => by exfalso; omega)
        refine w_iconst gz_159_36 (by decide) ?_
        exact w_bret gz_159_37 gm_159 (by omega) (by omega) (k0 )
      ·
        refine w_iconst gz_149_18 (by decide) ?_
        refine w_goto (t := 23) gz_149_19 rfl ?_
        refine w_bret gz_149_23 gm_149 (by omega) (by omega) ?_
        show wp l rho (d + 1) 159 5 [(2, 151), (0, x1), (0, x2)] [(0, 1)] h Q
        refine w_ifeq (t := 36) gz_159_5 rfl (fun u9 => by exfalso; omega) (fun u9 => ?_)
        refine w_iload_n gz_159_8 rfl ?_
        refine w_iconst gz_159_9 (by decide) ?_
        refine w_bipush gz_159_10 (by decide) ?_
        refine w_inS (k := 0) (as := [(0, 19), (0, 0), (0, x2)]) (r := []) (ls0 := [(0, x2), (0, 0), (0, 19)]) gz_159_12 gm_147 rfl rfl rfl rfl rfl rfl ?_
        refine w_iload_n gz_147_0 rfl ?_
        refine w_iload_n gz_147_1 rfl ?_
        refine w_iclt (t := 14) gz_147_2 rfl (fun u10 => ?_) (fun u10 => ?_)
        ·
          refine w_iconst gz_147_14 (by decide) ?_
          refine w_bret gz_147_15 gm_147 (by omega) (by omega) ?_
          show wp l rho (d + 1) 159 15 [(2, 151), (0, x1), (0, x2)] [(0, 0)] h Q
          refine w_ifeq (t := 36) gz_159_15 rfl (fun u11 => ?_) (fun u11 => by exfalso; omega)
          refine w_iconst gz_159_36 (by decide) ?_
          exact w_bret gz_159_37 gm_159 (by omega) (by omega) (k0 )
        ·
          refine w_iload_n gz_147_5 rfl ?_
          refine w_iload_n gz_147_6 rfl ?_
          refine w_icgt (t := 14) gz_147_7 rfl (fun u12 => ?_) (fun u12 => ?_)
          ·
            refine w_iconst gz_147_14 (by decide) ?_
            refine w_bret gz_147_15 gm_147 (by omega) (by omega) ?_
            show wp l rho (d + 1) 159 15 [(2, 151), (0, x1), (0, x2)] [(0, 0)] h Q
            refine w_ifeq (t := 36) gz_159_15 rfl (fun u13 => ?_) (fun u13 => by exfalso; omega)
            refine w_iconst gz_159_36 (by decide) ?_
            exact w_bret gz_159_37 gm_159 (by omega) (by omega) (k0 )
          ·
            refine w_iconst gz_147_10 (by decide) ?_
            refine w_goto (t := 15) gz_147_11 rfl ?_
            refine w_bret gz_147_15 gm_147 (by omega) (by omega) ?_
            show wp l rho (d + 1) 159 15 [(2, 151), (0, x1), (0, x2)] [(0, 1)] h Q
            refine w_ifeq (t := 36) gz_159_15 rfl (fun u14 => by exfalso; omega) (fun u14 => ?_)
            refine w_aload_n gz_159_18 rfl ?_
            refine w_getX (v := 162) gz_159_19 is_151 rd_10 rfl (by decide) rfl ?_
            refine w_iconst gz_159_22 (by decide) ?_
            refine w_iload_n gz_159_23 rfl ?_
            refine w_iload_n gz_159_24 rfl ?_
            refine w_inS (k := 0) (as := [(0, x2), (0, x1), (0, 0)]) (r := [(2, 162)]) (ls0 := [(0, 0), (0, x1), (0, x2)]) gz_159_25 gm_150 rfl rfl rfl rfl rfl rfl ?_
            refine w_bipush gz_150_0 (by decide) ?_
            refine w_iload_n gz_150_2 rfl ?_
            refine w_imul gz_150_3 ⟨by omega, by omega⟩ ?_
            refine w_bipush gz_150_4 (by decide) ?_
            refine w_iload_n gz_150_6 rfl ?_
            refine w_imul gz_150_7 ⟨by omega, by omega⟩ ?_
            refine w_iadd gz_150_8 ⟨by omega, by omega⟩ ?_
            refine w_iload_n gz_150_9 rfl ?_
            refine w_iadd gz_150_10 ⟨by omega, by omega⟩ ?_
            refine w_iret gz_150_11 gm_150 ?_
            show wp l rho (d + 1) 159 28 [(2, 151), (0, x1), (0, x2)] [(0, (((60 * 0) + (20 * x1)) + x2)), (2, 162)] h Q
            refine w_bald gz_159_28 is_162 rd_61 (by omega) (by omega) (fun v16 ev16 pv16 qv16 => ?_)
            refine w_ifeq (t := 36) gz_159_29 rfl (fun u17 => ?_) (fun u17 => ?_)
            ·
              refine w_iconst gz_159_36 (by decide) ?_
              exact w_bret gz_159_37 gm_159 (by omega) (by omega) (k0 )
            ·
              refine w_iconst gz_159_32 (by decide) ?_
              refine w_goto (t := 37) gz_159_33 rfl ?_
              exact w_bret gz_159_37 gm_159 (by omega) (by omega) (k1 (by omega) (by omega) (by omega) (by omega))
theorem c_Model_isSpan {l : Launch} {rho : Nat → Int32} {d : Nat} {h : my_H} {Q : my_H → my_V → Prop} {x1 x2 x3 x4 : Int} (k0 : Q h (0, 0)) (k1 : 0 ≤ x1 → x1 ≤ 2 → 0 ≤ x2 → x2 ≤ 3 → 0 ≤ x3 → x3 ≤ 19 → 0 ≤ x4 → x4 ≤ 19 → Q h (0, 1)) : wp l rho (d + 2) 161 0 [(2, 151), (0, x1), (0, x2), (0, x3), (0, x4)] [] h Q := by
  refine w_aload_n gz_161_0 rfl ?_
  refine w_iload_n gz_161_1 rfl ?_
  refine w_iload_n gz_161_2 rfl ?_
  refine w_inv (k := 0) (as := [(0, x2), (0, x1)]) (r := []) (x := 151) (ls0 := [(2, 151), (0, x1), (0, x2)]) gz_161_3 gm_162 rfl is_151 rd_10 rfl rfl rfl rfl rfl ?_
  refine w_aload_n gz_162_0 rfl ?_
  refine w_iload_n gz_162_1 rfl ?_
  refine w_inv (k := 0) (as := [(0, x1)]) (r := []) (x := 151) (ls0 := [(2, 151), (0, x1)]) gz_162_2 gm_149 rfl is_151 rd_10 rfl rfl rfl rfl rfl ?_
  refine w_iload_n gz_149_0 rfl ?_
  refine w_iflt (t := 22) gz_149_1 rfl (fun u1 => ?_) (fun u1 => ?_)
  ·
    refine w_iconst gz_149_22 (by decide) ?_
    refine w_bret gz_149_23 gm_149 (by omega) (by omega) ?_
    show wp l rho (d + 1) 162 5 [(2, 151), (0, x1), (0, x2)] [(0, 0)] h _
    refine w_ifeq (t := 26) gz_162_5 rfl (fun u2 => ?_) (fun u2 => by exfalso; omega)
    refine w_iconst gz_162_26 (by decide) ?_
    refine w_bret gz_162_27 gm_162 (by omega) (by omega) ?_
    show wp l rho (d + 2) 161 6 [(2, 151), (0, x1), (0, x2), (0, x3), (0, x4)] [(0, 0)] h Q
    refine w_ifeq (t := 34) gz_161_6 rfl (fun u3 => ?_) (fun u3 => by exfalso; omega)
    refine w_iconst gz_161_34 (by decide) ?_
    exact w_bret gz_161_35 gm_161 (by omega) (by omega) (k0 )
  ·
    refine w_iload_n gz_149_4 rfl ?_
    refine w_iconst gz_149_5 (by decide) ?_
    refine w_icge (t := 22) gz_149_6 rfl (fun u4 => ?_) (fun u4 => ?_)
    ·
      refine w_iconst gz_149_22 (by decide) ?_
      refine w_bret gz_149_23 gm_149 (by omega) (by omega) ?_
      show wp l rho (d + 1) 162 5 [(2, 151), (0, x1), (0, x2)] [(0, 0)] h _
      refine w_ifeq (t := 26) gz_162_5 rfl (fun u5 => ?_) (fun u5 => by exfalso; omega)
      refine w_iconst gz_162_26 (by decide) ?_
      refine w_bret gz_162_27 gm_162 (by omega) (by omega) ?_
      show wp l rho (d + 2) 161 6 [(2, 151), (0, x1), (0, x2), (0, x3), (0, x4)] [(0, 0)] h Q
      refine w_ifeq (t := 34) gz_161_6 rfl (fun u6 => ?_) (fun u6 => by exfalso; omega)
      refine w_iconst gz_161_34 (by decide) ?_
      exact w_bret gz_161_35 gm_161 (by omega) (by omega) (k0 )
    ·
      refine w_aload_n gz_149_9 rfl ?_
      refine w_getX (v := 157) gz_149_10 is_151 rd_10 rfl (by decide) rfl ?_
      refine w_iload_n gz_149_13 rfl ?_
      refine w_iald gz_149_14 is_157 rd_56 (by omega) (by omega) (fun v8 ev8 pv8 qv8 => ?_)
      refine w_ifle (t := 22) gz_149_15 rfl (fun u9 => ?_) (fun u9 => ?_)
      ·
        refine w_iconst gz_149_22 (by decide) ?_
        refine w_bret gz_149_23 gm_149 (by omega) (by omega) ?_
        show wp l rho (d + 1) 162 5 [(2, 151), (0, x1), (0, x2)] [(0, 0)] h _
        refine w_ifeq (t := 26) gz_162_5 rfl (fun u10 => ?_) (fun u10 => by exfalso; omega)
        refine w_iconst gz_162_26 (by decide) ?_
        refine w_bret gz_162_27 gm_162 (by omega) (by omega) ?_
        show wp l rho (d + 2) 161 6 [(2, 151), (0, x1), (0, x2), (0, x3), (0, x4)] [(0, 0)] h Q
        refine w_ifeq (t := 34) gz_161_6 rfl (fun u11 => ?_) (fun u11 => by exfalso; omega)
        refine w_iconst gz_161_34 (by decide) ?_
        exact w_bret gz_161_35 gm_161 (by omega) (by omega) (k0 )
      ·
        refine w_iconst gz_149_18 (by decide) ?_
        refine w_goto (t := 23) gz_149_19 rfl ?_
        refine w_bret gz_149_23 gm_149 (by omega) (by omega) ?_
        show wp l rho (d + 1) 162 5 [(2, 151), (0, x1), (0, x2)] [(0, 1)] h _
        refine w_ifeq (t := 26) gz_162_5 rfl (fun u12 => by exfalso; omega) (fun u12 => ?_)
        refine w_iload_n gz_162_8 rfl ?_
        refine w_iflt (t := 26) gz_162_9 rfl (fun u13 => ?_) (fun u13 => ?_)
        ·
          refine w_iconst gz_162_26 (by decide) ?_
          refine w_bret gz_162_27 gm_162 (by omega) (by omega) ?_
          show wp l rho (d + 2) 161 6 [(2, 151), (0, x1), (0, x2), (0, x3), (0, x4)] [(0, 0)] h Q
          refine w_ifeq (t := 34) gz_161_6 rfl (fun u14 => ?_) (fun u14 => by exfalso; omega)
          refine w_iconst gz_161_34 (by decide) ?_
          exact w_bret gz_161_35 gm_161 (by omega) (by omega) (k0 )
        ·
          refine w_iload_n gz_162_12 rfl ?_
          refine w_aload_n gz_162_13 rfl ?_
          refine w_getX (v := 157) gz_162_14 is_151 rd_10 rfl (by decide) rfl ?_
          refine w_iload_n gz_162_17 rfl ?_
          refine w_iald gz_162_18 is_157 rd_56 (by omega) (by omega) (fun v16 ev16 pv16 qv16 => ?_)
          have zv16 := ev16.trans ev8.symm
          refine w_icge (t := 26) gz_162_19 rfl (fun u17 => ?_) (fun u17 => ?_)
          ·
            refine w_iconst gz_162_26 (by decide) ?_
            refine w_bret gz_162_27 gm_162 (by omega) (by omega) ?_
            show wp l rho (d + 2) 161 6 [(2, 151), (0, x1), (0, x2), (0, x3), (0, x4)] [(0, 0)] h Q
            refine w_ifeq (t := 34) gz_161_6 rfl (fun u18 => ?_) (fun u18 => by exfalso; omega)
            refine w_iconst gz_161_34 (by decide) ?_
            exact w_bret gz_161_35 gm_161 (by omega) (by omega) (k0 )
          ·
            refine w_iconst gz_162_22 (by decide) ?_
            refine w_goto (t := 27) gz_162_23 rfl ?_
            refine w_bret gz_162_27 gm_162 (by omega) (by omega) ?_
            show wp l rho (d + 2) 161 6 [(2, 151), (0, x1), (0, x2), (0, x3), (0, x4)] [(0, 1)] h Q
            refine w_ifeq (t := 34) gz_161_6 rfl (fun u19 => by exfalso; omega) (fun u19 => ?_)
            refine w_iload_n gz_161_9 rfl ?_
            refine w_iconst gz_161_10 (by decide) ?_
            refine w_bipush gz_161_11 (by decide) ?_
            refine w_inS (k := 0) (as := [(0, 19), (0, 0), (0, x3)]) (r := []) (ls0 := [(0, x3), (0, 0), (0, 19)]) gz_161_13 gm_147 rfl rfl rfl rfl rfl rfl ?_
            refine w_iload_n gz_147_0 rfl ?_
            refine w_iload_n gz_147_1 rfl ?_
            refine w_iclt (t := 14) gz_147_2 rfl (fun u20 => ?_) (fun u20 => ?_)
            ·
              refine w_iconst gz_147_14 (by decide) ?_
              refine w_bret gz_147_15 gm_147 (by omega) (by omega) ?_
              show wp l rho (d + 2) 161 16 [(2, 151), (0, x1), (0, x2), (0, x3), (0, x4)] [(0, 0)] h Q
              refine w_ifeq (t := 34) gz_161_16 rfl (fun u21 => ?_) (fun u21 => by exfalso; omega)
              refine w_iconst gz_161_34 (by decide) ?_
              exact w_bret gz_161_35 gm_161 (by omega) (by omega) (k0 )
            ·
              refine w_iload_n gz_147_5 rfl ?_
              refine w_iload_n gz_147_6 rfl ?_
              refine w_icgt (t := 14) gz_147_7 rfl (fun u22 => ?_) (fun u22 => ?_)
              ·
                refine w_iconst gz_147_14 (by decide) ?_
                refine w_bret gz_147_15 gm_147 (by omega) (by omega) ?_
                show wp l rho (d + 2) 161 16 [(2, 151), (0, x1), (0, x2), (0, x3), (0, x4)] [(0, 0)] h Q
                refine w_ifeq (t := 34) gz_161_16 rfl (fun u23 => ?_) (fun u23 => by exfalso; omega)
                refine w_iconst gz_161_34 (by decide) ?_
                exact w_bret gz_161_35 gm_161 (by omega) (by omega) (k0 )
              ·
                refine w_iconst gz_147_10 (by decide) ?_
                refine w_goto (t := 15) gz_147_11 rfl ?_
                refine w_bret gz_147_15 gm_147 (by omega) (by omega) ?_
                show wp l rho (d + 2) 161 16 [(2, 151), (0, x1), (0, x2), (0, x3), (0, x4)] [(0, 1)] h Q
                refine w_ifeq (t := 34) gz_161_16 rfl (fun u24 => by exfalso; omega) (fun u24 => ?_)
                refine w_iload gz_161_19 rfl ?_
                refine w_iload_n gz_161_21 rfl ?_
                refine w_bipush gz_161_22 (by decide) ?_
                refine w_inS (k := 0) (as := [(0, 19), (0, x3), (0, x4)]) (r := []) (ls0 := [(0, x4), (0, x3), (0, 19)]) gz_161_24 gm_147 rfl rfl rfl rfl rfl rfl ?_
                refine w_iload_n gz_147_0 rfl ?_
                refine w_iload_n gz_147_1 rfl ?_
                refine w_iclt (t := 14) gz_147_2 rfl (fun u25 => ?_) (fun u25 => ?_)
                ·
                  refine w_iconst gz_147_14 (by decide) ?_
                  refine w_bret gz_147_15 gm_147 (by omega) (by omega) ?_
                  show wp l rho (d + 2) 161 27 [(2, 151), (0, x1), (0, x2), (0, x3), (0, x4)] [(0, 0)] h Q
                  refine w_ifeq (t := 34) gz_161_27 rfl (fun u26 => ?_) (fun u26 => by exfalso; omega)
                  refine w_iconst gz_161_34 (by decide) ?_
                  exact w_bret gz_161_35 gm_161 (by omega) (by omega) (k0 )
                ·
                  refine w_iload_n gz_147_5 rfl ?_
                  refine w_iload_n gz_147_6 rfl ?_
                  refine w_icgt (t := 14) gz_147_7 rfl (fun u27 => ?_) (fun u27 => ?_)
                  ·
                    refine w_iconst gz_147_14 (by decide) ?_
                    refine w_bret gz_147_15 gm_147 (by omega) (by omega) ?_
                    show wp l rho (d + 2) 161 27 [(2, 151), (0, x1), (0, x2), (0, x3), (0, x4)] [(0, 0)] h Q
                    refine w_ifeq (t := 34) gz_161_27 rfl (fun u28 => ?_) (fun u28 => by exfalso; omega)
                    refine w_iconst gz_161_34 (by decide) ?_
                    exact w_bret gz_161_35 gm_161 (by omega) (by omega) (k0 )
                  ·
                    refine w_iconst gz_147_10 (by decide) ?_
                    refine w_goto (t := 15) gz_147_11 rfl ?_
                    refine w_bret gz_147_15 gm_147 (by omega) (by omega) ?_
                    show wp l rho (d + 2) 161 27 [(2, 151), (0, x1), (0, x2), (0, x3), (0, x4)] [(0, 1)] h Q
                    refine w_ifeq (t := 34) gz_161_27 rfl (fun u29 => by exfalso; omega) (fun u29 => ?_)
                    refine w_iconst gz_161_30 (by decide) ?_
                    refine w_goto (t := 35) gz_161_31 rfl ?_
                    exact w_bret gz_161_35 gm_161 (by omega) (by omega) (k1 (by omega) (by omega) (by omega) (by omega) (by omega) (by omega) (by omega) (by omega))
theorem c_Model_outside {l : Launch} {rho : Nat → Int32} {d : Nat} {h : my_H} {Q : my_H → my_V → Prop} {x1 x2 x3 x4 : Int} (a1 : 0 ≤ x1) (b1 : x1 ≤ 2) (a2 : 0 ≤ x2) (b2 : x2 ≤ 3) (a3 : 0 ≤ x3) (b3 : x3 ≤ 19) (a4 : 0 ≤ x4) (b4 : x4 ≤ 19) (k0 : ∀ (y : Int), 0 ≤ y → y ≤ 20 → Q h (0, y)) : wp l rho (d + 2) 163 0 [(2, 151), (0, x1), (0, x2), (0, x3), (0, x4), (9, 0), (9, 0)] [] h Q := by
  have J6_0 : ∀ (n : Nat) (p6_0 p6_1 : Int), 0 ≤ p6_0 → p6_0 ≤ 20 → 0 ≤ p6_1 → p6_1 ≤ 20 → p6_0 ≤ p6_1 → 21 - p6_1 ≤ (n : Int) → wp l rho (d + 2) 163 6 [(2, 151), (0, x1), (0, x2), (0, x3), (0, x4), (0, p6_0), (0, p6_1)] [] h Q := by
    intro n
    induction n with
    | zero => intro p6_0 p6_1 q0_6_0 q1_6_0 q2_6_0 q3_6_0 q4_6_0 hm_6_0; exfalso; omega
    | succ n ih_6_0 =>
      intro p6_0 p6_1 q0_6_0 q1_6_0 q2_6_0 q3_6_0 q4_6_0 hm_6_0
      have J53_1 : p6_0 ≤ 19 → p6_1 ≤ 19 → p6_0 ≤ p6_1 → wp l rho (d + 2) 163 53 [(2, 151), (0, x1), (0, x2), (0, x3), (0, x4), (0, p6_0), (0, p6_1)] [(0, 1), (0, p6_0)] h Q := by
        intro q0_53_1 q1_53_1 q2_53_1
        refine w_iadd gz_163_53 ⟨by omega, by omega⟩ ?_
        refine w_istore (ls' := [(2, 151), (0, x1), (0, x2), (0, x3), (0, x4), (0, (p6_0 + 1)), (0, p6_1)]) gz_163_54 gm_163 rfl rfl rfl ?_
        refine w_iinc (ls' := [(2, 151), (0, x1), (0, x2), (0, x3), (0, x4), (0, (p6_0 + 1)), (0, (p6_1 + 1))]) gz_163_56 rfl gm_163 rfl rfl rfl ⟨by omega, by omega⟩ ?_
        refine w_goto (t := 6) gz_163_59 rfl ?_
        exact ih_6_0 ((p6_0 + 1)) ((p6_1 + 1)) (by omega) (by omega) (by omega) (by omega) (by omega) (by omega)
      have J52_0 : p6_0 ≤ 19 → p6_1 ≤ 19 → p6_0 ≤ p6_1 → wp l rho (d + 2) 163 52 [(2, 151), (0, x1), (0, x2), (0, x3), (0, x4), (0, p6_0), (0, p6_1)] [(0, p6_0)] h Q := by
        intro q0_52_0 q1_52_0 q2_52_0
        refine w_iconst gz_163_52 (by decide) ?_
        refine w_iadd gz_163_53 ⟨by omega, by omega⟩ ?_
        refine w_istore (ls' := [(2, 151), (0, x1), (0, x2), (0, x3), (0, x4), (0, (p6_0 + 0)), (0, p6_1)]) gz_163_54 gm_163 rfl rfl rfl ?_
        refine w_iinc (ls' := [(2, 151), (0, x1), (0, x2), (0, x3), (0, x4), (0, (p6_0 + 0)), (0, (p6_1 + 1))]) gz_163_56 rfl gm_163 rfl rfl rfl ⟨by omega, by omega⟩ ?_
        refine w_goto (t := 6) gz_163_59 rfl ?_
        exact ih_6_0 ((p6_0 + 0)) ((p6_1 + 1)) (by omega) (by omega) (by omega) (by omega) (by omega) (by omega)
      refine w_iload gz_163_6 rfl ?_
      refine w_bipush gz_163_8 (by decide) ?_
      refine w_icge (t := 62) gz_163_10 rfl (fun u1 => ?_) (fun u1 => ?_)
      ·
        refine w_iload gz_163_62 rfl ?_
        exact w_iret gz_163_64 gm_163 (k0 (p6_0) (by omega) (by omega))
      ·
        refine w_iload gz_163_13 rfl ?_
        refine w_aload_n gz_163_15 rfl ?_
        refine w_getX (v := 162) gz_163_16 is_151 rd_10 rfl (by decide) rfl ?_
        refine w_iconst gz_163_19 (by decide) ?_
        refine w_iload_n gz_163_20 rfl ?_
        refine w_iload gz_163_21 rfl ?_
        refine w_inS (k := 0) (as := [(0, p6_1), (0, x1), (0, 0)]) (r := [(2, 162), (0, p6_0)]) (ls0 := [(0, 0), (0, x1), (0, p6_1)]) gz_163_23 gm_150 rfl rfl rfl rfl rfl rfl ?_
        refine w_bipush gz_150_0 (by decide) ?_
        refine w_iload_n gz_150_2 rfl ?_
        refine w_imul gz_150_3 ⟨by omega, by omega⟩ ?_
        refine w_bipush gz_150_4 (by decide) ?_
        refine w_iload_n gz_150_6 rfl ?_
        refine w_imul gz_150_7 ⟨by omega, by omega⟩ ?_
        refine w_iadd gz_150_8 ⟨by omega, by omega⟩ ?_
        refine w_iload_n gz_150_9 rfl ?_
        refine w_iadd gz_150_10 ⟨by omega, by omega⟩ ?_
        refine w_iret gz_150_11 gm_150 ?_
        show wp l rho (d + 2) 163 26 [(2, 151), (0, x1), (0, x2), (0, x3), (0, x4), (0, p6_0), (0, p6_1)] [(0, (((60 * 0) + (20 * x1)) + p6_1)), (2, 162), (0, p6_0)] h Q
        refine w_bald gz_163_26 is_162 rd_61 (by omega) (by omega) (fun v3 ev3 pv3 qv3 => ?_)
        refine w_ifeq (t := 52) gz_163_27 rfl (fun u4 => ?_) (fun u4 => ?_)
        ·
          exact J52_0 (by omega) (by omega) (by omega)
        ·
          refine w_aload_n gz_163_30 rfl ?_
          refine w_iconst gz_163_31 (by decide) ?_
          refine w_iload_n gz_163_32 rfl ?_
          refine w_iload gz_163_33 rfl ?_
          refine w_iload_n gz_163_35 rfl ?_
          refine w_inv (k := 0) (as := [(0, x2), (0, p6_1), (0, x1), (0, 0)]) (r := [(0, p6_0)]) (x := 151) (ls0 := [(2, 151), (0, 0), (0, x1), (0, p6_1), (0, x2)]) gz_163_36 gm_157 rfl is_151 rd_10 rfl rfl rfl rfl rfl ?_
          refine w_aload_n gz_157_0 rfl ?_
          refine w_getX (v := 163) gz_157_1 is_151 rd_10 rfl (by decide) rfl ?_
          refine w_iconst gz_157_4 (by decide) ?_
          refine w_iload_n gz_157_5 rfl ?_
          refine w_iload_n gz_157_6 rfl ?_
          refine w_iload_n gz_157_7 rfl ?_
          refine w_inS (k := 0) (as := [(0, p6_1), (0, x1), (0, 0)]) (r := [(0, 4), (2, 163)]) (ls0 := [(0, 0), (0, x1), (0, p6_1)]) gz_157_8 gm_150 rfl rfl rfl rfl rfl rfl ?_
          refine w_bipush gz_150_0 (by decide) ?_
          refine w_iload_n gz_150_2 rfl ?_
          refine w_imul gz_150_3 ⟨by omega, by omega⟩ ?_
          refine w_bipush gz_150_4 (by decide) ?_
          refine w_iload_n gz_150_6 rfl ?_
          refine w_imul gz_150_7 ⟨by omega, by omega⟩ ?_
          refine w_iadd gz_150_8 ⟨by omega, by omega⟩ ?_
          refine w_iload_n gz_150_9 rfl ?_
          refine w_iadd gz_150_10 ⟨by omega, by omega⟩ ?_
          refine w_iret gz_150_11 gm_150 ?_
          show wp l rho (d + 1) 157 11 [(2, 151), (0, 0), (0, x1), (0, p6_1), (0, x2)] [(0, (((60 * 0) + (20 * x1)) + p6_1)), (0, 4), (2, 163)] h _
          refine w_imul gz_157_11 ⟨by omega, by omega⟩ ?_
          refine w_iload gz_157_12 rfl ?_
          refine w_iadd gz_157_14 ⟨by omega, by omega⟩ ?_
          refine w_iald gz_157_15 is_163 rd_62 (by omega) (by omega) (fun v6 ev6 pv6 qv6 => ?_)
          refine w_iret gz_157_16 gm_157 ?_
          show wp l rho (d + 2) 163 39 [(2, 151), (0, x1), (0, x2), (0, x3), (0, x4), (0, p6_0), (0, p6_1)] [(0, v6), (0, p6_0)] h Q
          refine w_iload_n gz_163_39 rfl ?_
          refine w_iload gz_163_40 rfl ?_
          refine w_inS (k := 0) (as := [(0, x4), (0, x3), (0, v6)]) (r := [(0, p6_0)]) (ls0 := [(0, v6), (0, x3), (0, x4)]) gz_163_42 gm_147 rfl rfl rfl rfl rfl rfl ?_
          refine w_iload_n gz_147_0 rfl ?_
          refine w_iload_n gz_147_1 rfl ?_
          refine w_iclt (t := 14) gz_147_2 rfl (fun u7 => ?_) (fun u7 => ?_)
          ·
            refine w_iconst gz_147_14 (by decide) ?_
            refine w_bret gz_147_15 gm_147 (by omega) (by omega) ?_
            show wp l rho (d + 2) 163 45 [(2, 151), (0, x1), (0, x2), (0, x3), (0, x4), (0, p6_0), (0, p6_1)] [(0, 0), (0, p6_0)] h Q
            refine w_ifne (t := 52) gz_163_45 rfl (fun u8 => by exfalso; omega) (fun u8 => ?_)
            refine w_iconst gz_163_48 (by decide) ?_
            refine w_goto (t := 53) gz_163_49 rfl ?_
            exact J53_1 (by omega) (by omega) (by omega)
          ·
            refine w_iload_n gz_147_5 rfl ?_
            refine w_iload_n gz_147_6 rfl ?_
            refine w_icgt (t := 14) gz_147_7 rfl (fun u9 => ?_) (fun u9 => ?_)
            ·
              refine w_iconst gz_147_14 (by decide) ?_
              refine w_bret gz_147_15 gm_147 (by omega) (by omega) ?_
              show wp l rho (d + 2) 163 45 [(2, 151), (0, x1), (0, x2), (0, x3), (0, x4), (0, p6_0), (0, p6_1)] [(0, 0), (0, p6_0)] h Q
              refine w_ifne (t := 52) gz_163_45 rfl (fun u10 => by exfalso; omega) (fun u10 => ?_)
              refine w_iconst gz_163_48 (by decide) ?_
              refine w_goto (t := 53) gz_163_49 rfl ?_
              exact J53_1 (by omega) (by omega) (by omega)
            ·
              refine w_iconst gz_147_10 (by decide) ?_
              refine w_goto (t := 15) gz_147_11 rfl ?_
              refine w_bret gz_147_15 gm_147 (by omega) (by omega) ?_
              show wp l rho (d + 2) 163 45 [(2, 151), (0, x1), (0, x2), (0, x3), (0, x4), (0, p6_0), (0, p6_1)] [(0, 1), (0, p6_0)] h Q
              refine w_ifne (t := 52) gz_163_45 rfl (fun u11 => ?_) (fun u11 => by exfalso; omega)
              exact J52_0 (by omega) (by omega) (by omega)
  refine w_iconst gz_163_0 (by decide) ?_
  refine w_istore (ls' := [(2, 151), (0, x1), (0, x2), (0, x3), (0, x4), (0, 0), (9, 0)]) gz_163_1 gm_163 rfl rfl rfl ?_
  refine w_iconst gz_163_3 (by decide) ?_
  refine w_istore (ls' := [(2, 151), (0, x1), (0, x2), (0, x3), (0, x4), (0, 0), (0, 0)]) gz_163_4 gm_163 rfl rfl rfl ?_
  exact J6_0 21 (0) (0) (by omega) (by omega) (by omega) (by omega) (by omega) (by omega)
theorem c_Model_moves {l : Launch} {rho : Nat → Int32} {d : Nat} {h : my_H} {Q : my_H → my_V → Prop} {x1 x2 x3 x4 : Int} (k0 : ∀ (h' : my_H), my_fr [(10, 0)] h h' → h' 151 0 = 0 → Q h' (0, (-1))) (k1 : ∀ (h' : my_H) (y : Int), my_fr [(10, 0)] h h' → 0 ≤ y → y ≤ 20 → 0 ≤ x1 → x1 ≤ 2 → 0 ≤ x2 → x2 ≤ 3 → 0 ≤ x3 → x3 ≤ 19 → 0 ≤ x4 → x4 ≤ 19 → h' 151 0 = 0 → Q h' (0, y)) : wp l rho (d + 3) 164 0 [(2, 151), (0, x1), (0, x2), (0, x3), (0, x4)] [] h Q := by
  refine w_aload_n gz_164_0 rfl ?_
  refine w_iconst gz_164_1 (by decide) ?_
  refine v_putI (j := 0) gz_164_2 rfl is_151 rd_10 rfl (by omega) (by omega) rfl (fun h1 fh1 => ?_)
  have gh1 : my_fr [(10, 0)] h h1 := my_fr.up my_fr.rf is_151 fh1 rfl
  refine w_aload_n gz_164_5 rfl ?_
  refine w_iload_n gz_164_6 rfl ?_
  refine w_iload_n gz_164_7 rfl ?_
  refine w_iload_n gz_164_8 rfl ?_
  refine w_iload gz_164_9 rfl ?_
  refine w_inv (k := 0) (as := [(0, x4), (0, x3), (0, x2), (0, x1)]) (r := []) (x := 151) (ls0 := [(2, 151), (0, x1), (0, x2), (0, x3), (0, x4)]) gz_164_11 gm_161 rfl is_151 rd_10 rfl rfl rfl rfl rfl (c_Model_isSpan (d := d) (x1 := x1) (x2 := x2) (x3 := x3) (x4 := x4)  ?_ (fun w2 w3 w4 w5 w6 w7 w8 w9 => ?_))
  ·
    show wp l rho (d + 3) 164 14 [(2, 151), (0, x1), (0, x2), (0, x3), (0, x4)] [(0, 0)] h1 Q
    refine w_ifeq (t := 29) gz_164_14 rfl (fun u10 => ?_) (fun u10 => by exfalso; omega)
    refine w_iconst gz_164_29 (by decide) ?_
    have c11 := (my_up_self fh1)
    exact w_iret gz_164_30 gm_164 (k0 h1 (gh1) (by omega))
  ·
    show wp l rho (d + 3) 164 14 [(2, 151), (0, x1), (0, x2), (0, x3), (0, x4)] [(0, 1)] h1 Q
    refine w_ifeq (t := 29) gz_164_14 rfl (fun u12 => by exfalso; omega) (fun u12 => ?_)
    refine w_aload_n gz_164_17 rfl ?_
    refine w_iload_n gz_164_18 rfl ?_
    refine w_iload_n gz_164_19 rfl ?_
    refine w_iload_n gz_164_20 rfl ?_
    refine w_iload gz_164_21 rfl ?_
    refine w_inv (k := 2) (as := [(0, x4), (0, x3), (0, x2), (0, x1)]) (r := []) (x := 151) (ls0 := [(2, 151), (0, x1), (0, x2), (0, x3), (0, x4), (9, 0), (9, 0)]) gz_164_23 gm_163 rfl is_151 rd_10 rfl rfl rfl rfl rfl (c_Model_outside (d := d) (x1 := x1) (x2 := x2) (x3 := x3) (x4 := x4) (by omega) (by omega) (by omega) (by omega) (by omega) (by omega) (by omega) (by omega) (fun v13 w14 w15 => ?_))
    show wp l rho (d + 3) 164 26 [(2, 151), (0, x1), (0, x2), (0, x3), (0, x4)] [(0, v13)] h1 Q
    refine w_goto (t := 30) gz_164_26 rfl ?_
    have c16 := (my_up_self fh1)
    exact w_iret gz_164_30 gm_164 (k1 h1 (v13) (gh1) (by omega) (by omega) (by omega) (by omega) (by omega) (by omega) (by omega) (by omega) (by omega) (by omega) (by omega))
theorem c_Model_value {l : Launch} {rho : Nat → Int32} {d : Nat} {h : my_H} {Q : my_H → my_V → Prop} {x1 x2 x3 : Int} (k0 : ∀ (h' : my_H), my_fr [(10, 0)] h h' → h' 151 0 = 1 → Q h' (0, 0)) (k1 : ∀ (h' : my_H) (y : Int), my_fr [(10, 0)] h h' → 0 ≤ y → y ≤ 19 → 0 ≤ x1 → x1 ≤ 2 → 0 ≤ x2 → x2 ≤ 19 → 0 ≤ x3 → x3 ≤ 3 → h' 151 0 = 0 → Q h' (0, y)) : wp l rho (d + 2) 167 0 [(2, 151), (0, x1), (0, x2), (0, x3)] [] h Q := by
  have J23_0 : ∀ (h23_0 : my_H), my_fr [(10, 0)] h h23_0 → wp l rho (d + 2) 167 23 [(2, 151), (0, x1), (0, x2), (0, x3)] [(2, 151)] h23_0 Q := by
    intro h23_0 gh_23_0
    refine w_iconst gz_167_23 (by decide) ?_
    refine v_putI (j := 0) gz_167_24 rfl is_151 rd_10 rfl (by omega) (by omega) rfl (fun h1 fh1 => ?_)
    have gh1 : my_fr [(10, 0)] h h1 := my_fr.up gh_23_0 is_151 fh1 rfl
    refine w_aload_n gz_167_27 rfl ?_
    refine v_getI (j := 0) gz_167_28 rfl is_151 rd_10 rfl (fun v2 ev2 pv2 qv2 => ?_)
    have zv2 := ev2.trans (my_up_self fh1)
    refine w_ifle (t := 38) gz_167_31 rfl (fun u3 => by exfalso; omega) (fun u3 => ?_)
    refine w_iconst gz_167_34 (by decide) ?_
    refine w_goto (t := 46) gz_167_35 rfl ?_
    have c4 := ev2.symm
    exact w_iret gz_167_46 gm_167 (k0 h1 (gh1) (by omega))
  refine w_aload_n gz_167_0 rfl ?_
  refine w_aload_n gz_167_1 rfl ?_
  refine w_iload_n gz_167_2 rfl ?_
  refine w_iload_n gz_167_3 rfl ?_
  refine w_inv (k := 0) (as := [(0, x3), (0, x1)]) (r := [(2, 151)]) (x := 151) (ls0 := [(2, 151), (0, x1), (0, x3)]) gz_167_4 gm_162 rfl is_151 rd_10 rfl rfl rfl rfl rfl ?_
  refine w_aload_n gz_162_0 rfl ?_
  refine w_iload_n gz_162_1 rfl ?_
  refine w_inv (k := 0) (as := [(0, x1)]) (r := []) (x := 151) (ls0 := [(2, 151), (0, x1)]) gz_162_2 gm_149 rfl is_151 rd_10 rfl rfl rfl rfl rfl ?_
  refine w_iload_n gz_149_0 rfl ?_
  refine w_iflt (t := 22) gz_149_1 rfl (fun u5 => ?_) (fun u5 => ?_)
  ·
    refine w_iconst gz_149_22 (by decide) ?_
    refine w_bret gz_149_23 gm_149 (by omega) (by omega) ?_
    show wp l rho (d + 1) 162 5 [(2, 151), (0, x1), (0, x3)] [(0, 0)] h _
    refine w_ifeq (t := 26) gz_162_5 rfl (fun u6 => ?_) (fun u6 => by exfalso; omega)
    refine w_iconst gz_162_26 (by decide) ?_
    refine w_bret gz_162_27 gm_162 (by omega) (by omega) ?_
    show wp l rho (d + 2) 167 7 [(2, 151), (0, x1), (0, x2), (0, x3)] [(0, 0), (2, 151)] h Q
    refine w_ifeq (t := 23) gz_167_7 rfl (fun u7 => ?_) (fun u7 => by exfalso; omega)
    exact J23_0 h (my_fr.rf)
  ·
    refine w_iload_n gz_149_4 rfl ?_
    refine w_iconst gz_149_5 (by decide) ?_
    refine w_icge (t := 22) gz_149_6 rfl (fun u8 => ?_) (fun u8 => ?_)
    ·
      refine w_iconst gz_149_22 (by decide) ?_
      refine w_bret gz_149_23 gm_149 (by omega) (by omega) ?_
      show wp l rho (d + 1) 162 5 [(2, 151), (0, x1), (0, x3)] [(0, 0)] h _
      refine w_ifeq (t := 26) gz_162_5 rfl (fun u9 => ?_) (fun u9 => by exfalso; omega)
      refine w_iconst gz_162_26 (by decide) ?_
      refine w_bret gz_162_27 gm_162 (by omega) (by omega) ?_
      show wp l rho (d + 2) 167 7 [(2, 151), (0, x1), (0, x2), (0, x3)] [(0, 0), (2, 151)] h Q
      refine w_ifeq (t := 23) gz_167_7 rfl (fun u10 => ?_) (fun u10 => by exfalso; omega)
      exact J23_0 h (my_fr.rf)
    ·
      refine w_aload_n gz_149_9 rfl ?_
      refine w_getX (v := 157) gz_149_10 is_151 rd_10 rfl (by decide) rfl ?_
      refine w_iload_n gz_149_13 rfl ?_
      refine w_iald gz_149_14 is_157 rd_56 (by omega) (by omega) (fun v12 ev12 pv12 qv12 => ?_)
      refine w_ifle (t := 22) gz_149_15 rfl (fun u13 => ?_) (fun u13 => ?_)
      ·
        refine w_iconst gz_149_22 (by decide) ?_
        refine w_bret gz_149_23 gm_149 (by omega) (by omega) ?_
        show wp l rho (d + 1) 162 5 [(2, 151), (0, x1), (0, x3)] [(0, 0)] h _
        refine w_ifeq (t := 26) gz_162_5 rfl (fun u14 => ?_) (fun u14 => by exfalso; omega)
        refine w_iconst gz_162_26 (by decide) ?_
        refine w_bret gz_162_27 gm_162 (by omega) (by omega) ?_
        show wp l rho (d + 2) 167 7 [(2, 151), (0, x1), (0, x2), (0, x3)] [(0, 0), (2, 151)] h Q
        refine w_ifeq (t := 23) gz_167_7 rfl (fun u15 => ?_) (fun u15 => by exfalso; omega)
        exact J23_0 h (my_fr.rf)
      ·
        refine w_iconst gz_149_18 (by decide) ?_
        refine w_goto (t := 23) gz_149_19 rfl ?_
        refine w_bret gz_149_23 gm_149 (by omega) (by omega) ?_
        show wp l rho (d + 1) 162 5 [(2, 151), (0, x1), (0, x3)] [(0, 1)] h _
        refine w_ifeq (t := 26) gz_162_5 rfl (fun u16 => by exfalso; omega) (fun u16 => ?_)
        refine w_iload_n gz_162_8 rfl ?_
        refine w_iflt (t := 26) gz_162_9 rfl (fun u17 => ?_) (fun u17 => ?_)
        ·
          refine w_iconst gz_162_26 (by decide) ?_
          refine w_bret gz_162_27 gm_162 (by omega) (by omega) ?_
          show wp l rho (d + 2) 167 7 [(2, 151), (0, x1), (0, x2), (0, x3)] [(0, 0), (2, 151)] h Q
          refine w_ifeq (t := 23) gz_167_7 rfl (fun u18 => ?_) (fun u18 => by exfalso; omega)
          exact J23_0 h (my_fr.rf)
        ·
          refine w_iload_n gz_162_12 rfl ?_
          refine w_aload_n gz_162_13 rfl ?_
          refine w_getX (v := 157) gz_162_14 is_151 rd_10 rfl (by decide) rfl ?_
          refine w_iload_n gz_162_17 rfl ?_
          refine w_iald gz_162_18 is_157 rd_56 (by omega) (by omega) (fun v20 ev20 pv20 qv20 => ?_)
          have zv20 := ev20.trans ev12.symm
          refine w_icge (t := 26) gz_162_19 rfl (fun u21 => ?_) (fun u21 => ?_)
          ·
            refine w_iconst gz_162_26 (by decide) ?_
            refine w_bret gz_162_27 gm_162 (by omega) (by omega) ?_
            show wp l rho (d + 2) 167 7 [(2, 151), (0, x1), (0, x2), (0, x3)] [(0, 0), (2, 151)] h Q
            refine w_ifeq (t := 23) gz_167_7 rfl (fun u22 => ?_) (fun u22 => by exfalso; omega)
            exact J23_0 h (my_fr.rf)
          ·
            refine w_iconst gz_162_22 (by decide) ?_
            refine w_goto (t := 27) gz_162_23 rfl ?_
            refine w_bret gz_162_27 gm_162 (by omega) (by omega) ?_
            show wp l rho (d + 2) 167 7 [(2, 151), (0, x1), (0, x2), (0, x3)] [(0, 1), (2, 151)] h Q
            refine w_ifeq (t := 23) gz_167_7 rfl (fun u23 => by exfalso; omega) (fun u23 => ?_)
            refine w_aload_n gz_167_10 rfl ?_
            refine w_iload_n gz_167_11 rfl ?_
            refine w_iload_n gz_167_12 rfl ?_
            refine w_inv (k := 0) (as := [(0, x2), (0, x1)]) (r := [(2, 151)]) (x := 151) (ls0 := [(2, 151), (0, x1), (0, x2)]) gz_167_13 gm_159 rfl is_151 rd_10 rfl rfl rfl rfl rfl (c_Model_isRow (d := d) (x1 := x1) (x2 := x2)  ?_ (fun w24 w25 w26 w27 => ?_))
            ·
              show wp l rho (d + 2) 167 16 [(2, 151), (0, x1), (0, x2), (0, x3)] [(0, 0), (2, 151)] h Q
              refine w_ifeq (t := 23) gz_167_16 rfl (fun u28 => ?_) (fun u28 => by exfalso; omega)
              exact J23_0 h (my_fr.rf)
            ·
              show wp l rho (d + 2) 167 16 [(2, 151), (0, x1), (0, x2), (0, x3)] [(0, 1), (2, 151)] h Q
              refine w_ifeq (t := 23) gz_167_16 rfl (fun u29 => by exfalso; omega) (fun u29 => ?_)
              refine w_iconst gz_167_19 (by decide) ?_
              refine w_goto (t := 24) gz_167_20 rfl ?_
              refine v_putI (j := 0) gz_167_24 rfl is_151 rd_10 rfl (by omega) (by omega) rfl (fun h30 fh30 => ?_)
              have gh30 : my_fr [(10, 0)] h h30 := my_fr.up my_fr.rf is_151 fh30 rfl
              refine w_aload_n gz_167_27 rfl ?_
              refine v_getI (j := 0) gz_167_28 rfl is_151 rd_10 rfl (fun v31 ev31 pv31 qv31 => ?_)
              have zv31 := ev31.trans (my_up_self fh30)
              refine w_ifle (t := 38) gz_167_31 rfl (fun u32 => ?_) (fun u32 => by exfalso; omega)
              refine w_aload_n gz_167_38 rfl ?_
              refine w_iconst gz_167_39 (by decide) ?_
              refine w_iload_n gz_167_40 rfl ?_
              refine w_iload_n gz_167_41 rfl ?_
              refine w_iload_n gz_167_42 rfl ?_
              refine w_inv (k := 0) (as := [(0, x3), (0, x2), (0, x1), (0, 0)]) (r := []) (x := 151) (ls0 := [(2, 151), (0, 0), (0, x1), (0, x2), (0, x3)]) gz_167_43 gm_157 rfl is_151 rd_10 rfl rfl rfl rfl rfl ?_
              refine w_aload_n gz_157_0 rfl ?_
              refine w_getX (v := 163) gz_157_1 is_151 rd_10 rfl (by decide) rfl ?_
              refine w_iconst gz_157_4 (by decide) ?_
              refine w_iload_n gz_157_5 rfl ?_
              refine w_iload_n gz_157_6 rfl ?_
              refine w_iload_n gz_157_7 rfl ?_
              refine w_inS (k := 0) (as := [(0, x2), (0, x1), (0, 0)]) (r := [(0, 4), (2, 163)]) (ls0 := [(0, 0), (0, x1), (0, x2)]) gz_157_8 gm_150 rfl rfl rfl rfl rfl rfl ?_
              refine w_bipush gz_150_0 (by decide) ?_
              refine w_iload_n gz_150_2 rfl ?_
              refine w_imul gz_150_3 ⟨by omega, by omega⟩ ?_
              refine w_bipush gz_150_4 (by decide) ?_
              refine w_iload_n gz_150_6 rfl ?_
              refine w_imul gz_150_7 ⟨by omega, by omega⟩ ?_
              refine w_iadd gz_150_8 ⟨by omega, by omega⟩ ?_
              refine w_iload_n gz_150_9 rfl ?_
              refine w_iadd gz_150_10 ⟨by omega, by omega⟩ ?_
              refine w_iret gz_150_11 gm_150 ?_
              show wp l rho (d + 1) 157 11 [(2, 151), (0, 0), (0, x1), (0, x2), (0, x3)] [(0, (((60 * 0) + (20 * x1)) + x2)), (0, 4), (2, 163)] h30 _
              refine w_imul gz_157_11 ⟨by omega, by omega⟩ ?_
              refine w_iload gz_157_12 rfl ?_
              refine w_iadd gz_157_14 ⟨by omega, by omega⟩ ?_
              refine w_iald gz_157_15 is_163 rd_62 (by omega) (by omega) (fun v34 ev34 pv34 qv34 => ?_)
              refine w_iret gz_157_16 gm_157 ?_
              show wp l rho (d + 2) 167 46 [(2, 151), (0, x1), (0, x2), (0, x3)] [(0, v34)] h30 Q
              have c35 := ev31.symm
              exact w_iret gz_167_46 gm_167 (k1 h30 (v34) (gh30) (by omega) (by omega) (by omega) (by omega) (by omega) (by omega) (by omega) (by omega) (by omega))
theorem c_Model_beginsColumns_f0 {l : Launch} {rho : Nat → Int32} {d : Nat} {h : my_H} {Q : my_H → my_V → Prop} (cf : h 151 8 = 0) (k0 : ∀ (h' : my_H), my_fr [(10, 27), (73, -1), (74, -1), (75, -1)] h h' → h' 151 8 = 0 → 0 ≤ h' 151 27 → h' 151 27 ≤ 4 → Q h' (9, 0)) : wp l rho d 181 0 [(2, 151), (9, 0)] [] h Q := by
  have J15_0 : ∀ (n : Nat) (p15_0 p15_1 p15_2 : Int) (h15_0 : my_H), my_fr [(10, 27), (73, -1), (74, -1), (75, -1)] h h15_0 → 0 ≤ p15_0 → p15_0 ≤ 4 → 0 ≤ p15_2 → p15_2 ≤ 2 → 0 ≤ p15_1 → p15_1 ≤ 4 → p15_0 ≤ p15_1 → h15_0 151 27 = p15_1 → h15_0 151 33 = p15_2 → h15_0 151 8 = 0 → 5 - p15_0 ≤ (n : Int) → wp l rho d 181 15 [(2, 151), (0, p15_0)] [] h15_0 Q := by
    intro n
    induction n with
    | zero => intro p15_0 p15_1 p15_2 h15_0 gh_15_0 q0_15_0 q1_15_0 q2_15_0 q3_15_0 q4_15_0 q5_15_0 q6_15_0 c151_27_15_0 c151_33_15_0 c151_8_15_0 hm_15_0; exfalso; omega
    | succ n ih_15_0 =>
      intro p15_0 p15_1 p15_2 h15_0 gh_15_0 q0_15_0 q1_15_0 q2_15_0 q3_15_0 q4_15_0 q5_15_0 q6_15_0 c151_27_15_0 c151_33_15_0 c151_8_15_0 hm_15_0
      refine w_iload_n gz_181_15 rfl ?_
      refine w_aload_n gz_181_16 rfl ?_
      refine v_getI (j := 27) gz_181_17 rfl is_151 rd_10 rfl (fun v1 ev1 pv1 qv1 => ?_)
      have zv1 := ev1.trans c151_27_15_0
      refine w_icge (t := 53) gz_181_20 rfl (fun u2 => ?_) (fun u2 => ?_)
      ·
        have c3 := c151_8_15_0
        have c4 := ev1.symm
        exact w_vret gz_181_53 gm_181 (k0 h15_0 (gh_15_0) (by omega) (by omega) (by omega))
      ·
        refine w_aload_n gz_181_23 rfl ?_
        refine w_getX (v := 174) gz_181_24 is_151 rd_10 rfl (by decide) rfl ?_
        refine w_iload_n gz_181_27 rfl ?_
        refine w_aload_n gz_181_28 rfl ?_
        refine v_getI (j := 33) gz_181_29 rfl is_151 rd_10 rfl (fun v6 ev6 pv6 qv6 => ?_)
        have zv6 := ev6.trans c151_33_15_0
        refine w_iast gz_181_32 is_174 rd_73 (by omega) (by omega) (by omega) (by omega) (fun h7 fh7 => ?_)
        have gh7 : my_fr [(10, 27), (73, -1), (74, -1), (75, -1)] h h7 := my_fr.up gh_15_0 is_174 fh7 rfl
        refine w_aload_n gz_181_33 rfl ?_
        refine w_getX (v := 175) gz_181_34 is_151 rd_10 rfl (by decide) rfl ?_
        refine w_iload_n gz_181_37 rfl ?_
        refine w_iload_n gz_181_38 rfl ?_
        refine w_iast gz_181_39 is_175 rd_74 (by omega) (by omega) (by omega) (by omega) (fun h9 fh9 => ?_)
        have gh9 : my_fr [(10, 27), (73, -1), (74, -1), (75, -1)] h h9 := my_fr.up gh7 is_175 fh9 rfl
        refine w_aload_n gz_181_40 rfl ?_
        refine w_getX (v := 176) gz_181_41 is_151 rd_10 rfl (by decide) rfl ?_
        refine w_iload_n gz_181_44 rfl ?_
        refine w_iconst gz_181_45 (by decide) ?_
        refine w_bast gz_181_46 is_176 rd_75 (by omega) (by omega) (by omega) (by omega) (fun h11 fh11 => ?_)
        have gh11 : my_fr [(10, 27), (73, -1), (74, -1), (75, -1)] h h11 := my_fr.up gh9 is_176 fh11 rfl
        refine w_iinc (ls' := [(2, 151), (0, (p15_0 + 1))]) gz_181_47 rfl gm_181 rfl rfl rfl ⟨by omega, by omega⟩ ?_
        refine w_goto (t := 15) gz_181_50 rfl ?_
        exact ih_15_0 ((p15_0 + 1)) (v1) (v6) h11 (gh11) (by omega) (by omega) (by omega) (by omega) (by omega) (by omega) (by omega) (((my_up_role fh11 is_151 is_176 rfl).trans ((my_up_role fh9 is_151 is_175 rfl).trans ((my_up_role fh7 is_151 is_174 rfl).trans ev1.symm))).trans (by omega)) (((my_up_role fh11 is_151 is_176 rfl).trans ((my_up_role fh9 is_151 is_175 rfl).trans ((my_up_role fh7 is_151 is_174 rfl).trans ev6.symm))).trans (by omega)) (((my_up_role fh11 is_151 is_176 rfl).trans ((my_up_role fh9 is_151 is_175 rfl).trans ((my_up_role fh7 is_151 is_174 rfl).trans c151_8_15_0))).trans (by omega)) (by omega)
  refine w_aload_n gz_181_0 rfl ?_
  refine w_aload_n gz_181_1 rfl ?_
  refine w_getX (v := 157) gz_181_2 is_151 rd_10 rfl (by decide) rfl ?_
  refine w_aload_n gz_181_5 rfl ?_
  refine v_getI (j := 33) gz_181_6 rfl is_151 rd_10 rfl (fun v13 ev13 pv13 qv13 => ?_)
  refine w_iald gz_181_9 is_157 rd_56 (by omega) (by omega) (fun v14 ev14 pv14 qv14 => ?_)
  refine v_putI (j := 27) gz_181_10 rfl is_151 rd_10 rfl (by omega) (by omega) rfl (fun h15 fh15 => ?_)
  have gh15 : my_fr [(10, 27), (73, -1), (74, -1), (75, -1)] h h15 := my_fr.up my_fr.rf is_151 fh15 rfl
  refine w_iconst gz_181_13 (by decide) ?_
  refine w_istore_n (ls' := [(2, 151), (0, 0)]) gz_181_14 gm_181 rfl rfl rfl ?_
  exact J15_0 5 (0) (v14) (v13) h15 (gh15) (by omega) (by omega) (by omega) (by omega) (by omega) (by omega) (by omega) ((my_up_self fh15).trans (by omega)) (((my_up_fld fh15 (by decide)).trans ev13.symm).trans (by omega)) (((my_up_fld fh15 (by decide)).trans cf).trans (by omega)) (by omega)
theorem c_Model_beginsColumns {l : Launch} {rho : Nat → Int32} {d : Nat} {h : my_H} {Q : my_H → my_V → Prop} (k0 : ∀ (h' : my_H), my_fr [(10, 27), (73, -1), (74, -1), (75, -1)] h h' → 0 ≤ h' 151 27 → h' 151 27 ≤ 4 → Q h' (9, 0)) : wp l rho d 181 0 [(2, 151), (9, 0)] [] h Q := by
  have J15_0 : ∀ (n : Nat) (p15_0 p15_1 p15_2 : Int) (h15_0 : my_H), my_fr [(10, 27), (73, -1), (74, -1), (75, -1)] h h15_0 → 0 ≤ p15_0 → p15_0 ≤ 4 → 0 ≤ p15_2 → p15_2 ≤ 2 → 0 ≤ p15_1 → p15_1 ≤ 4 → p15_0 ≤ p15_1 → h15_0 151 27 = p15_1 → h15_0 151 33 = p15_2 → 5 - p15_0 ≤ (n : Int) → wp l rho d 181 15 [(2, 151), (0, p15_0)] [] h15_0 Q := by
    intro n
    induction n with
    | zero => intro p15_0 p15_1 p15_2 h15_0 gh_15_0 q0_15_0 q1_15_0 q2_15_0 q3_15_0 q4_15_0 q5_15_0 q6_15_0 c151_27_15_0 c151_33_15_0 hm_15_0; exfalso; omega
    | succ n ih_15_0 =>
      intro p15_0 p15_1 p15_2 h15_0 gh_15_0 q0_15_0 q1_15_0 q2_15_0 q3_15_0 q4_15_0 q5_15_0 q6_15_0 c151_27_15_0 c151_33_15_0 hm_15_0
      refine w_iload_n gz_181_15 rfl ?_
      refine w_aload_n gz_181_16 rfl ?_
      refine v_getI (j := 27) gz_181_17 rfl is_151 rd_10 rfl (fun v1 ev1 pv1 qv1 => ?_)
      have zv1 := ev1.trans c151_27_15_0
      refine w_icge (t := 53) gz_181_20 rfl (fun u2 => ?_) (fun u2 => ?_)
      ·
        have c3 := ev1.symm
        exact w_vret gz_181_53 gm_181 (k0 h15_0 (gh_15_0) (by omega) (by omega))
      ·
        refine w_aload_n gz_181_23 rfl ?_
        refine w_getX (v := 174) gz_181_24 is_151 rd_10 rfl (by decide) rfl ?_
        refine w_iload_n gz_181_27 rfl ?_
        refine w_aload_n gz_181_28 rfl ?_
        refine v_getI (j := 33) gz_181_29 rfl is_151 rd_10 rfl (fun v5 ev5 pv5 qv5 => ?_)
        have zv5 := ev5.trans c151_33_15_0
        refine w_iast gz_181_32 is_174 rd_73 (by omega) (by omega) (by omega) (by omega) (fun h6 fh6 => ?_)
        have gh6 : my_fr [(10, 27), (73, -1), (74, -1), (75, -1)] h h6 := my_fr.up gh_15_0 is_174 fh6 rfl
        refine w_aload_n gz_181_33 rfl ?_
        refine w_getX (v := 175) gz_181_34 is_151 rd_10 rfl (by decide) rfl ?_
        refine w_iload_n gz_181_37 rfl ?_
        refine w_iload_n gz_181_38 rfl ?_
        refine w_iast gz_181_39 is_175 rd_74 (by omega) (by omega) (by omega) (by omega) (fun h8 fh8 => ?_)
        have gh8 : my_fr [(10, 27), (73, -1), (74, -1), (75, -1)] h h8 := my_fr.up gh6 is_175 fh8 rfl
        refine w_aload_n gz_181_40 rfl ?_
        refine w_getX (v := 176) gz_181_41 is_151 rd_10 rfl (by decide) rfl ?_
        refine w_iload_n gz_181_44 rfl ?_
        refine w_iconst gz_181_45 (by decide) ?_
        refine w_bast gz_181_46 is_176 rd_75 (by omega) (by omega) (by omega) (by omega) (fun h10 fh10 => ?_)
        have gh10 : my_fr [(10, 27), (73, -1), (74, -1), (75, -1)] h h10 := my_fr.up gh8 is_176 fh10 rfl
        refine w_iinc (ls' := [(2, 151), (0, (p15_0 + 1))]) gz_181_47 rfl gm_181 rfl rfl rfl ⟨by omega, by omega⟩ ?_
        refine w_goto (t := 15) gz_181_50 rfl ?_
        exact ih_15_0 ((p15_0 + 1)) (v1) (v5) h10 (gh10) (by omega) (by omega) (by omega) (by omega) (by omega) (by omega) (by omega) (((my_up_role fh10 is_151 is_176 rfl).trans ((my_up_role fh8 is_151 is_175 rfl).trans ((my_up_role fh6 is_151 is_174 rfl).trans ev1.symm))).trans (by omega)) (((my_up_role fh10 is_151 is_176 rfl).trans ((my_up_role fh8 is_151 is_175 rfl).trans ((my_up_role fh6 is_151 is_174 rfl).trans ev5.symm))).trans (by omega)) (by omega)
  refine w_aload_n gz_181_0 rfl ?_
  refine w_aload_n gz_181_1 rfl ?_
  refine w_getX (v := 157) gz_181_2 is_151 rd_10 rfl (by decide) rfl ?_
  refine w_aload_n gz_181_5 rfl ?_
  refine v_getI (j := 33) gz_181_6 rfl is_151 rd_10 rfl (fun v12 ev12 pv12 qv12 => ?_)
  refine w_iald gz_181_9 is_157 rd_56 (by omega) (by omega) (fun v13 ev13 pv13 qv13 => ?_)
  refine v_putI (j := 27) gz_181_10 rfl is_151 rd_10 rfl (by omega) (by omega) rfl (fun h14 fh14 => ?_)
  have gh14 : my_fr [(10, 27), (73, -1), (74, -1), (75, -1)] h h14 := my_fr.up my_fr.rf is_151 fh14 rfl
  refine w_iconst gz_181_13 (by decide) ?_
  refine w_istore_n (ls' := [(2, 151), (0, 0)]) gz_181_14 gm_181 rfl rfl rfl ?_
  exact J15_0 5 (0) (v13) (v12) h14 (gh14) (by omega) (by omega) (by omega) (by omega) (by omega) (by omega) (by omega) ((my_up_self fh14).trans (by omega)) (((my_up_fld fh14 (by decide)).trans ev12.symm).trans (by omega)) (by omega)
theorem c_Model_keeps_f0 {l : Launch} {rho : Nat → Int32} {d : Nat} {h : my_H} {Q : my_H → my_V → Prop} {x1 : Int} (a1 : 0 ≤ x1) (b1 : x1 ≤ 5) (cf : h 151 8 = 0) (k0 : ∀ (h' : my_H), my_fr [(63, -1), (64, -1), (65, -1), (66, -1), (67, -1), (68, -1), (69, -1), (70, -1), (71, -1), (72, -1)] h h' → h' 151 8 = 0 → Q h' (9, 0)) : wp l rho d 191 0 [(2, 151), (0, x1), (9, 0), (9, 0), (9, 0), (9, 0)] [] h Q := by
  have J168_0 : ∀ (n : Nat) (p168_0 : Int) (h168_0 : my_H), my_fr [(63, -1), (64, -1), (65, -1), (66, -1), (67, -1), (68, -1), (69, -1), (70, -1), (71, -1), (72, -1)] h h168_0 → 0 ≤ p168_0 → p168_0 ≤ 4 → h168_0 151 8 = 0 → 5 - p168_0 ≤ (n : Int) → wp l rho d 191 168 [(2, 151), (0, x1), (0, p168_0), (9, 0), (9, 0), (9, 0)] [] h168_0 Q := by
    intro n
    induction n with
    | zero => intro p168_0 h168_0 gh_168_0 q0_168_0 q1_168_0 c151_8_168_0 hm_168_0; exfalso; omega
    | succ n ih_168_0 =>
      intro p168_0 h168_0 gh_168_0 q0_168_0 q1_168_0 c151_8_168_0 hm_168_0
      refine w_iload_n gz_191_168 rfl ?_
      refine w_iconst gz_191_169 (by decide) ?_
      refine w_icge (t := 198) gz_191_170 rfl (fun u1 => ?_) (fun u1 => ?_)
      ·
        have c2 := c151_8_168_0
        exact w_vret gz_191_198 gm_191 (k0 h168_0 (gh_168_0) (by omega))
      ·
        refine w_aload_n gz_191_173 rfl ?_
        refine w_getX (v := 173) gz_191_174 is_151 rd_10 rfl (by decide) rfl ?_
        refine w_iconst gz_191_177 (by decide) ?_
        refine w_iload_n gz_191_178 rfl ?_
        refine w_imul gz_191_179 ⟨by omega, by omega⟩ ?_
        refine w_iload_n gz_191_180 rfl ?_
        refine w_iadd gz_191_181 ⟨by omega, by omega⟩ ?_
        refine w_aload_n gz_191_182 rfl ?_
        refine w_getX (v := 173) gz_191_183 is_151 rd_10 rfl (by decide) rfl ?_
        refine w_bipush gz_191_186 (by decide) ?_
        refine w_iload_n gz_191_188 rfl ?_
        refine w_iadd gz_191_189 ⟨by omega, by omega⟩ ?_
        refine w_iald gz_191_190 is_173 rd_72 (by omega) (by omega) (fun v5 ev5 pv5 qv5 => ?_)
        refine w_iast gz_191_191 is_173 rd_72 (by omega) (by omega) (by omega) (by omega) (fun h6 fh6 => ?_)
        have gh6 : my_fr [(63, -1), (64, -1), (65, -1), (66, -1), (67, -1), (68, -1), (69, -1), (70, -1), (71, -1), (72, -1)] h h6 := my_fr.up gh_168_0 is_173 fh6 rfl
        refine w_iinc (ls' := [(2, 151), (0, x1), (0, (p168_0 + 1)), (9, 0), (9, 0), (9, 0)]) gz_191_192 rfl gm_191 rfl rfl rfl ⟨by omega, by omega⟩ ?_
        refine w_goto (t := 168) gz_191_195 rfl ?_
        exact ih_168_0 ((p168_0 + 1)) h6 (gh6) (by omega) (by omega) (((my_up_role fh6 is_151 is_173 rfl).trans c151_8_168_0).trans (by omega)) (by omega)
  have J48_0 : ∀ (n : Nat) (p48_0 : Int) (h48_0 : my_H), my_fr [(63, -1), (64, -1), (65, -1), (66, -1), (67, -1), (68, -1), (69, -1), (70, -1), (71, -1), (72, -1)] h h48_0 → 0 ≤ p48_0 → p48_0 ≤ 6 → h48_0 151 8 = 0 → 7 - p48_0 ≤ (n : Int) → wp l rho d 191 48 [(2, 151), (0, x1), (0, p48_0), (9, 0), (9, 0), (9, 0)] [] h48_0 Q := by
    intro n
    induction n with
    | zero => intro p48_0 h48_0 gh_48_0 q0_48_0 q1_48_0 c151_8_48_0 hm_48_0; exfalso; omega
    | succ n ih_48_0 =>
      intro p48_0 h48_0 gh_48_0 q0_48_0 q1_48_0 c151_8_48_0 hm_48_0
      have J122_0 : ∀ (n : Nat) (p122_0 p122_1 : Int) (h122_0 : my_H), my_fr [(63, -1), (64, -1), (65, -1), (66, -1), (67, -1), (68, -1), (69, -1), (70, -1), (71, -1), (72, -1)] h h122_0 → p48_0 ≤ 5 → 0 ≤ p122_0 → p122_0 ≤ 35 → 0 ≤ p122_1 → p122_1 ≤ 8 → h122_0 151 8 = 0 → 9 - p122_1 ≤ (n : Int) → wp l rho d 191 122 [(2, 151), (0, x1), (0, p48_0), (0, p122_0), (0, (p48_0 + 36)), (0, p122_1)] [] h122_0 Q := by
        intro n
        induction n with
        | zero => intro p122_0 p122_1 h122_0 gh_122_0 q0_122_0 q1_122_0 q2_122_0 q3_122_0 q4_122_0 c151_8_122_0 hm_122_0; exfalso; omega
        | succ n ih_122_0 =>
          intro p122_0 p122_1 h122_0 gh_122_0 q0_122_0 q1_122_0 q2_122_0 q3_122_0 q4_122_0 c151_8_122_0 hm_122_0
          refine w_iload gz_191_122 rfl ?_
          refine w_bipush gz_191_124 (by decide) ?_
          refine w_icge (t := 160) gz_191_126 rfl (fun u7 => ?_) (fun u7 => ?_)
          ·
            refine w_iinc (ls' := [(2, 151), (0, x1), (0, (p48_0 + 1)), (0, p122_0), (0, (p48_0 + 36)), (0, p122_1)]) gz_191_160 rfl gm_191 rfl rfl rfl ⟨by omega, by omega⟩ ?_
            refine w_goto (t := 48) gz_191_163 rfl ?_
            refine w_weak (ls' := [(2, 151), (0, x1), (0, (p48_0 + 1)), (9, 0), (9, 0), (9, 0)]) (wk_e (wk_e (wk_e (wk_9 (wk_9 (wk_9 wk_n)))))) ?_
            exact ih_48_0 ((p48_0 + 1)) h122_0 (gh_122_0) (by omega) (by omega) (c151_8_122_0.trans (by omega)) (by omega)
          ·
            refine w_aload_n gz_191_129 rfl ?_
            refine w_getX (v := 172) gz_191_130 is_151 rd_10 rfl (by decide) rfl ?_
            refine w_bipush gz_191_133 (by decide) ?_
            refine w_iload_n gz_191_135 rfl ?_
            refine w_imul gz_191_136 ⟨by omega, by omega⟩ ?_
            refine w_iload gz_191_137 rfl ?_
            refine w_iadd gz_191_139 ⟨by omega, by omega⟩ ?_
            refine w_aload_n gz_191_140 rfl ?_
            refine w_getX (v := 172) gz_191_141 is_151 rd_10 rfl (by decide) rfl ?_
            refine w_bipush gz_191_144 (by decide) ?_
            refine w_iload gz_191_146 rfl ?_
            refine w_imul gz_191_148 ⟨by omega, by omega⟩ ?_
            refine w_iload gz_191_149 rfl ?_
            refine w_iadd gz_191_151 ⟨by omega, by omega⟩ ?_
            refine w_iald gz_191_152 is_172 rd_71 (by omega) (by omega) (fun v10 ev10 pv10 qv10 => ?_)
            refine w_iast gz_191_153 is_172 rd_71 (by omega) (by omega) (by omega) (by omega) (fun h11 fh11 => ?_)
            have gh11 : my_fr [(63, -1), (64, -1), (65, -1), (66, -1), (67, -1), (68, -1), (69, -1), (70, -1), (71, -1), (72, -1)] h h11 := my_fr.up gh_122_0 is_172 fh11 rfl
            refine w_iinc (ls' := [(2, 151), (0, x1), (0, p48_0), (0, p122_0), (0, (p48_0 + 36)), (0, (p122_1 + 1))]) gz_191_154 rfl gm_191 rfl rfl rfl ⟨by omega, by omega⟩ ?_
            refine w_goto (t := 122) gz_191_157 rfl ?_
            exact ih_122_0 (p122_0) ((p122_1 + 1)) h11 (gh11) (by omega) (by omega) (by omega) (by omega) (by omega) (((my_up_role fh11 is_151 is_172 rfl).trans c151_8_122_0).trans (by omega)) (by omega)
      refine w_iload_n gz_191_48 rfl ?_
      refine w_bipush gz_191_49 (by decide) ?_
      refine w_icge (t := 166) gz_191_51 rfl (fun u12 => ?_) (fun u12 => ?_)
      ·
        refine w_iconst gz_191_166 (by decide) ?_
        refine w_istore_n (ls' := [(2, 151), (0, x1), (0, 0), (9, 0), (9, 0), (9, 0)]) gz_191_167 gm_191 rfl rfl rfl ?_
        exact J168_0 5 (0) h48_0 (gh_48_0) (by omega) (by omega) (c151_8_48_0.trans (by omega)) (by omega)
      ·
        refine w_bipush gz_191_54 (by decide) ?_
        refine w_iload_n gz_191_56 rfl ?_
        refine w_imul gz_191_57 ⟨by omega, by omega⟩ ?_
        refine w_iload_n gz_191_58 rfl ?_
        refine w_iadd gz_191_59 ⟨by omega, by omega⟩ ?_
        refine w_istore_n (ls' := [(2, 151), (0, x1), (0, p48_0), (0, ((6 * x1) + p48_0)), (9, 0), (9, 0)]) gz_191_60 gm_191 rfl rfl rfl ?_
        refine w_bipush gz_191_61 (by decide) ?_
        refine w_iload_n gz_191_63 rfl ?_
        refine w_iadd gz_191_64 ⟨by omega, by omega⟩ ?_
        refine w_istore (ls' := [(2, 151), (0, x1), (0, p48_0), (0, ((6 * x1) + p48_0)), (0, (36 + p48_0)), (9, 0)]) gz_191_65 gm_191 rfl rfl rfl ?_
        refine w_aload_n gz_191_67 rfl ?_
        refine w_getX (v := 168) gz_191_68 is_151 rd_10 rfl (by decide) rfl ?_
        refine w_iload_n gz_191_71 rfl ?_
        refine w_aload_n gz_191_72 rfl ?_
        refine w_getX (v := 168) gz_191_73 is_151 rd_10 rfl (by decide) rfl ?_
        refine w_iload gz_191_76 rfl ?_
        refine w_iald gz_191_78 is_168 rd_67 (by omega) (by omega) (fun v15 ev15 pv15 qv15 => ?_)
        refine w_iast gz_191_79 is_168 rd_67 (by omega) (by omega) (by omega) (by omega) (fun h16 fh16 => ?_)
        have gh16 : my_fr [(63, -1), (64, -1), (65, -1), (66, -1), (67, -1), (68, -1), (69, -1), (70, -1), (71, -1), (72, -1)] h h16 := my_fr.up gh_48_0 is_168 fh16 rfl
        refine w_aload_n gz_191_80 rfl ?_
        refine w_getX (v := 169) gz_191_81 is_151 rd_10 rfl (by decide) rfl ?_
        refine w_iload_n gz_191_84 rfl ?_
        refine w_aload_n gz_191_85 rfl ?_
        refine w_getX (v := 169) gz_191_86 is_151 rd_10 rfl (by decide) rfl ?_
        refine w_iload gz_191_89 rfl ?_
        refine w_iald gz_191_91 is_169 rd_68 (by omega) (by omega) (fun v19 ev19 pv19 qv19 => ?_)
        refine w_iast gz_191_92 is_169 rd_68 (by omega) (by omega) (by omega) (by omega) (fun h20 fh20 => ?_)
        have gh20 : my_fr [(63, -1), (64, -1), (65, -1), (66, -1), (67, -1), (68, -1), (69, -1), (70, -1), (71, -1), (72, -1)] h h20 := my_fr.up gh16 is_169 fh20 rfl
        refine w_aload_n gz_191_93 rfl ?_
        refine w_getX (v := 170) gz_191_94 is_151 rd_10 rfl (by decide) rfl ?_
        refine w_iload_n gz_191_97 rfl ?_
        refine w_aload_n gz_191_98 rfl ?_
        refine w_getX (v := 170) gz_191_99 is_151 rd_10 rfl (by decide) rfl ?_
        refine w_iload gz_191_102 rfl ?_
        refine w_iald gz_191_104 is_170 rd_69 (by omega) (by omega) (fun v23 ev23 pv23 qv23 => ?_)
        refine w_iast gz_191_105 is_170 rd_69 (by omega) (by omega) (by omega) (by omega) (fun h24 fh24 => ?_)
        have gh24 : my_fr [(63, -1), (64, -1), (65, -1), (66, -1), (67, -1), (68, -1), (69, -1), (70, -1), (71, -1), (72, -1)] h h24 := my_fr.up gh20 is_170 fh24 rfl
        refine w_aload_n gz_191_106 rfl ?_
        refine w_getX (v := 171) gz_191_107 is_151 rd_10 rfl (by decide) rfl ?_
        refine w_iload_n gz_191_110 rfl ?_
        refine w_aload_n gz_191_111 rfl ?_
        refine w_getX (v := 171) gz_191_112 is_151 rd_10 rfl (by decide) rfl ?_
        refine w_iload gz_191_115 rfl ?_
        refine w_iald gz_191_117 is_171 rd_70 (by omega) (by omega) (fun v27 ev27 pv27 qv27 => ?_)
        refine w_iast gz_191_118 is_171 rd_70 (by omega) (by omega) (by omega) (by omega) (fun h28 fh28 => ?_)
        have gh28 : my_fr [(63, -1), (64, -1), (65, -1), (66, -1), (67, -1), (68, -1), (69, -1), (70, -1), (71, -1), (72, -1)] h h28 := my_fr.up gh24 is_171 fh28 rfl
        refine w_iconst gz_191_119 (by decide) ?_
        refine w_istore (ls' := [(2, 151), (0, x1), (0, p48_0), (0, ((6 * x1) + p48_0)), (0, (36 + p48_0)), (0, 0)]) gz_191_120 gm_191 rfl rfl rfl ?_
        rw [show ((36 + p48_0) : Int) = (p48_0 + 36) from by omega]
        exact J122_0 9 (((6 * x1) + p48_0)) (0) h28 (gh28) (by omega) (by omega) (by omega) (by omega) (by omega) (((my_up_role fh28 is_151 is_171 rfl).trans ((my_up_role fh24 is_151 is_170 rfl).trans ((my_up_role fh20 is_151 is_169 rfl).trans ((my_up_role fh16 is_151 is_168 rfl).trans c151_8_48_0)))).trans (by omega)) (by omega)
  refine w_aload_n gz_191_0 rfl ?_
  refine w_getX (v := 164) gz_191_1 is_151 rd_10 rfl (by decide) rfl ?_
  refine w_iload_n gz_191_4 rfl ?_
  refine w_iconst gz_191_5 (by decide) ?_
  refine w_bast gz_191_6 is_164 rd_63 (by omega) (by omega) (by omega) (by omega) (fun h30 fh30 => ?_)
  have gh30 : my_fr [(63, -1), (64, -1), (65, -1), (66, -1), (67, -1), (68, -1), (69, -1), (70, -1), (71, -1), (72, -1)] h h30 := my_fr.up my_fr.rf is_164 fh30 rfl
  refine w_aload_n gz_191_7 rfl ?_
  refine w_getX (v := 165) gz_191_8 is_151 rd_10 rfl (by decide) rfl ?_
  refine w_iload_n gz_191_11 rfl ?_
  refine w_aload_n gz_191_12 rfl ?_
  refine w_getX (v := 165) gz_191_13 is_151 rd_10 rfl (by decide) rfl ?_
  refine w_bipush gz_191_16 (by decide) ?_
  refine w_bald gz_191_18 is_165 rd_64 (by omega) (by omega) (fun v33 ev33 pv33 qv33 => ?_)
  refine w_bast gz_191_19 is_165 rd_64 (by omega) (by omega) (by omega) (by omega) (fun h34 fh34 => ?_)
  have gh34 : my_fr [(63, -1), (64, -1), (65, -1), (66, -1), (67, -1), (68, -1), (69, -1), (70, -1), (71, -1), (72, -1)] h h34 := my_fr.up gh30 is_165 fh34 rfl
  refine w_aload_n gz_191_20 rfl ?_
  refine w_getX (v := 166) gz_191_21 is_151 rd_10 rfl (by decide) rfl ?_
  refine w_iload_n gz_191_24 rfl ?_
  refine w_aload_n gz_191_25 rfl ?_
  refine w_getX (v := 166) gz_191_26 is_151 rd_10 rfl (by decide) rfl ?_
  refine w_bipush gz_191_29 (by decide) ?_
  refine w_iald gz_191_31 is_166 rd_65 (by omega) (by omega) (fun v37 ev37 pv37 qv37 => ?_)
  refine w_iast gz_191_32 is_166 rd_65 (by omega) (by omega) (by omega) (by omega) (fun h38 fh38 => ?_)
  have gh38 : my_fr [(63, -1), (64, -1), (65, -1), (66, -1), (67, -1), (68, -1), (69, -1), (70, -1), (71, -1), (72, -1)] h h38 := my_fr.up gh34 is_166 fh38 rfl
  refine w_aload_n gz_191_33 rfl ?_
  refine w_getX (v := 167) gz_191_34 is_151 rd_10 rfl (by decide) rfl ?_
  refine w_iload_n gz_191_37 rfl ?_
  refine w_aload_n gz_191_38 rfl ?_
  refine w_getX (v := 167) gz_191_39 is_151 rd_10 rfl (by decide) rfl ?_
  refine w_bipush gz_191_42 (by decide) ?_
  refine w_iald gz_191_44 is_167 rd_66 (by omega) (by omega) (fun v41 ev41 pv41 qv41 => ?_)
  refine w_iast gz_191_45 is_167 rd_66 (by omega) (by omega) (by omega) (by omega) (fun h42 fh42 => ?_)
  have gh42 : my_fr [(63, -1), (64, -1), (65, -1), (66, -1), (67, -1), (68, -1), (69, -1), (70, -1), (71, -1), (72, -1)] h h42 := my_fr.up gh38 is_167 fh42 rfl
  refine w_iconst gz_191_46 (by decide) ?_
  refine w_istore_n (ls' := [(2, 151), (0, x1), (0, 0), (9, 0), (9, 0), (9, 0)]) gz_191_47 gm_191 rfl rfl rfl ?_
  exact J48_0 7 (0) h42 (gh42) (by omega) (by omega) (((my_up_role fh42 is_151 is_167 rfl).trans ((my_up_role fh38 is_151 is_166 rfl).trans ((my_up_role fh34 is_151 is_165 rfl).trans ((my_up_role fh30 is_151 is_164 rfl).trans cf)))).trans (by omega)) (by omega)
theorem c_Model_shifts {l : Launch} {rho : Nat → Int32} {d : Nat} {h : my_H} {Q : my_H → my_V → Prop} {x1 x2 : Int} (a1 : 0 ≤ x1) (b1 : x1 ≤ 9) (a2 : 0 ≤ x2) (b2 : x2 ≤ 9) (k0 : ∀ (h' : my_H), my_fr [(80, -1), (81, -1), (82, -1)] h h' → Q h' (9, 0)) : wp l rho d 197 0 [(2, 151), (0, x1), (0, x2), (9, 0)] [] h Q := by
  have J14_0 : ∀ (n : Nat) (p14_0 : Int) (h14_0 : my_H), my_fr [(80, -1), (81, -1), (82, -1)] h h14_0 → 0 ≤ p14_0 → p14_0 ≤ 8 → 9 - p14_0 ≤ (n : Int) → wp l rho d 197 14 [(2, 151), (0, x1), (0, x2), (0, p14_0)] [] h14_0 Q := by
    intro n
    induction n with
    | zero => intro p14_0 h14_0 gh_14_0 q0_14_0 q1_14_0 hm_14_0; exfalso; omega
    | succ n ih_14_0 =>
      intro p14_0 h14_0 gh_14_0 q0_14_0 q1_14_0 hm_14_0
      refine w_iload_n gz_197_14 rfl ?_
      refine w_bipush gz_197_15 (by decide) ?_
      refine w_icge (t := 70) gz_197_17 rfl (fun u1 => ?_) (fun u1 => ?_)
      ·
        exact w_vret gz_197_70 gm_197 (k0 h14_0 (gh_14_0))
      ·
        refine w_aload_n gz_197_20 rfl ?_
        refine w_getX (v := 182) gz_197_21 is_151 rd_10 rfl (by decide) rfl ?_
        refine w_bipush gz_197_24 (by decide) ?_
        refine w_iload_n gz_197_26 rfl ?_
        refine w_imul gz_197_27 ⟨by omega, by omega⟩ ?_
        refine w_iload_n gz_197_28 rfl ?_
        refine w_iadd gz_197_29 ⟨by omega, by omega⟩ ?_
        refine w_aload_n gz_197_30 rfl ?_
        refine w_getX (v := 182) gz_197_31 is_151 rd_10 rfl (by decide) rfl ?_
        refine w_bipush gz_197_34 (by decide) ?_
        refine w_iload_n gz_197_36 rfl ?_
        refine w_imul gz_197_37 ⟨by omega, by omega⟩ ?_
        refine w_iload_n gz_197_38 rfl ?_
        refine w_iadd gz_197_39 ⟨by omega, by omega⟩ ?_
        refine w_iald gz_197_40 is_182 rd_81 (by omega) (by omega) (fun v4 ev4 pv4 qv4 => ?_)
        refine w_iast gz_197_41 is_182 rd_81 (by omega) (by omega) (by omega) (by omega) (fun h5 fh5 => ?_)
        have gh5 : my_fr [(80, -1), (81, -1), (82, -1)] h h5 := my_fr.up gh_14_0 is_182 fh5 rfl
        refine w_aload_n gz_197_42 rfl ?_
        refine w_getX (v := 183) gz_197_43 is_151 rd_10 rfl (by decide) rfl ?_
        refine w_bipush gz_197_46 (by decide) ?_
        refine w_iload_n gz_197_48 rfl ?_
        refine w_imul gz_197_49 ⟨by omega, by omega⟩ ?_
        refine w_iload_n gz_197_50 rfl ?_
        refine w_iadd gz_197_51 ⟨by omega, by omega⟩ ?_
        refine w_aload_n gz_197_52 rfl ?_
        refine w_getX (v := 183) gz_197_53 is_151 rd_10 rfl (by decide) rfl ?_
        refine w_bipush gz_197_56 (by decide) ?_
        refine w_iload_n gz_197_58 rfl ?_
        refine w_imul gz_197_59 ⟨by omega, by omega⟩ ?_
        refine w_iload_n gz_197_60 rfl ?_
        refine w_iadd gz_197_61 ⟨by omega, by omega⟩ ?_
        refine w_iald gz_197_62 is_183 rd_82 (by omega) (by omega) (fun v8 ev8 pv8 qv8 => ?_)
        refine w_iast gz_197_63 is_183 rd_82 (by omega) (by omega) (by omega) (by omega) (fun h9 fh9 => ?_)
        have gh9 : my_fr [(80, -1), (81, -1), (82, -1)] h h9 := my_fr.up gh5 is_183 fh9 rfl
        refine w_iinc (ls' := [(2, 151), (0, x1), (0, x2), (0, (p14_0 + 1))]) gz_197_64 rfl gm_197 rfl rfl rfl ⟨by omega, by omega⟩ ?_
        refine w_goto (t := 14) gz_197_67 rfl ?_
        exact ih_14_0 ((p14_0 + 1)) h9 (gh9) (by omega) (by omega) (by omega)
  refine w_aload_n gz_197_0 rfl ?_
  refine w_getX (v := 181) gz_197_1 is_151 rd_10 rfl (by decide) rfl ?_
  refine w_iload_n gz_197_4 rfl ?_
  refine w_aload_n gz_197_5 rfl ?_
  refine w_getX (v := 181) gz_197_6 is_151 rd_10 rfl (by decide) rfl ?_
  refine w_iload_n gz_197_9 rfl ?_
  refine w_iald gz_197_10 is_181 rd_80 (by omega) (by omega) (fun v12 ev12 pv12 qv12 => ?_)
  refine w_iast gz_197_11 is_181 rd_80 (by omega) (by omega) (by omega) (by omega) (fun h13 fh13 => ?_)
  have gh13 : my_fr [(80, -1), (81, -1), (82, -1)] h h13 := my_fr.up my_fr.rf is_181 fh13 rfl
  refine w_iconst gz_197_12 (by decide) ?_
  refine w_istore_n (ls' := [(2, 151), (0, x1), (0, x2), (0, 0)]) gz_197_13 gm_197 rfl rfl rfl ?_
  exact J14_0 9 (0) h13 (gh13) (by omega) (by omega) (by omega)
theorem c_Rows_outside {l : Launch} {rho : Nat → Int32} {d : Nat} {h : my_H} {Q : my_H → my_V → Prop} {x0 x1 x2 x3 x4 : Int} (t0 : my_is 6 x0) (a1 : 0 ≤ x1) (b1 : x1 ≤ 2) (a2 : 0 ≤ x2) (b2 : x2 ≤ 3) (a3 : 0 ≤ x3) (b3 : x3 ≤ 19) (a4 : 0 ≤ x4) (b4 : x4 ≤ 19) (k0 : ∀ (y : Int), 0 ≤ y → y ≤ 20 → Q h (0, y)) : wp l rho (d + 1) 20 0 [(2, x0), (0, x1), (0, x2), (0, x3), (0, x4), (9, 0), (9, 0), (9, 0)] [] h Q := by
  have J6_0 : ∀ (n : Nat) (p6_0 p6_1 : Int), 0 ≤ p6_0 → p6_0 ≤ 20 → 0 ≤ p6_1 → p6_1 ≤ 20 → p6_0 ≤ p6_1 → 21 - p6_1 ≤ (n : Int) → wp l rho (d + 1) 20 6 [(2, x0), (0, x1), (0, x2), (0, x3), (0, x4), (0, p6_0), (0, p6_1), (9, 0)] [] h Q := by
    intro n
    induction n with
    | zero => intro p6_0 p6_1 q0_6_0 q1_6_0 q2_6_0 q3_6_0 q4_6_0 hm_6_0; exfalso; omega
    | succ n ih_6_0 =>
      intro p6_0 p6_1 q0_6_0 q1_6_0 q2_6_0 q3_6_0 q4_6_0 hm_6_0
      have J62_0 : ∀ (p62_0 p62_1 : Int), 0 ≤ p62_0 → p62_0 ≤ 20 → p6_1 ≤ 19 → 0 ≤ p62_1 → p62_1 ≤ 236 → p6_0 ≤ 19 → p62_0 ≤ (p6_1 + 1) → p62_0 ≤ (p6_0 + 1) → p6_0 ≤ p62_0 → p6_0 ≤ p6_1 → wp l rho (d + 1) 20 62 [(2, x0), (0, x1), (0, x2), (0, x3), (0, x4), (0, p62_0), (0, p6_1), (0, p62_1)] [] h Q := by
        intro p62_0 p62_1 q0_62_0 q1_62_0 q2_62_0 q3_62_0 q4_62_0 q5_62_0 q6_62_0 q7_62_0 q8_62_0 q9_62_0
        refine w_iinc (ls' := [(2, x0), (0, x1), (0, x2), (0, x3), (0, x4), (0, p62_0), (0, (p6_1 + 1)), (0, p62_1)]) gz_20_62 rfl gm_20 rfl rfl rfl ⟨by omega, by omega⟩ ?_
        refine w_goto (t := 6) gz_20_65 rfl ?_
        refine w_weak (ls' := [(2, x0), (0, x1), (0, x2), (0, x3), (0, x4), (0, p62_0), (0, (p6_1 + 1)), (9, 0)]) (wk_e (wk_e (wk_e (wk_e (wk_e (wk_e (wk_e (wk_9 wk_n)))))))) ?_
        exact ih_6_0 (p62_0) ((p6_1 + 1)) (by omega) (by omega) (by omega) (by omega) (by omega) (by omega)
      have J59_0 : ∀ (p59_0 : Int), p6_0 ≤ 19 → p6_1 ≤ 19 → 0 ≤ p59_0 → p59_0 ≤ 236 → p6_0 ≤ p6_1 → wp l rho (d + 1) 20 59 [(2, x0), (0, x1), (0, x2), (0, x3), (0, x4), (0, p6_0), (0, p6_1), (0, p59_0)] [] h Q := by
        intro p59_0 q0_59_0 q1_59_0 q2_59_0 q3_59_0 q4_59_0
        refine w_iinc (ls' := [(2, x0), (0, x1), (0, x2), (0, x3), (0, x4), (0, (p6_0 + 1)), (0, p6_1), (0, p59_0)]) gz_20_59 rfl gm_20 rfl rfl rfl ⟨by omega, by omega⟩ ?_
        exact J62_0 ((p6_0 + 1)) (p59_0) (by omega) (by omega) (by omega) (by omega) (by omega) (by omega) (by omega) (by omega) (by omega) (by omega)
      refine w_iload gz_20_6 rfl ?_
      refine w_bipush gz_20_8 (by decide) ?_
      refine w_icge (t := 68) gz_20_10 rfl (fun u1 => ?_) (fun u1 => ?_)
      ·
        refine w_iload gz_20_68 rfl ?_
        exact w_iret gz_20_70 gm_20 (k0 (p6_0) (by omega) (by omega))
      ·
        refine w_iload_n gz_20_13 rfl ?_
        refine w_iload gz_20_14 rfl ?_
        refine w_inS (k := 0) (as := [(0, p6_1), (0, x1)]) (r := []) (ls0 := [(0, x1), (0, p6_1)]) gz_20_16 gm_17 rfl rfl rfl rfl rfl rfl ?_
        refine w_iload_n gz_17_0 rfl ?_
        refine w_bipush gz_17_1 (by decide) ?_
        refine w_imul gz_17_3 ⟨by omega, by omega⟩ ?_
        refine w_iload_n gz_17_4 rfl ?_
        refine w_iadd gz_17_5 ⟨by omega, by omega⟩ ?_
        refine w_iconst gz_17_6 (by decide) ?_
        refine w_imul gz_17_7 ⟨by omega, by omega⟩ ?_
        refine w_iret gz_17_8 gm_17 ?_
        show wp l rho (d + 1) 20 19 [(2, x0), (0, x1), (0, x2), (0, x3), (0, x4), (0, p6_0), (0, p6_1), (9, 0)] [(0, (((x1 * 20) + p6_1) * 4))] h Q
        refine w_istore (ls' := [(2, x0), (0, x1), (0, x2), (0, x3), (0, x4), (0, p6_0), (0, p6_1), (0, (((x1 * 20) + p6_1) * 4))]) gz_20_19 gm_20 rfl rfl rfl ?_
        refine w_aload_n gz_20_21 rfl ?_
        refine w_getX (v := (x0 + 1)) gz_20_22 t0 rd_6 rfl (by decide) rfl ?_
        refine w_iload gz_20_25 rfl ?_
        refine w_iald gz_20_27 (ix_6_1 t0) rd_30 (by omega) (by omega) (fun v3 ev3 pv3 qv3 => ?_)
        refine w_iconst gz_20_28 (by decide) ?_
        refine w_iceq (t := 62) gz_20_29 rfl (fun u4 => ?_) (fun u4 => ?_)
        ·
          exact J62_0 (p6_0) ((((x1 * 20) + p6_1) * 4)) (by omega) (by omega) (by omega) (by omega) (by omega) (by omega) (by omega) (by omega) (by omega) (by omega)
        ·
          refine w_aload_n gz_20_32 rfl ?_
          refine w_getX (v := (x0 + 1)) gz_20_33 t0 rd_6 rfl (by decide) rfl ?_
          refine w_iload gz_20_36 rfl ?_
          refine w_iload_n gz_20_38 rfl ?_
          refine w_iadd gz_20_39 ⟨by omega, by omega⟩ ?_
          refine w_iald gz_20_40 (ix_6_1 t0) rd_30 (by omega) (by omega) (fun v6 ev6 pv6 qv6 => ?_)
          refine w_iload_n gz_20_41 rfl ?_
          refine w_iclt (t := 59) gz_20_42 rfl (fun u7 => ?_) (fun u7 => ?_)
          ·
            exact J59_0 ((((x1 * 20) + p6_1) * 4)) (by omega) (by omega) (by omega) (by omega) (by omega)
          ·
            refine w_aload_n gz_20_45 rfl ?_
            refine w_getX (v := (x0 + 1)) gz_20_46 t0 rd_6 rfl (by decide) rfl ?_
            refine w_iload gz_20_49 rfl ?_
            refine w_iload_n gz_20_51 rfl ?_
            refine w_iadd gz_20_52 ⟨by omega, by omega⟩ ?_
            refine w_iald gz_20_53 (ix_6_1 t0) rd_30 (by omega) (by omega) (fun v9 ev9 pv9 qv9 => ?_)
            refine w_iload gz_20_54 rfl ?_
            refine w_icle (t := 62) gz_20_56 rfl (fun u10 => ?_) (fun u10 => ?_)
            ·
              exact J62_0 (p6_0) ((((x1 * 20) + p6_1) * 4)) (by omega) (by omega) (by omega) (by omega) (by omega) (by omega) (by omega) (by omega) (by omega) (by omega)
            ·
              exact J59_0 ((((x1 * 20) + p6_1) * 4)) (by omega) (by omega) (by omega) (by omega) (by omega)
  refine w_iconst gz_20_0 (by decide) ?_
  refine w_istore (ls' := [(2, x0), (0, x1), (0, x2), (0, x3), (0, x4), (0, 0), (9, 0), (9, 0)]) gz_20_1 gm_20 rfl rfl rfl ?_
  refine w_iconst gz_20_3 (by decide) ?_
  refine w_istore (ls' := [(2, x0), (0, x1), (0, x2), (0, x3), (0, x4), (0, 0), (0, 0), (9, 0)]) gz_20_4 gm_20 rfl rfl rfl ?_
  exact J6_0 21 (0) (0) (by omega) (by omega) (by omega) (by omega) (by omega) (by omega)
end MYG0
