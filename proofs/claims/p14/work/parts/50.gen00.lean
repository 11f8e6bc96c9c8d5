/-! contracts, printed by wip/gen/gy.py -/
section MYG0
theorem ix_6_1 {x : Int} (hx : my_is 6 x) : my_is 30 (x + 1) := my_isOff (δ := 1) hx (by decide +kernel)
theorem gz_17_0 : mz_pg 17 0 = some (.iload_n 0, 0, 0, 0) := by decide +kernel
theorem gz_17_1 : mz_pg 17 1 = some (.bipush 20, 0, 0, 0) := by decide +kernel
theorem gz_17_3 : mz_pg 17 3 = some (.imul, 0, 0, 0) := by decide +kernel
theorem gz_17_4 : mz_pg 17 4 = some (.iload_n 1, 0, 0, 0) := by decide +kernel
theorem gz_17_5 : mz_pg 17 5 = some (.iadd, 0, 0, 0) := by decide +kernel
theorem gz_17_6 : mz_pg 17 6 = some (.iconst 4, 0, 0, 0) := by decide +kernel
theorem gz_17_7 : mz_pg 17 7 = some (.imul, 0, 0, 0) := by decide +kernel
theorem gz_17_8 : mz_pg 17 8 = some (.ireturn, 0, 0, 0) := by decide +kernel
theorem gz_103_0 : mz_pg 103 0 = some (.iconst 0, 0, 0, 0) := by decide +kernel
theorem gz_103_1 : mz_pg 103 1 = some (.istore 5, 0, 0, 0) := by decide +kernel
theorem gz_103_3 : mz_pg 103 3 = some (.iload 5, 0, 0, 0) := by decide +kernel
theorem gz_103_5 : mz_pg 103 5 = some (.bipush 20, 0, 0, 0) := by decide +kernel
theorem gz_103_7 : mz_pg 103 7 = some (.if_icmp .ge 50, 0, 0, 0) := by decide +kernel
theorem gz_103_10 : mz_pg 103 10 = some (.iload_n 1, 0, 0, 0) := by decide +kernel
theorem gz_103_11 : mz_pg 103 11 = some (.iload 5, 0, 0, 0) := by decide +kernel
theorem gz_103_13 : mz_pg 103 13 = some (.invokestatic 62, 2, 17, 5) := by decide +kernel
theorem gz_103_16 : mz_pg 103 16 = some (.istore 6, 0, 0, 0) := by decide +kernel
theorem gz_103_18 : mz_pg 103 18 = some (.iload 5, 0, 0, 0) := by decide +kernel
theorem gz_103_20 : mz_pg 103 20 = some (.iload_n 2, 0, 0, 0) := by decide +kernel
theorem gz_103_21 : mz_pg 103 21 = some (.if_icmp .eq 30, 0, 0, 0) := by decide +kernel
theorem gz_103_24 : mz_pg 103 24 = some (.aload_n 0, 0, 0, 0) := by decide +kernel
theorem gz_103_25 : mz_pg 103 25 = some (.getfield 65, 6, 0, 179) := by decide +kernel
theorem gz_103_28 : mz_pg 103 28 = some (.iload 6, 0, 0, 0) := by decide +kernel
theorem gz_103_30 : mz_pg 103 30 = some (.iaload, 0, 0, 0) := by decide +kernel
theorem gz_103_31 : mz_pg 103 31 = some (.iconst (-1), 0, 0, 0) := by decide +kernel
theorem gz_103_32 : mz_pg 103 32 = some (.if_icmp .eq 19, 0, 0, 0) := by decide +kernel
theorem gz_103_35 : mz_pg 103 35 = some (.aload_n 0, 0, 0, 0) := by decide +kernel
theorem gz_103_36 : mz_pg 103 36 = some (.getfield 65, 6, 0, 179) := by decide +kernel
theorem gz_103_39 : mz_pg 103 39 = some (.iload 6, 0, 0, 0) := by decide +kernel
theorem gz_103_41 : mz_pg 103 41 = some (.iload_n 3, 0, 0, 0) := by decide +kernel
theorem gz_103_42 : mz_pg 103 42 = some (.iadd, 0, 0, 0) := by decide +kernel
theorem gz_103_43 : mz_pg 103 43 = some (.iaload, 0, 0, 0) := by decide +kernel
theorem gz_103_44 : mz_pg 103 44 = some (.iload 4, 0, 0, 0) := by decide +kernel
theorem gz_103_46 : mz_pg 103 46 = some (.if_icmp .ne 5, 0, 0, 0) := by decide +kernel
theorem gz_103_49 : mz_pg 103 49 = some (.iconst 1, 0, 0, 0) := by decide +kernel
theorem gz_103_50 : mz_pg 103 50 = some (.ireturn, 0, 0, 0) := by decide +kernel
theorem gz_103_51 : mz_pg 103 51 = some (.iinc 5 1, 0, 0, 0) := by decide +kernel
theorem gz_103_54 : mz_pg 103 54 = some (.goto (-51), 0, 0, 0) := by decide +kernel
theorem gz_103_57 : mz_pg 103 57 = some (.iconst 0, 0, 0, 0) := by decide +kernel
theorem gz_103_58 : mz_pg 103 58 = some (.ireturn, 0, 0, 0) := by decide +kernel
theorem gm_17 : my_mm 17 2 (some .int) 2 9 := by unfold my_mm; decide +kernel
theorem gm_103 : my_mm 103 7 (some .boolean) 5 3 := by unfold my_mm; decide +kernel
theorem rd_6 : my_rd 6 = .inr (6, [(2, 30, 1), (2, 31, 2)]) := rfl
theorem rd_30 : my_rd 30 = .inl (0, 240, [(0, -1, 19)]) := rfl
theorem c0_Laws_isElsewhere {l : Launch} {rho : Nat → Int32} {d : Nat} {h : my_H} {Q : my_H → my_V → Prop} {x0 x1 x2 x3 x4 : Int} (t0 : my_is 6 x0) (a1 : 0 ≤ x1) (b1 : x1 ≤ 2) (a2 : 0 ≤ x2) (b2 : x2 ≤ 19) (a3 : 0 ≤ x3) (b3 : x3 ≤ 3) (a4 : 0 ≤ x4) (b4 : x4 ≤ 19) (k0 : Q h (0, 0)) (k1 : Q h (0, 1)) : wp l rho (d + 1) 103 0 [(2, x0), (0, x1), (0, x2), (0, x3), (0, x4), (9, 0), (9, 0)] [] h Q := by
  have J3_0 : ∀ (n : Nat) (p3_0 : Int), 0 ≤ p3_0 → p3_0 ≤ 20 → 21 - p3_0 ≤ (n : Int) → wp l rho (d + 1) 103 3 [(2, x0), (0, x1), (0, x2), (0, x3), (0, x4), (0, p3_0), (9, 0)] [] h Q := by
    intro n
    induction n with
    | zero => intro p3_0 q0_3_0 q1_3_0 hm_3_0; exfalso; omega
    | succ n ih_3_0 =>
      intro p3_0 q0_3_0 q1_3_0 hm_3_0
      have J51_0 : ∀ (p51_0 : Int), p3_0 ≤ 19 → 0 ≤ p51_0 → p51_0 ≤ 236 → wp l rho (d + 1) 103 51 [(2, x0), (0, x1), (0, x2), (0, x3), (0, x4), (0, p3_0), (0, p51_0)] [] h Q := by
        intro p51_0 q0_51_0 q1_51_0 q2_51_0
        refine w_iinc (ls' := [(2, x0), (0, x1), (0, x2), (0, x3), (0, x4), (0, (p3_0 + 1)), (0, p51_0)]) gz_103_51 rfl gm_103 rfl rfl rfl ⟨by omega, by omega⟩ ?_
        refine w_goto (t := 3) gz_103_54 rfl ?_
        refine w_weak (ls' := [(2, x0), (0, x1), (0, x2), (0, x3), (0, x4), (0, (p3_0 + 1)), (9, 0)]) (wk_e (wk_e (wk_e (wk_e (wk_e (wk_e (wk_9 wk_n))))))) ?_
        exact ih_3_0 ((p3_0 + 1)) (by omega) (by omega) (by omega)
      refine w_iload gz_103_3 rfl ?_
      refine w_bipush gz_103_5 (by decide) ?_
      refine w_icge (t := 57) gz_103_7 rfl (fun u1 => ?_) (fun u1 => ?_)
      ·
        refine w_iconst gz_103_57 (by decide) ?_
        exact w_bret gz_103_58 gm_103 (by omega) (by omega) (k0 )
      ·
        refine w_iload_n gz_103_10 rfl ?_
        refine w_iload gz_103_11 rfl ?_
        refine w_inS (k := 0) (as := [(0, p3_0), (0, x1)]) (r := []) (ls0 := [(0, x1), (0, p3_0)]) gz_103_13 gm_17 rfl rfl rfl rfl rfl rfl ?_
        refine w_iload_n gz_17_0 rfl ?_
        refine w_bipush gz_17_1 (by decide) ?_
        refine w_imul gz_17_3 ⟨by omega, by omega⟩ ?_
        refine w_iload_n gz_17_4 rfl ?_
        refine w_iadd gz_17_5 ⟨by omega, by omega⟩ ?_
        refine w_iconst gz_17_6 (by decide) ?_
        refine w_imul gz_17_7 ⟨by omega, by omega⟩ ?_
        refine w_iret gz_17_8 gm_17 ?_
        show wp l rho (d + 1) 103 16 [(2, x0), (0, x1), (0, x2), (0, x3), (0, x4), (0, p3_0), (9, 0)] [(0, (((x1 * 20) + p3_0) * 4))] h Q
        refine w_istore (ls' := [(2, x0), (0, x1), (0, x2), (0, x3), (0, x4), (0, p3_0), (0, (((x1 * 20) + p3_0) * 4))]) gz_103_16 gm_103 rfl rfl rfl ?_
        refine w_iload gz_103_18 rfl ?_
        refine w_iload_n gz_103_20 rfl ?_
        refine w_iceq (t := 51) gz_103_21 rfl (fun u2 => ?_) (fun u2 => ?_)
        ·
          exact J51_0 ((((x1 * 20) + p3_0) * 4)) (by omega) (by omega) (by omega)
        ·
          refine w_aload_n gz_103_24 rfl ?_
          refine w_getX (v := (x0 + 1)) gz_103_25 t0 rd_6 rfl (by decide) rfl ?_
          refine w_iload gz_103_28 rfl ?_
          refine w_iald gz_103_30 (ix_6_1 t0) rd_30 (by omega) (by omega) (fun v4 ev4 pv4 qv4 => ?_)
          refine w_iconst gz_103_31 (by decide) ?_
          refine w_iceq (t := 51) gz_103_32 rfl (fun u5 => ?_) (fun u5 => ?_)
          ·
            exact J51_0 ((((x1 * 20) + p3_0) * 4)) (by omega) (by omega) (by omega)
          ·
            refine w_aload_n gz_103_35 rfl ?_
            refine w_getX (v := (x0 + 1)) gz_103_36 t0 rd_6 rfl (by decide) rfl ?_
            refine w_iload gz_103_39 rfl ?_
            refine w_iload_n gz_103_41 rfl ?_
            refine w_iadd gz_103_42 ⟨by omega, by omega⟩ ?_
            refine w_iald gz_103_43 (ix_6_1 t0) rd_30 (by omega) (by omega) (fun v7 ev7 pv7 qv7 => ?_)
            refine w_iload gz_103_44 rfl ?_
            refine w_icne (t := 51) gz_103_46 rfl (fun u8 => ?_) (fun u8 => ?_)
            ·
              exact J51_0 ((((x1 * 20) + p3_0) * 4)) (by omega) (by omega) (by omega)
            ·
              refine w_iconst gz_103_49 (by decide) ?_
              exact w_bret gz_103_50 gm_103 (by omega) (by omega) (k1 )
  refine w_iconst gz_103_0 (by decide) ?_
  refine w_istore (ls' := [(2, x0), (0, x1), (0, x2), (0, x3), (0, x4), (0, 0), (9, 0)]) gz_103_1 gm_103 rfl rfl rfl ?_
  exact J3_0 21 (0) (by omega) (by omega) (by omega)
theorem ix_4_6 {x : Int} (hx : my_is 4 x) : my_is 37 (x + 6) := my_isOff (δ := 6) hx (by decide +kernel)
theorem gz_29_0 : mz_pg 29 0 = some (.iload_n 0, 0, 0, 0) := by decide +kernel
theorem gz_29_1 : mz_pg 29 1 = some (.iconst 4, 0, 0, 0) := by decide +kernel
theorem gz_29_2 : mz_pg 29 2 = some (.imul, 0, 0, 0) := by decide +kernel
theorem gz_29_3 : mz_pg 29 3 = some (.iload_n 1, 0, 0, 0) := by decide +kernel
theorem gz_29_4 : mz_pg 29 4 = some (.iadd, 0, 0, 0) := by decide +kernel
theorem gz_29_5 : mz_pg 29 5 = some (.ireturn, 0, 0, 0) := by decide +kernel
theorem gz_107_0 : mz_pg 107 0 = some (.iconst 0, 0, 0, 0) := by decide +kernel
theorem gz_107_1 : mz_pg 107 1 = some (.istore_n 2, 0, 0, 0) := by decide +kernel
theorem gz_107_2 : mz_pg 107 2 = some (.iload_n 2, 0, 0, 0) := by decide +kernel
theorem gz_107_3 : mz_pg 107 3 = some (.aload_n 0, 0, 0, 0) := by decide +kernel
theorem gz_107_4 : mz_pg 107 4 = some (.getfield 46, 4, 4, 208) := by decide +kernel
theorem gz_107_7 : mz_pg 107 7 = some (.if_icmp .ge 28, 0, 0, 0) := by decide +kernel
theorem gz_107_10 : mz_pg 107 10 = some (.aload_n 0, 0, 0, 0) := by decide +kernel
theorem gz_107_11 : mz_pg 107 11 = some (.getfield 27, 4, 15, 232) := by decide +kernel
theorem gz_107_14 : mz_pg 107 14 = some (.iload_n 2, 0, 0, 0) := by decide +kernel
theorem gz_107_15 : mz_pg 107 15 = some (.iaload, 0, 0, 0) := by decide +kernel
theorem gz_107_16 : mz_pg 107 16 = some (.aload_n 0, 0, 0, 0) := by decide +kernel
theorem gz_107_17 : mz_pg 107 17 = some (.getfield 40, 4, 2, 201) := by decide +kernel
theorem gz_107_20 : mz_pg 107 20 = some (.iload_n 1, 0, 0, 0) := by decide +kernel
theorem gz_107_21 : mz_pg 107 21 = some (.invokestatic 65, 2, 29, 6) := by decide +kernel
theorem gz_107_24 : mz_pg 107 24 = some (.if_icmp .ne 5, 0, 0, 0) := by decide +kernel
theorem gz_107_27 : mz_pg 107 27 = some (.iload_n 2, 0, 0, 0) := by decide +kernel
theorem gz_107_28 : mz_pg 107 28 = some (.ireturn, 0, 0, 0) := by decide +kernel
theorem gz_107_29 : mz_pg 107 29 = some (.iinc 2 1, 0, 0, 0) := by decide +kernel
theorem gz_107_32 : mz_pg 107 32 = some (.goto (-30), 0, 0, 0) := by decide +kernel
theorem gz_107_35 : mz_pg 107 35 = some (.iconst (-1), 0, 0, 0) := by decide +kernel
theorem gz_107_36 : mz_pg 107 36 = some (.ireturn, 0, 0, 0) := by decide +kernel
theorem gm_29 : my_mm 29 2 (some .int) 2 9 := by unfold my_mm; decide +kernel
theorem gm_107 : my_mm 107 3 (some .int) 1 4 := by unfold my_mm; decide +kernel
theorem rd_4 : my_rd 4 = .inr (4, [(0, 0, 1), (0, -1, 5), (0, 0, 2), (0, 0, 4), (0, 0, 8), (0, -2147483648, 2147483647), (0, -2147483648, 2147483647), (0, 0, 1), (0, -2147483648, 2147483647), (0, 0, 6), (2, 32, 1), (2, 33, 2), (2, 34, 3), (2, 35, 4), (2, 36, 5), (2, 37, 6), (2, 38, 7), (2, 39, 8)]) := rfl
theorem rd_37 : my_rd 37 = .inl (0, 8, [(0, -1, 27)]) := rfl
theorem c1_Lens_columnShowing {l : Launch} {rho : Nat → Int32} {d : Nat} {h : my_H} {Q : my_H → my_V → Prop} {x0 x1 : Int} (t0 : my_is 4 x0) (a1 : 0 ≤ x1) (b1 : x1 ≤ 3) (k0 : Q h (0, (-1))) (k1 : ∀ (y : Int), 0 ≤ y → y ≤ 7 → 1 ≤ h x0 4 → h x0 4 ≤ 8 → Q h (0, y)) : wp l rho (d + 1) 107 0 [(2, x0), (0, x1), (9, 0)] [] h Q := by
  have J2_0 : ∀ (n : Nat) (p2_0 : Int), 0 ≤ p2_0 → p2_0 ≤ 8 → 9 - p2_0 ≤ (n : Int) → wp l rho (d + 1) 107 2 [(2, x0), (0, x1), (0, p2_0)] [] h Q := by
    intro n
    induction n with
    | zero => intro p2_0 q0_2_0 q1_2_0 hm_2_0; exfalso; omega
    | succ n ih_2_0 =>
      intro p2_0 q0_2_0 q1_2_0 hm_2_0
      refine w_iload_n gz_107_2 rfl ?_
      refine w_aload_n gz_107_3 rfl ?_
      refine v_getI (j := 4) gz_107_4 rfl t0 rd_4 rfl (fun v1 ev1 pv1 qv1 => ?_)
      refine w_icge (t := 35) gz_107_7 rfl (fun u2 => ?_) (fun u2 => ?_)
      ·
        refine w_iconst gz_107_35 (by decide) ?_
        exact w_iret gz_107_36 gm_107 (k0 )
      ·
        refine w_aload_n gz_107_10 rfl ?_
        refine w_getX (v := (x0 + 6)) gz_107_11 t0 rd_4 rfl (by decide) rfl ?_
        refine w_iload_n gz_107_14 rfl ?_
        refine w_iald gz_107_15 (ix_4_6 t0) rd_37 (by omega) (by omega) (fun v4 ev4 pv4 qv4 => ?_)
        refine w_aload_n gz_107_16 rfl ?_
        refine v_getI (j := 2) gz_107_17 rfl t0 rd_4 rfl (fun v5 ev5 pv5 qv5 => ?_)
        refine w_iload_n gz_107_20 rfl ?_
        refine w_inS (k := 0) (as := [(0, x1), (0, v5)]) (r := [(0, v4)]) (ls0 := [(0, v5), (0, x1)]) gz_107_21 gm_29 rfl rfl rfl rfl rfl rfl ?_
        refine w_iload_n gz_29_0 rfl ?_
        refine w_iconst gz_29_1 (by decide) ?_
        refine w_imul gz_29_2 ⟨by omega, by omega⟩ ?_
        refine w_iload_n gz_29_3 rfl ?_
        refine w_iadd gz_29_4 ⟨by omega, by omega⟩ ?_
        refine w_iret gz_29_5 gm_29 ?_
        show wp l rho (d + 1) 107 24 [(2, x0), (0, x1), (0, p2_0)] [(0, ((v5 * 4) + x1)), (0, v4)] h Q
        refine w_icne (t := 29) gz_107_24 rfl (fun u6 => ?_) (fun u6 => ?_)
        ·
          refine w_iinc (ls' := [(2, x0), (0, x1), (0, (p2_0 + 1))]) gz_107_29 rfl gm_107 rfl rfl rfl ⟨by omega, by omega⟩ ?_
          refine w_goto (t := 2) gz_107_32 rfl ?_
          exact ih_2_0 ((p2_0 + 1)) (by omega) (by omega) (by omega)
        ·
          refine w_iload_n gz_107_27 rfl ?_
          have c7 := ev1.symm
          exact w_iret gz_107_28 gm_107 (k1 (p2_0) (by omega) (by omega) (by omega) (by omega))
  refine w_iconst gz_107_0 (by decide) ?_
  refine w_istore_n (ls' := [(2, x0), (0, x1), (0, 0)]) gz_107_1 gm_107 rfl rfl rfl ?_
  exact J2_0 9 (0) (by omega) (by omega) (by omega)
theorem gz_116_0 : mz_pg 116 0 = some (.iconst 0, 0, 0, 0) := by decide +kernel
theorem gz_116_1 : mz_pg 116 1 = some (.istore_n 2, 0, 0, 0) := by decide +kernel
theorem gz_116_2 : mz_pg 116 2 = some (.iload_n 2, 0, 0, 0) := by decide +kernel
theorem gz_116_3 : mz_pg 116 3 = some (.aload_n 0, 0, 0, 0) := by decide +kernel
theorem gz_116_4 : mz_pg 116 4 = some (.getfield 9, 6, 0, 176) := by decide +kernel
theorem gz_116_7 : mz_pg 116 7 = some (.arraylength, 0, 0, 0) := by decide +kernel
theorem gz_116_8 : mz_pg 116 8 = some (.if_icmp .ge 26, 0, 0, 0) := by decide +kernel
theorem gz_116_11 : mz_pg 116 11 = some (.aload_n 0, 0, 0, 0) := by decide +kernel
theorem gz_116_12 : mz_pg 116 12 = some (.getfield 9, 6, 0, 176) := by decide +kernel
theorem gz_116_15 : mz_pg 116 15 = some (.iload_n 2, 0, 0, 0) := by decide +kernel
theorem gz_116_16 : mz_pg 116 16 = some (.iaload, 0, 0, 0) := by decide +kernel
theorem gz_116_17 : mz_pg 116 17 = some (.aload_n 1, 0, 0, 0) := by decide +kernel
theorem gz_116_18 : mz_pg 116 18 = some (.getfield 9, 6, 0, 176) := by decide +kernel
theorem gz_116_21 : mz_pg 116 21 = some (.iload_n 2, 0, 0, 0) := by decide +kernel
theorem gz_116_22 : mz_pg 116 22 = some (.iaload, 0, 0, 0) := by decide +kernel
theorem gz_116_23 : mz_pg 116 23 = some (.if_icmp .eq 5, 0, 0, 0) := by decide +kernel
theorem gz_116_26 : mz_pg 116 26 = some (.iconst 0, 0, 0, 0) := by decide +kernel
theorem gz_116_27 : mz_pg 116 27 = some (.ireturn, 0, 0, 0) := by decide +kernel
theorem gz_116_28 : mz_pg 116 28 = some (.iinc 2 1, 0, 0, 0) := by decide +kernel
theorem gz_116_31 : mz_pg 116 31 = some (.goto (-29), 0, 0, 0) := by decide +kernel
theorem gz_116_34 : mz_pg 116 34 = some (.iconst 1, 0, 0, 0) := by decide +kernel
theorem gz_116_35 : mz_pg 116 35 = some (.ireturn, 0, 0, 0) := by decide +kernel
theorem gm_116 : my_mm 116 3 (some .boolean) 1 6 := by unfold my_mm; decide +kernel
theorem c2_Rows_same {l : Launch} {rho : Nat → Int32} {d : Nat} {h : my_H} {Q : my_H → my_V → Prop} {x0 x1 : Int} (t0 : my_is 6 x0) (t1 : my_is 6 x1) (k0 : Q h (0, 0)) (k1 : Q h (0, 1)) : wp l rho d 116 0 [(2, x0), (2, x1), (9, 0)] [] h Q := by
  have J2_0 : ∀ (n : Nat) (p2_0 : Int), 0 ≤ p2_0 → p2_0 ≤ 240 → 241 - p2_0 ≤ (n : Int) → wp l rho d 116 2 [(2, x0), (2, x1), (0, p2_0)] [] h Q := by
    intro n
    induction n with
    | zero => intro p2_0 q0_2_0 q1_2_0 hm_2_0; exfalso; omega
    | succ n ih_2_0 =>
      intro p2_0 q0_2_0 q1_2_0 hm_2_0
      refine w_iload_n gz_116_2 rfl ?_
      refine w_aload_n gz_116_3 rfl ?_
      refine w_getX (v := (x0 + 1)) gz_116_4 t0 rd_6 rfl (by decide) rfl ?_
      refine v_alen (j := 240) gz_116_7 rfl (ix_6_1 t0) rd_30 (by decide) ?_
      refine w_icge (t := 34) gz_116_8 rfl (fun u2 => ?_) (fun u2 => ?_)
      ·
        refine w_iconst gz_116_34 (by decide) ?_
        exact w_bret gz_116_35 gm_116 (by omega) (by omega) (k1 )
      ·
        refine w_aload_n gz_116_11 rfl ?_
        refine w_getX (v := (x0 + 1)) gz_116_12 t0 rd_6 rfl (by decide) rfl ?_
        refine w_iload_n gz_116_15 rfl ?_
        refine w_iald gz_116_16 (ix_6_1 t0) rd_30 (by omega) (by omega) (fun v4 ev4 pv4 qv4 => ?_)
        refine w_aload_n gz_116_17 rfl ?_
        refine w_getX (v := (x1 + 1)) gz_116_18 t1 rd_6 rfl (by decide) rfl ?_
        refine w_iload_n gz_116_21 rfl ?_
        refine w_iald gz_116_22 (ix_6_1 t1) rd_30 (by omega) (by omega) (fun v6 ev6 pv6 qv6 => ?_)
        refine w_iceq (t := 28) gz_116_23 rfl (fun u7 => ?_) (fun u7 => ?_)
        ·
          refine w_iinc (ls' := [(2, x0), (2, x1), (0, (p2_0 + 1))]) gz_116_28 rfl gm_116 rfl rfl rfl ⟨by omega, by omega⟩ ?_
          refine w_goto (t := 2) gz_116_31 rfl ?_
          exact ih_2_0 ((p2_0 + 1)) (by omega) (by omega) (by omega)
        ·
          refine w_iconst gz_116_26 (by decide) ?_
          exact w_bret gz_116_27 gm_116 (by omega) (by omega) (k0 )
  refine w_iconst gz_116_0 (by decide) ?_
  refine w_istore_n (ls' := [(2, x0), (2, x1), (0, 0)]) gz_116_1 gm_116 rfl rfl rfl ?_
  exact J2_0 241 (0) (by omega) (by omega) (by omega)
theorem is_0 : my_is 9 0 := by unfold my_is; decide +kernel
theorem is_1 : my_is 3 1 := by unfold my_is; decide +kernel
theorem is_2 : my_is 25 2 := by unfold my_is; decide +kernel
theorem gz_12_0 : mz_pg 12 0 = some (.iload_n 1, 0, 0, 0) := by decide +kernel
theorem gz_12_1 : mz_pg 12 1 = some (.ifCond .lt 29, 0, 0, 0) := by decide +kernel
theorem gz_12_4 : mz_pg 12 4 = some (.iload_n 1, 0, 0, 0) := by decide +kernel
theorem gz_12_5 : mz_pg 12 5 = some (.iconst 3, 0, 0, 0) := by decide +kernel
theorem gz_12_6 : mz_pg 12 6 = some (.if_icmp .ge 24, 0, 0, 0) := by decide +kernel
theorem gz_12_9 : mz_pg 12 9 = some (.aload_n 0, 0, 0, 0) := by decide +kernel
theorem gz_12_10 : mz_pg 12 10 = some (.getfield 10, 9, 0, 528) := by decide +kernel
theorem gz_12_13 : mz_pg 12 13 = some (.iload_n 1, 0, 0, 0) := by decide +kernel
theorem gz_12_14 : mz_pg 12 14 = some (.invokevirtual 88, 1, 13, 578) := by decide +kernel
theorem gz_12_17 : mz_pg 12 17 = some (.ifCond .ne 13, 0, 0, 0) := by decide +kernel
theorem gz_12_20 : mz_pg 12 20 = some (.iload_n 2, 0, 0, 0) := by decide +kernel
theorem gz_12_21 : mz_pg 12 21 = some (.iconst 1, 0, 0, 0) := by decide +kernel
theorem gz_12_22 : mz_pg 12 22 = some (.if_icmp .lt 8, 0, 0, 0) := by decide +kernel
theorem gz_12_25 : mz_pg 12 25 = some (.iload_n 2, 0, 0, 0) := by decide +kernel
theorem gz_12_26 : mz_pg 12 26 = some (.iconst 4, 0, 0, 0) := by decide +kernel
theorem gz_12_27 : mz_pg 12 27 = some (.if_icmp .le 5, 0, 0, 0) := by decide +kernel
theorem gz_12_30 : mz_pg 12 30 = some (.iconst 0, 0, 0, 0) := by decide +kernel
theorem gz_12_31 : mz_pg 12 31 = some (.ireturn, 0, 0, 0) := by decide +kernel
theorem gz_12_32 : mz_pg 12 32 = some (.aload_n 0, 0, 0, 0) := by decide +kernel
theorem gz_12_33 : mz_pg 12 33 = some (.getfield 10, 9, 0, 528) := by decide +kernel
theorem gz_12_36 : mz_pg 12 36 = some (.getfield 92, 3, 0, 145) := by decide +kernel
theorem gz_12_39 : mz_pg 12 39 = some (.iload_n 1, 0, 0, 0) := by decide +kernel
theorem gz_12_40 : mz_pg 12 40 = some (.iload_n 2, 0, 0, 0) := by decide +kernel
theorem gz_12_41 : mz_pg 12 41 = some (.iastore, 0, 0, 0) := by decide +kernel
theorem gz_12_42 : mz_pg 12 42 = some (.iconst 1, 0, 0, 0) := by decide +kernel
theorem gz_12_43 : mz_pg 12 43 = some (.ireturn, 0, 0, 0) := by decide +kernel
theorem gz_13_0 : mz_pg 13 0 = some (.iload_n 1, 0, 0, 0) := by decide +kernel
theorem gz_13_1 : mz_pg 13 1 = some (.ifCond .lt 21, 0, 0, 0) := by decide +kernel
theorem gz_13_4 : mz_pg 13 4 = some (.iload_n 1, 0, 0, 0) := by decide +kernel
theorem gz_13_5 : mz_pg 13 5 = some (.iconst 3, 0, 0, 0) := by decide +kernel
theorem gz_13_6 : mz_pg 13 6 = some (.if_icmp .ge 16, 0, 0, 0) := by decide +kernel
theorem gz_13_9 : mz_pg 13 9 = some (.aload_n 0, 0, 0, 0) := by decide +kernel
theorem gz_13_10 : mz_pg 13 10 = some (.getfield 9, 3, 0, 144) := by decide +kernel
theorem gz_13_13 : mz_pg 13 13 = some (.iload_n 1, 0, 0, 0) := by decide +kernel
theorem gz_13_14 : mz_pg 13 14 = some (.iaload, 0, 0, 0) := by decide +kernel
theorem gz_13_15 : mz_pg 13 15 = some (.ifCond .le 7, 0, 0, 0) := by decide +kernel
theorem gz_13_18 : mz_pg 13 18 = some (.iconst 1, 0, 0, 0) := by decide +kernel
theorem gz_13_19 : mz_pg 13 19 = some (.goto 4, 0, 0, 0) := by decide +kernel
theorem gz_13_22 : mz_pg 13 22 = some (.iconst 0, 0, 0, 0) := by decide +kernel
theorem gz_13_23 : mz_pg 13 23 = some (.ireturn, 0, 0, 0) := by decide +kernel
theorem gm_12 : my_mm 12 3 (some .boolean) 2 9 := by unfold my_mm; decide +kernel
theorem gm_13 : my_mm 13 2 (some .boolean) 1 3 := by unfold my_mm; decide +kernel
theorem rd_3 : my_rd 3 = .inr (3, [(2, 25, 1), (2, 26, 2), (2, 27, 3), (2, 28, 4), (2, 29, 5)]) := rfl
theorem rd_9 : my_rd 9 = .inr (9, [(2, 3, 1), (2, 6, 7), (2, 6, 10), (0, 0, 1), (2, 20, 13), (2, 21, 26), (2, 22, 27), (2, 5, 82), (2, 23, 93), (2, 2, 94), (2, 1, 114), (2, 0, 120), (2, 24, 144), (2, 6, 145), (2, 6, 148)]) := rfl
theorem rd_25 : my_rd 25 = .inl (0, 3, [(0, 0, 4)]) := rfl
theorem c3_ThroughWindow_wall {l : Launch} {rho : Nat → Int32} {d : Nat} {h : my_H} {Q : my_H → my_V → Prop} {x1 x2 : Int} (k0 : ∀ (h' : my_H), my_fr [(25, -1)] h h' → Q h' (0, 0)) (k1 : ∀ (h' : my_H), my_fr [(25, -1)] h h' → 0 ≤ x1 → x1 ≤ 2 → 1 ≤ x2 → x2 ≤ 4 → Q h' (0, 1)) : wp l rho (d + 1) 12 0 [(2, 0), (0, x1), (0, x2)] [] h Q := by
  refine w_iload_n gz_12_0 rfl ?_
  refine w_iflt (t := 30) gz_12_1 rfl (fun u1 => ?_) (fun u1 => ?_)
  ·
    refine w_iconst gz_12_30 (by decide) ?_
    exact w_bret gz_12_31 gm_12 (by omega) (by omega) (k0 h (my_fr.rf))
  ·
    refine w_iload_n gz_12_4 rfl ?_
    refine w_iconst gz_12_5 (by decide) ?_
    refine w_icge (t := 30) gz_12_6 rfl (fun u2 => ?_) (fun u2 => ?_)
    ·
      refine w_iconst gz_12_30 (by decide) ?_
      exact w_bret gz_12_31 gm_12 (by omega) (by omega) (k0 h (my_fr.rf))
    ·
      refine w_aload_n gz_12_9 rfl ?_
      refine w_getX (v := 1) gz_12_10 is_0 rd_9 rfl (by decide) rfl ?_
      refine w_iload_n gz_12_13 rfl ?_
      refine w_inv (k := 0) (as := [(0, x1)]) (r := []) (x := 1) (ls0 := [(2, 1), (0, x1)]) gz_12_14 gm_13 rfl is_1 rd_3 rfl rfl rfl rfl rfl ?_
      refine w_iload_n gz_13_0 rfl ?_
      refine w_iflt (t := 22) gz_13_1 rfl (fun u4 => by exfalso; omega) (fun u4 => ?_)
      refine w_iload_n gz_13_4 rfl ?_
      refine w_iconst gz_13_5 (by decide) ?_
      refine w_icge (t := 22) gz_13_6 rfl (fun u5 => by exfalso; omega) (fun u5 => ?_)
      refine w_aload_n gz_13_9 rfl ?_
      refine w_getX (v := 2) gz_13_10 is_1 rd_3 rfl (by decide) rfl ?_
      refine w_iload_n gz_13_13 rfl ?_
      refine w_iald gz_13_14 is_2 rd_25 (by omega) (by omega) (fun v7 ev7 pv7 qv7 => ?_)
      refine w_ifle (t := 22) gz_13_15 rfl (fun u8 => ?_) (fun u8 => ?_)
      ·
        refine w_iconst gz_13_22 (by decide) ?_
        refine w_bret gz_13_23 gm_13 (by omega) (by omega) ?_
        show wp l rho (d + 1) 12 17 [(2, 0), (0, x1), (0, x2)] [(0, 0)] h Q
        refine w_ifne (t := 30) gz_12_17 rfl (fun u9 => by exfalso; omega) (fun u9 => ?_)
        refine w_iload_n gz_12_20 rfl ?_
        refine w_iconst gz_12_21 (by decide) ?_
        refine w_iclt (t := 30) gz_12_22 rfl (fun u10 => ?_) (fun u10 => ?_)
        ·
          refine w_iconst gz_12_30 (by decide) ?_
          exact w_bret gz_12_31 gm_12 (by omega) (by omega) (k0 h (my_fr.rf))
        ·
          refine w_iload_n gz_12_25 rfl ?_
          refine w_iconst gz_12_26 (by decide) ?_
          refine w_icle (t := 32) gz_12_27 rfl (fun u11 => ?_) (fun u11 => ?_)
          ·
            refine w_aload_n gz_12_32 rfl ?_
            refine w_getX (v := 1) gz_12_33 is_0 rd_9 rfl (by decide) rfl ?_
            refine w_getX (v := 2) gz_12_36 is_1 rd_3 rfl (by decide) rfl ?_
            refine w_iload_n gz_12_39 rfl ?_
            refine w_iload_n gz_12_40 rfl ?_
            refine w_iast gz_12_41 is_2 rd_25 (by omega) (by omega) (by omega) (by omega) (fun h14 fh14 => ?_)
            have gh14 : my_fr [(25, -1)] h h14 := my_fr.up my_fr.rf is_2 fh14 rfl
            refine w_iconst gz_12_42 (by decide) ?_
            exact w_bret gz_12_43 gm_12 (by omega) (by omega) (k1 h14 (gh14) (by omega) (by omega) (by omega) (by omega))
          ·
            refine w_iconst gz_12_30 (by decide) ?_
            exact w_bret gz_12_31 gm_12 (by omega) (by omega) (k0 h (my_fr.rf))
      ·
        refine w_iconst gz_13_18 (by decide) ?_
        refine w_goto (t := 23) gz_13_19 rfl ?_
        refine w_bret gz_13_23 gm_13 (by omega) (by omega) ?_
        show wp l rho (d + 1) 12 17 [(2, 0), (0, x1), (0, x2)] [(0, 1)] h Q
        refine w_ifne (t := 30) gz_12_17 rfl (fun u15 => ?_) (fun u15 => by exfalso; omega)
        refine w_iconst gz_12_30 (by decide) ?_
        exact w_bret gz_12_31 gm_12 (by omega) (by omega) (k0 h (my_fr.rf))
theorem gz_15_0 : mz_pg 15 0 = some (.iload_n 2, 0, 0, 0) := by decide +kernel
theorem gz_15_1 : mz_pg 15 1 = some (.ifCond .lt 30, 0, 0, 0) := by decide +kernel
theorem gz_15_4 : mz_pg 15 4 = some (.iload_n 2, 0, 0, 0) := by decide +kernel
theorem gz_15_5 : mz_pg 15 5 = some (.bipush 20, 0, 0, 0) := by decide +kernel
theorem gz_15_7 : mz_pg 15 7 = some (.if_icmp .ge 24, 0, 0, 0) := by decide +kernel
theorem gz_15_10 : mz_pg 15 10 = some (.aload_n 0, 0, 0, 0) := by decide +kernel
theorem gz_15_11 : mz_pg 15 11 = some (.getfield 9, 6, 0, 176) := by decide +kernel
theorem gz_15_14 : mz_pg 15 14 = some (.iload_n 1, 0, 0, 0) := by decide +kernel
theorem gz_15_15 : mz_pg 15 15 = some (.bipush 20, 0, 0, 0) := by decide +kernel
theorem gz_15_17 : mz_pg 15 17 = some (.imul, 0, 0, 0) := by decide +kernel
theorem gz_15_18 : mz_pg 15 18 = some (.iload_n 2, 0, 0, 0) := by decide +kernel
theorem gz_15_19 : mz_pg 15 19 = some (.iadd, 0, 0, 0) := by decide +kernel
theorem gz_15_20 : mz_pg 15 20 = some (.iconst 4, 0, 0, 0) := by decide +kernel
theorem gz_15_21 : mz_pg 15 21 = some (.imul, 0, 0, 0) := by decide +kernel
theorem gz_15_22 : mz_pg 15 22 = some (.iaload, 0, 0, 0) := by decide +kernel
theorem gz_15_23 : mz_pg 15 23 = some (.iconst (-1), 0, 0, 0) := by decide +kernel
theorem gz_15_24 : mz_pg 15 24 = some (.if_icmp .eq 7, 0, 0, 0) := by decide +kernel
theorem gz_15_27 : mz_pg 15 27 = some (.iconst 1, 0, 0, 0) := by decide +kernel
theorem gz_15_28 : mz_pg 15 28 = some (.goto 4, 0, 0, 0) := by decide +kernel
theorem gz_15_31 : mz_pg 15 31 = some (.iconst 0, 0, 0, 0) := by decide +kernel
theorem gz_15_32 : mz_pg 15 32 = some (.ireturn, 0, 0, 0) := by decide +kernel
theorem gz_121_0 : mz_pg 121 0 = some (.iconst 0, 0, 0, 0) := by decide +kernel
theorem gz_121_1 : mz_pg 121 1 = some (.istore_n 3, 0, 0, 0) := by decide +kernel
theorem gz_121_2 : mz_pg 121 2 = some (.iconst 0, 0, 0, 0) := by decide +kernel
theorem gz_121_3 : mz_pg 121 3 = some (.istore 4, 0, 0, 0) := by decide +kernel
theorem gz_121_5 : mz_pg 121 5 = some (.iconst 0, 0, 0, 0) := by decide +kernel
theorem gz_121_6 : mz_pg 121 6 = some (.istore 5, 0, 0, 0) := by decide +kernel
theorem gz_121_8 : mz_pg 121 8 = some (.iload 5, 0, 0, 0) := by decide +kernel
theorem gz_121_10 : mz_pg 121 10 = some (.bipush 20, 0, 0, 0) := by decide +kernel
theorem gz_121_12 : mz_pg 121 12 = some (.if_icmp .ge 34, 0, 0, 0) := by decide +kernel
theorem gz_121_15 : mz_pg 121 15 = some (.aload_n 0, 0, 0, 0) := by decide +kernel
theorem gz_121_16 : mz_pg 121 16 = some (.iload_n 1, 0, 0, 0) := by decide +kernel
theorem gz_121_17 : mz_pg 121 17 = some (.iload 5, 0, 0, 0) := by decide +kernel
theorem gz_121_19 : mz_pg 121 19 = some (.invokevirtual 28, 1, 15, 1041) := by decide +kernel
theorem gz_121_22 : mz_pg 121 22 = some (.ifCond .eq 18, 0, 0, 0) := by decide +kernel
theorem gz_121_25 : mz_pg 121 25 = some (.iload_n 3, 0, 0, 0) := by decide +kernel
theorem gz_121_26 : mz_pg 121 26 = some (.iload_n 2, 0, 0, 0) := by decide +kernel
theorem gz_121_27 : mz_pg 121 27 = some (.iload 4, 0, 0, 0) := by decide +kernel
theorem gz_121_29 : mz_pg 121 29 = some (.ishr, 0, 0, 0) := by decide +kernel
theorem gz_121_30 : mz_pg 121 30 = some (.iconst 1, 0, 0, 0) := by decide +kernel
theorem gz_121_31 : mz_pg 121 31 = some (.iand, 0, 0, 0) := by decide +kernel
theorem gz_121_32 : mz_pg 121 32 = some (.iload 5, 0, 0, 0) := by decide +kernel
theorem gz_121_34 : mz_pg 121 34 = some (.ishl, 0, 0, 0) := by decide +kernel
theorem gz_121_35 : mz_pg 121 35 = some (.ior, 0, 0, 0) := by decide +kernel
theorem gz_121_36 : mz_pg 121 36 = some (.istore_n 3, 0, 0, 0) := by decide +kernel
theorem gz_121_37 : mz_pg 121 37 = some (.iinc 4 1, 0, 0, 0) := by decide +kernel
theorem gz_121_40 : mz_pg 121 40 = some (.iinc 5 1, 0, 0, 0) := by decide +kernel
theorem gz_121_43 : mz_pg 121 43 = some (.goto (-35), 0, 0, 0) := by decide +kernel
theorem gz_121_46 : mz_pg 121 46 = some (.iload_n 3, 0, 0, 0) := by decide +kernel
theorem gz_121_47 : mz_pg 121 47 = some (.ireturn, 0, 0, 0) := by decide +kernel
theorem gm_15 : my_mm 15 3 (some .boolean) 2 6 := by unfold my_mm; decide +kernel
theorem gm_121 : my_mm 121 6 (some .int) 2 6 := by unfold my_mm; decide +kernel
theorem c4_Rows_keysOf {l : Launch} {rho : Nat → Int32} {d : Nat} {h : my_H} {Q : my_H → my_V → Prop} {x0 x1 x2 : Int} (t0 : my_is 6 x0) (a1 : 0 ≤ x1) (b1 : x1 ≤ 2) (a2 : (-1) ≤ x2) (b2 : x2 ≤ 2147483646) (k0 : ∀ (y : Int), Q h (0, y)) : wp l rho (d + 1) 121 0 [(2, x0), (0, x1), (0, x2), (9, 0), (9, 0), (9, 0)] [] h Q := by
  have J8_0 : ∀ (n : Nat) (p8_0 p8_1 p8_2 : Int), 0 ≤ p8_1 → p8_1 ≤ 20 → 0 ≤ p8_2 → p8_2 ≤ 20 → p8_1 ≤ p8_2 → 21 - p8_2 ≤ (n : Int) → wp l rho (d + 1) 121 8 [(2, x0), (0, x1), (0, x2), (0, p8_0), (0, p8_1), (0, p8_2)] [] h Q := by
    intro n
    induction n with
    | zero => intro p8_0 p8_1 p8_2 q0_8_0 q1_8_0 q2_8_0 q3_8_0 q4_8_0 hm_8_0; exfalso; omega
    | succ n ih_8_0 =>
      intro p8_0 p8_1 p8_2 q0_8_0 q1_8_0 q2_8_0 q3_8_0 q4_8_0 hm_8_0
      have J40_0 : ∀ (p40_0 p40_1 : Int), 0 ≤ p40_1 → p40_1 ≤ 20 → p8_2 ≤ 19 → p8_1 ≤ 19 → p40_1 ≤ (p8_2 + 1) → p40_1 ≤ (p8_1 + 1) → p8_1 ≤ p40_1 → p8_1 ≤ p8_2 → wp l rho (d + 1) 121 40 [(2, x0), (0, x1), (0, x2), (0, p40_0), (0, p40_1), (0, p8_2)] [] h Q := by
        intro p40_0 p40_1 q0_40_0 q1_40_0 q2_40_0 q3_40_0 q4_40_0 q5_40_0 q6_40_0 q7_40_0
        refine w_iinc (ls' := [(2, x0), (0, x1), (0, x2), (0, p40_0), (0, p40_1), (0, (p8_2 + 1))]) gz_121_40 rfl gm_121 rfl rfl rfl ⟨by omega, by omega⟩ ?_
        refine w_goto (t := 8) gz_121_43 rfl ?_
        exact ih_8_0 (p40_0) (p40_1) ((p8_2 + 1)) (by omega) (by omega) (by omega) (by omega) (by omega) (by omega)
      refine w_iload gz_121_8 rfl ?_
      refine w_bipush gz_121_10 (by decide) ?_
      refine w_icge (t := 46) gz_121_12 rfl (fun u1 => ?_) (fun u1 => ?_)
      ·
        refine w_iload_n gz_121_46 rfl ?_
        exact w_iret gz_121_47 gm_121 (k0 (p8_0))
      ·
        refine w_aload_n gz_121_15 rfl ?_
        refine w_iload_n gz_121_16 rfl ?_
        refine w_iload gz_121_17 rfl ?_
        refine w_inv (k := 0) (as := [(0, p8_2), (0, x1)]) (r := []) (x := x0) (ls0 := [(2, x0), (0, x1), (0, p8_2)]) gz_121_19 gm_15 rfl t0 rd_6 rfl rfl rfl rfl rfl ?_
        refine w_iload_n gz_15_0 rfl ?_
        refine w_iflt (t := 31) gz_15_1 rfl (fun u2 => by exfalso; omega) (fun u2 => ?_)
        refine w_iload_n gz_15_4 rfl ?_
        refine w_bipush gz_15_5 (by decide) ?_
        refine w_icge (t := 31) gz_15_7 rfl (fun u3 => by exfalso; omega) (fun u3 => ?_)
        refine w_aload_n gz_15_10 rfl ?_
        refine w_getX (v := (x0 + 1)) gz_15_11 t0 rd_6 rfl (by decide) rfl ?_
        refine w_iload_n gz_15_14 rfl ?_
        refine w_bipush gz_15_15 (by decide) ?_
        refine w_imul gz_15_17 ⟨by omega, by omega⟩ ?_
        refine w_iload_n gz_15_18 rfl ?_
        refine w_iadd gz_15_19 ⟨by omega, by omega⟩ ?_
        refine w_iconst gz_15_20 (by decide) ?_
        refine w_imul gz_15_21 ⟨by omega, by omega⟩ ?_
        refine w_iald gz_15_22 (ix_6_1 t0) rd_30 (by omega) (by omega) (fun v5 ev5 pv5 qv5 => ?_)
        refine w_iconst gz_15_23 (by decide) ?_
        refine w_iceq (t := 31) gz_15_24 rfl (fun u6 => ?_) (fun u6 => ?_)
        ·
          refine w_iconst gz_15_31 (by decide) ?_
          refine w_bret gz_15_32 gm_15 (by omega) (by omega) ?_
          show wp l rho (d + 1) 121 22 [(2, x0), (0, x1), (0, x2), (0, p8_0), (0, p8_1), (0, p8_2)] [(0, 0)] h Q
          refine w_ifeq (t := 40) gz_121_22 rfl (fun u7 => ?_) (fun u7 => by exfalso; omega)
          exact J40_0 (p8_0) (p8_1) (by omega) (by omega) (by omega) (by omega) (by omega) (by omega) (by omega) (by omega)
        ·
          refine w_iconst gz_15_27 (by decide) ?_
          refine w_goto (t := 32) gz_15_28 rfl ?_
          refine w_bret gz_15_32 gm_15 (by omega) (by omega) ?_
          show wp l rho (d + 1) 121 22 [(2, x0), (0, x1), (0, x2), (0, p8_0), (0, p8_1), (0, p8_2)] [(0, 1)] h Q
          refine w_ifeq (t := 40) gz_121_22 rfl (fun u8 => by exfalso; omega) (fun u8 => ?_)
          refine w_iload_n gz_121_25 rfl ?_
          refine w_iload_n gz_121_26 rfl ?_
          refine w_iload gz_121_27 rfl ?_
          refine w_ianyR gz_121_29 (fun v9 pv9 qv9 => ?_)
          refine w_iconst gz_121_30 (by decide) ?_
          refine w_iandM gz_121_31 (by decide) (fun v10 pv10 qv10 => ?_)
          refine w_iload gz_121_32 rfl ?_
          refine w_ianyL gz_121_34 (fun v11 pv11 qv11 => ?_)
          refine w_ianyO gz_121_35 (fun v12 pv12 qv12 => ?_)
          refine w_istore_n (ls' := [(2, x0), (0, x1), (0, x2), (0, v12), (0, p8_1), (0, p8_2)]) gz_121_36 gm_121 rfl rfl rfl ?_
          refine w_iinc (ls' := [(2, x0), (0, x1), (0, x2), (0, v12), (0, (p8_1 + 1)), (0, p8_2)]) gz_121_37 rfl gm_121 rfl rfl rfl ⟨by omega, by omega⟩ ?_
          exact J40_0 (v12) ((p8_1 + 1)) (by omega) (by omega) (by omega) (by omega) (by omega) (by omega) (by omega) (by omega)
  refine w_iconst gz_121_0 (by decide) ?_
  refine w_istore_n (ls' := [(2, x0), (0, x1), (0, x2), (0, 0), (9, 0), (9, 0)]) gz_121_1 gm_121 rfl rfl rfl ?_
  refine w_iconst gz_121_2 (by decide) ?_
  refine w_istore (ls' := [(2, x0), (0, x1), (0, x2), (0, 0), (0, 0), (9, 0)]) gz_121_3 gm_121 rfl rfl rfl ?_
  refine w_iconst gz_121_5 (by decide) ?_
  refine w_istore (ls' := [(2, x0), (0, x1), (0, x2), (0, 0), (0, 0), (0, 0)]) gz_121_6 gm_121 rfl rfl rfl ?_
  exact J8_0 21 (0) (0) (0) (by omega) (by omega) (by omega) (by omega) (by omega) (by omega)
theorem is_114 : my_is 1 114 := by unfold my_is; decide +kernel
theorem is_119 : my_is 45 119 := by unfold my_is; decide +kernel
theorem gz_124_0 : mz_pg 124 0 = some (.iconst 0, 0, 0, 0) := by decide +kernel
theorem gz_124_1 : mz_pg 124 1 = some (.istore 4, 0, 0, 0) := by decide +kernel
theorem gz_124_3 : mz_pg 124 3 = some (.iconst 0, 0, 0, 0) := by decide +kernel
theorem gz_124_4 : mz_pg 124 4 = some (.istore 5, 0, 0, 0) := by decide +kernel
theorem gz_124_6 : mz_pg 124 6 = some (.iload 5, 0, 0, 0) := by decide +kernel
theorem gz_124_8 : mz_pg 124 8 = some (.iload_n 2, 0, 0, 0) := by decide +kernel
theorem gz_124_9 : mz_pg 124 9 = some (.if_icmp .ge 55, 0, 0, 0) := by decide +kernel
theorem gz_124_12 : mz_pg 124 12 = some (.iload_n 1, 0, 0, 0) := by decide +kernel
theorem gz_124_13 : mz_pg 124 13 = some (.iconst 2, 0, 0, 0) := by decide +kernel
theorem gz_124_14 : mz_pg 124 14 = some (.iload 5, 0, 0, 0) := by decide +kernel
theorem gz_124_16 : mz_pg 124 16 = some (.imul, 0, 0, 0) := by decide +kernel
theorem gz_124_17 : mz_pg 124 17 = some (.ishr, 0, 0, 0) := by decide +kernel
theorem gz_124_18 : mz_pg 124 18 = some (.iconst 3, 0, 0, 0) := by decide +kernel
theorem gz_124_19 : mz_pg 124 19 = some (.iand, 0, 0, 0) := by decide +kernel
theorem gz_124_20 : mz_pg 124 20 = some (.istore 6, 0, 0, 0) := by decide +kernel
theorem gz_124_22 : mz_pg 124 22 = some (.iload 6, 0, 0, 0) := by decide +kernel
theorem gz_124_24 : mz_pg 124 24 = some (.iload_n 3, 0, 0, 0) := by decide +kernel
theorem gz_124_25 : mz_pg 124 25 = some (.if_icmp .ge 13, 0, 0, 0) := by decide +kernel
theorem gz_124_28 : mz_pg 124 28 = some (.iload 4, 0, 0, 0) := by decide +kernel
theorem gz_124_30 : mz_pg 124 30 = some (.iload 6, 0, 0, 0) := by decide +kernel
theorem gz_124_32 : mz_pg 124 32 = some (.ishr, 0, 0, 0) := by decide +kernel
theorem gz_124_33 : mz_pg 124 33 = some (.iconst 1, 0, 0, 0) := by decide +kernel
theorem gz_124_34 : mz_pg 124 34 = some (.iand, 0, 0, 0) := by decide +kernel
theorem gz_124_35 : mz_pg 124 35 = some (.ifCond .eq 5, 0, 0, 0) := by decide +kernel
theorem gz_124_38 : mz_pg 124 38 = some (.iconst 0, 0, 0, 0) := by decide +kernel
theorem gz_124_39 : mz_pg 124 39 = some (.ireturn, 0, 0, 0) := by decide +kernel
theorem gz_124_40 : mz_pg 124 40 = some (.iload 4, 0, 0, 0) := by decide +kernel
theorem gz_124_42 : mz_pg 124 42 = some (.iconst 1, 0, 0, 0) := by decide +kernel
theorem gz_124_43 : mz_pg 124 43 = some (.iload 6, 0, 0, 0) := by decide +kernel
theorem gz_124_45 : mz_pg 124 45 = some (.ishl, 0, 0, 0) := by decide +kernel
theorem gz_124_46 : mz_pg 124 46 = some (.ior, 0, 0, 0) := by decide +kernel
theorem gz_124_47 : mz_pg 124 47 = some (.istore 4, 0, 0, 0) := by decide +kernel
theorem gz_124_49 : mz_pg 124 49 = some (.aload_n 0, 0, 0, 0) := by decide +kernel
theorem gz_124_50 : mz_pg 124 50 = some (.getfield 18, 1, 2, 457) := by decide +kernel
theorem gz_124_53 : mz_pg 124 53 = some (.iload 5, 0, 0, 0) := by decide +kernel
theorem gz_124_55 : mz_pg 124 55 = some (.iload 6, 0, 0, 0) := by decide +kernel
theorem gz_124_57 : mz_pg 124 57 = some (.iastore, 0, 0, 0) := by decide +kernel
theorem gz_124_58 : mz_pg 124 58 = some (.iinc 5 1, 0, 0, 0) := by decide +kernel
theorem gz_124_61 : mz_pg 124 61 = some (.goto (-55), 0, 0, 0) := by decide +kernel
theorem gz_124_64 : mz_pg 124 64 = some (.iconst 1, 0, 0, 0) := by decide +kernel
theorem gz_124_65 : mz_pg 124 65 = some (.ireturn, 0, 0, 0) := by decide +kernel
theorem gm_124 : my_mm 124 7 (some .boolean) 3 1 := by unfold my_mm; decide +kernel
theorem rd_1 : my_rd 1 = .inr (1, [(2, 3, -113), (2, 8, 1), (2, 45, 5), (0, -2147483648, 2147483647), (0, -2147483648, 2147483647), (0, -2147483648, 2147483647), (0, -2147483648, 2147483647)]) := rfl
theorem rd_45 : my_rd 45 = .inl (0, 4, [(0, 0, 3)]) := rfl
theorem c5_Cutter_picksColumns {l : Launch} {rho : Nat → Int32} {d : Nat} {h : my_H} {Q : my_H → my_V → Prop} {x1 x2 x3 : Int} (a1 : 0 ≤ x1) (a2 : 0 ≤ x2) (b2 : x2 ≤ 4) (a3 : 0 ≤ x3) (b3 : x3 ≤ 4) (k0 : ∀ (h' : my_H), my_fr [(45, -1)] h h' → 1 ≤ x2 → Q h' (0, 0)) (k1 : ∀ (h' : my_H), my_fr [(45, -1)] h h' → Q h' (0, 1)) : wp l rho d 124 0 [(2, 114), (0, x1), (0, x2), (0, x3), (9, 0), (9, 0), (9, 0)] [] h Q := by
  have J6_0 : ∀ (n : Nat) (p6_0 p6_1 : Int) (h6_0 : my_H), my_fr [(45, -1)] h h6_0 → 0 ≤ p6_1 → p6_1 ≤ 4 → p6_1 ≤ x2 → 5 - p6_1 ≤ (n : Int) → wp l rho d 124 6 [(2, 114), (0, x1), (0, x2), (0, x3), (0, p6_0), (0, p6_1), (9, 0)] [] h6_0 Q := by
    intro n
    induction n with
    | zero => intro p6_0 p6_1 h6_0 gh_6_0 q0_6_0 q1_6_0 q2_6_0 hm_6_0; exfalso; omega
    | succ n ih_6_0 =>
      intro p6_0 p6_1 h6_0 gh_6_0 q0_6_0 q1_6_0 q2_6_0 hm_6_0
      refine w_iload gz_124_6 rfl ?_
      refine w_iload_n gz_124_8 rfl ?_
      refine w_icge (t := 64) gz_124_9 rfl (fun u1 => ?_) (fun u1 => ?_)
      ·
        refine w_iconst gz_124_64 (by decide) ?_
        exact w_bret gz_124_65 gm_124 (by omega) (by omega) (k1 h6_0 (gh_6_0))
      ·
        refine w_iload_n gz_124_12 rfl ?_
        refine w_iconst gz_124_13 (by decide) ?_
        refine w_iload gz_124_14 rfl ?_
        refine w_imul gz_124_16 ⟨by omega, by omega⟩ ?_
        refine w_ianyR gz_124_17 (fun v2 pv2 qv2 => ?_)
        refine w_iconst gz_124_18 (by decide) ?_
        refine w_iandM gz_124_19 (by decide) (fun v3 pv3 qv3 => ?_)
        refine w_istore (ls' := [(2, 114), (0, x1), (0, x2), (0, x3), (0, p6_0), (0, p6_1), (0, v3)]) gz_124_20 gm_124 rfl rfl rfl ?_
        refine w_iload gz_124_22 rfl ?_
        refine w_iload_n gz_124_24 rfl ?_
        refine w_icge (t := 38) gz_124_25 rfl (fun u4 => ?_) (fun u4 => ?_)
        ·
          refine w_iconst gz_124_38 (by decide) ?_
          exact w_bret gz_124_39 gm_124 (by omega) (by omega) (k0 h6_0 (gh_6_0) (by omega))
        ·
          refine w_iload gz_124_28 rfl ?_
          refine w_iload gz_124_30 rfl ?_
          refine w_ianyR gz_124_32 (fun v5 pv5 qv5 => ?_)
          refine w_iconst gz_124_33 (by decide) ?_
          refine w_iandM gz_124_34 (by decide) (fun v6 pv6 qv6 => ?_)
          refine w_ifeq (t := 40) gz_124_35 rfl (fun u7 => ?_) (fun u7 => ?_)
          ·
            refine w_iload gz_124_40 rfl ?_
            refine w_iconst gz_124_42 (by decide) ?_
            refine w_iload gz_124_43 rfl ?_
            refine w_ianyL gz_124_45 (fun v8 pv8 qv8 => ?_)
            refine w_ianyO gz_124_46 (fun v9 pv9 qv9 => ?_)
            refine w_istore (ls' := [(2, 114), (0, x1), (0, x2), (0, x3), (0, v9), (0, p6_1), (0, v3)]) gz_124_47 gm_124 rfl rfl rfl ?_
            refine w_aload_n gz_124_49 rfl ?_
            refine w_getX (v := 119) gz_124_50 is_114 rd_1 rfl (by decide) rfl ?_
            refine w_iload gz_124_53 rfl ?_
            refine w_iload gz_124_55 rfl ?_
            refine w_iast gz_124_57 is_119 rd_45 (by omega) (by omega) (by omega) (by omega) (fun h11 fh11 => ?_)
            have gh11 : my_fr [(45, -1)] h h11 := my_fr.up gh_6_0 is_119 fh11 rfl
            refine w_iinc (ls' := [(2, 114), (0, x1), (0, x2), (0, x3), (0, v9), (0, (p6_1 + 1)), (0, v3)]) gz_124_58 rfl gm_124 rfl rfl rfl ⟨by omega, by omega⟩ ?_
            refine w_goto (t := 6) gz_124_61 rfl ?_
            refine w_weak (ls' := [(2, 114), (0, x1), (0, x2), (0, x3), (0, v9), (0, (p6_1 + 1)), (9, 0)]) (wk_e (wk_e (wk_e (wk_e (wk_e (wk_e (wk_9 wk_n))))))) ?_
            exact ih_6_0 (v9) ((p6_1 + 1)) h11 (gh11) (by omega) (by omega) (by omega) (by omega)
          ·
            refine w_iconst gz_124_38 (by decide) ?_
            exact w_bret gz_124_39 gm_124 (by omega) (by omega) (k0 h6_0 (gh_6_0) (by omega))
  refine w_iconst gz_124_0 (by decide) ?_
  refine w_istore (ls' := [(2, 114), (0, x1), (0, x2), (0, x3), (0, 0), (9, 0), (9, 0)]) gz_124_1 gm_124 rfl rfl rfl ?_
  refine w_iconst gz_124_3 (by decide) ?_
  refine w_istore (ls' := [(2, 114), (0, x1), (0, x2), (0, x3), (0, 0), (0, 0), (9, 0)]) gz_124_4 gm_124 rfl rfl rfl ?_
  exact J6_0 5 (0) (0) h (my_fr.rf) (by omega) (by omega) (by omega) (by omega)
theorem gz_78_0 : mz_pg 78 0 = some (.iload_n 0, 0, 0, 0) := by decide +kernel
theorem gz_78_1 : mz_pg 78 1 = some (.ifCond .ne 16, 0, 0, 0) := by decide +kernel
theorem gz_78_4 : mz_pg 78 4 = some (.iload_n 1, 0, 0, 0) := by decide +kernel
theorem gz_78_5 : mz_pg 78 5 = some (.iload_n 2, 0, 0, 0) := by decide +kernel
theorem gz_78_6 : mz_pg 78 6 = some (.if_icmp .ge 7, 0, 0, 0) := by decide +kernel
theorem gz_78_9 : mz_pg 78 9 = some (.iconst 1, 0, 0, 0) := by decide +kernel
theorem gz_78_10 : mz_pg 78 10 = some (.goto 35, 0, 0, 0) := by decide +kernel
theorem gz_78_13 : mz_pg 78 13 = some (.iconst 0, 0, 0, 0) := by decide +kernel
theorem gz_78_14 : mz_pg 78 14 = some (.goto 31, 0, 0, 0) := by decide +kernel
theorem gz_78_17 : mz_pg 78 17 = some (.iload_n 0, 0, 0, 0) := by decide +kernel
theorem gz_78_18 : mz_pg 78 18 = some (.iconst 1, 0, 0, 0) := by decide +kernel
theorem gz_78_19 : mz_pg 78 19 = some (.if_icmp .ne 16, 0, 0, 0) := by decide +kernel
theorem gz_78_22 : mz_pg 78 22 = some (.iload_n 1, 0, 0, 0) := by decide +kernel
theorem gz_78_23 : mz_pg 78 23 = some (.iload_n 2, 0, 0, 0) := by decide +kernel
theorem gz_78_24 : mz_pg 78 24 = some (.if_icmp .ne 7, 0, 0, 0) := by decide +kernel
theorem gz_78_27 : mz_pg 78 27 = some (.iconst 1, 0, 0, 0) := by decide +kernel
theorem gz_78_28 : mz_pg 78 28 = some (.goto 17, 0, 0, 0) := by decide +kernel
theorem gz_78_31 : mz_pg 78 31 = some (.iconst 0, 0, 0, 0) := by decide +kernel
theorem gz_78_32 : mz_pg 78 32 = some (.goto 13, 0, 0, 0) := by decide +kernel
theorem gz_78_35 : mz_pg 78 35 = some (.iload_n 1, 0, 0, 0) := by decide +kernel
theorem gz_78_36 : mz_pg 78 36 = some (.iload_n 2, 0, 0, 0) := by decide +kernel
theorem gz_78_37 : mz_pg 78 37 = some (.if_icmp .le 7, 0, 0, 0) := by decide +kernel
theorem gz_78_40 : mz_pg 78 40 = some (.iconst 1, 0, 0, 0) := by decide +kernel
theorem gz_78_41 : mz_pg 78 41 = some (.goto 4, 0, 0, 0) := by decide +kernel
theorem gz_78_44 : mz_pg 78 44 = some (.iconst 0, 0, 0, 0) := by decide +kernel
theorem gz_78_45 : mz_pg 78 45 = some (.ireturn, 0, 0, 0) := by decide +kernel
theorem gz_125_0 : mz_pg 125 0 = some (.iconst 0, 0, 0, 0) := by decide +kernel
theorem gz_125_1 : mz_pg 125 1 = some (.istore 5, 0, 0, 0) := by decide +kernel
theorem gz_125_3 : mz_pg 125 3 = some (.iconst 0, 0, 0, 0) := by decide +kernel
theorem gz_125_4 : mz_pg 125 4 = some (.istore 6, 0, 0, 0) := by decide +kernel
theorem gz_125_6 : mz_pg 125 6 = some (.iload 6, 0, 0, 0) := by decide +kernel
theorem gz_125_8 : mz_pg 125 8 = some (.bipush 20, 0, 0, 0) := by decide +kernel
theorem gz_125_10 : mz_pg 125 10 = some (.if_icmp .ge 55, 0, 0, 0) := by decide +kernel
theorem gz_125_13 : mz_pg 125 13 = some (.iload_n 1, 0, 0, 0) := by decide +kernel
theorem gz_125_14 : mz_pg 125 14 = some (.iload 6, 0, 0, 0) := by decide +kernel
theorem gz_125_16 : mz_pg 125 16 = some (.invokestatic 52, 2, 17, 14) := by decide +kernel
theorem gz_125_19 : mz_pg 125 19 = some (.istore 7, 0, 0, 0) := by decide +kernel
theorem gz_125_21 : mz_pg 125 21 = some (.aload_n 0, 0, 0, 0) := by decide +kernel
theorem gz_125_22 : mz_pg 125 22 = some (.getfield 56, 6, 0, 177) := by decide +kernel
theorem gz_125_25 : mz_pg 125 25 = some (.iload 7, 0, 0, 0) := by decide +kernel
theorem gz_125_27 : mz_pg 125 27 = some (.iaload, 0, 0, 0) := by decide +kernel
theorem gz_125_28 : mz_pg 125 28 = some (.iconst (-1), 0, 0, 0) := by decide +kernel
theorem gz_125_29 : mz_pg 125 29 = some (.if_icmp .eq 30, 0, 0, 0) := by decide +kernel
theorem gz_125_32 : mz_pg 125 32 = some (.iload_n 3, 0, 0, 0) := by decide +kernel
theorem gz_125_33 : mz_pg 125 33 = some (.aload_n 0, 0, 0, 0) := by decide +kernel
theorem gz_125_34 : mz_pg 125 34 = some (.getfield 56, 6, 0, 177) := by decide +kernel
theorem gz_125_37 : mz_pg 125 37 = some (.iload 7, 0, 0, 0) := by decide +kernel
theorem gz_125_39 : mz_pg 125 39 = some (.iload_n 2, 0, 0, 0) := by decide +kernel
theorem gz_125_40 : mz_pg 125 40 = some (.iadd, 0, 0, 0) := by decide +kernel
theorem gz_125_41 : mz_pg 125 41 = some (.iaload, 0, 0, 0) := by decide +kernel
theorem gz_125_42 : mz_pg 125 42 = some (.iload 4, 0, 0, 0) := by decide +kernel
theorem gz_125_44 : mz_pg 125 44 = some (.invokestatic 61, 2, 78, 15) := by decide +kernel
theorem gz_125_47 : mz_pg 125 47 = some (.ifCond .eq 12, 0, 0, 0) := by decide +kernel
theorem gz_125_50 : mz_pg 125 50 = some (.iload 5, 0, 0, 0) := by decide +kernel
theorem gz_125_52 : mz_pg 125 52 = some (.iconst 1, 0, 0, 0) := by decide +kernel
theorem gz_125_53 : mz_pg 125 53 = some (.iload 6, 0, 0, 0) := by decide +kernel
theorem gz_125_55 : mz_pg 125 55 = some (.ishl, 0, 0, 0) := by decide +kernel
theorem gz_125_56 : mz_pg 125 56 = some (.ior, 0, 0, 0) := by decide +kernel
theorem gz_125_57 : mz_pg 125 57 = some (.istore 5, 0, 0, 0) := by decide +kernel
theorem gz_125_59 : mz_pg 125 59 = some (.iinc 6 1, 0, 0, 0) := by decide +kernel
theorem gz_125_62 : mz_pg 125 62 = some (.goto (-56), 0, 0, 0) := by decide +kernel
theorem gz_125_65 : mz_pg 125 65 = some (.iload 5, 0, 0, 0) := by decide +kernel
theorem gz_125_67 : mz_pg 125 67 = some (.ireturn, 0, 0, 0) := by decide +kernel
theorem gm_78 : my_mm 78 3 (some .boolean) 3 9 := by unfold my_mm; decide +kernel
theorem gm_125 : my_mm 125 8 (some .int) 5 1 := by unfold my_mm; decide +kernel
theorem c6_Cutter_keysLeft {l : Launch} {rho : Nat → Int32} {d : Nat} {h : my_H} {Q : my_H → my_V → Prop} {x0 x1 x2 x3 x4 : Int} (t0 : my_is 6 x0) (a1 : 0 ≤ x1) (b1 : x1 ≤ 2) (a2 : 0 ≤ x2) (b2 : x2 ≤ 3) (a3 : 0 ≤ x3) (b3 : x3 ≤ 2) (a4 : 0 ≤ x4) (b4 : x4 ≤ 20) (k0 : x2 ≤ 0 → x3 ≤ 0 → x4 ≤ 0 → Q h (0, 0)) (k1 : ∀ (y : Int), Q h (0, y)) : wp l rho (d + 1) 125 0 [(2, x0), (0, x1), (0, x2), (0, x3), (0, x4), (9, 0), (9, 0), (9, 0)] [] h Q := by
  have J6_0 : ∀ (n : Nat) (p6_0 p6_1 p6_2 : Int), 0 ≤ p6_0 → p6_0 ≤ 2 → 0 ≤ p6_2 → p6_2 ≤ 20 → p6_0 ≤ x3 → x3 ≤ p6_0 → 21 - p6_2 ≤ (n : Int) → wp l rho (d + 1) 125 6 [(2, x0), (0, x1), (0, x2), (0, p6_0), (0, x4), (0, p6_1), (0, p6_2), (9, 0)] [] h Q := by
    intro n
    induction n with
    | zero => intro p6_0 p6_1 p6_2 q0_6_0 q1_6_0 q2_6_0 q3_6_0 q4_6_0 q5_6_0 hm_6_0; exfalso; omega
    | succ n ih_6_0 =>
      intro p6_0 p6_1 p6_2 q0_6_0 q1_6_0 q2_6_0 q3_6_0 q4_6_0 q5_6_0 hm_6_0
      have J59_0 : ∀ (p59_0 p59_1 p59_2 : Int), 0 ≤ p59_0 → p59_0 ≤ 2 → p6_2 ≤ 19 → 0 ≤ p59_2 → p59_2 ≤ 236 → p59_0 ≤ p6_0 → p59_0 ≤ x3 → p6_0 ≤ p59_0 → p6_0 ≤ x3 → x3 ≤ p59_0 → x3 ≤ p6_0 → wp l rho (d + 1) 125 59 [(2, x0), (0, x1), (0, x2), (0, p59_0), (0, x4), (0, p59_1), (0, p6_2), (0, p59_2)] [] h Q := by
        intro p59_0 p59_1 p59_2 q0_59_0 q1_59_0 q2_59_0 q3_59_0 q4_59_0 q5_59_0 q6_59_0 q7_59_0 q8_59_0 q9_59_0 q10_59_0
        refine w_iinc (ls' := [(2, x0), (0, x1), (0, x2), (0, p59_0), (0, x4), (0, p59_1), (0, (p6_2 + 1)), (0, p59_2)]) gz_125_59 rfl gm_125 rfl rfl rfl ⟨by omega, by omega⟩ ?_
        refine w_goto (t := 6) gz_125_62 rfl ?_
        refine w_weak (ls' := [(2, x0), (0, x1), (0, x2), (0, p59_0), (0, x4), (0, p59_1), (0, (p6_2 + 1)), (9, 0)]) (wk_e (wk_e (wk_e (wk_e (wk_e (wk_e (wk_e (wk_9 wk_n)))))))) ?_
        exact ih_6_0 (p59_0) (p59_1) ((p6_2 + 1)) (by omega) (by omega) (by omega) (by omega) (by omega) (by omega) (by omega)
      refine w_iload gz_125_6 rfl ?_
      refine w_bipush gz_125_8 (by decide) ?_
      refine w_icge (t := 65) gz_125_10 rfl (fun u1 => ?_) (fun u1 => ?_)
      ·
        refine w_iload gz_125_65 rfl ?_
        exact w_iret gz_125_67 gm_125 (k1 (p6_1))
      ·
        refine w_iload_n gz_125_13 rfl ?_
        refine w_iload gz_125_14 rfl ?_
        refine w_inS (k := 0) (as := [(0, p6_2), (0, x1)]) (r := []) (ls0 := [(0, x1), (0, p6_2)]) gz_125_16 gm_17 rfl rfl rfl rfl rfl rfl ?_
        refine w_iload_n gz_17_0 rfl ?_
        refine w_bipush gz_17_1 (by decide) ?_
        refine w_imul gz_17_3 ⟨by omega, by omega⟩ ?_
        refine w_iload_n gz_17_4 rfl ?_
        refine w_iadd gz_17_5 ⟨by omega, by omega⟩ ?_
        refine w_iconst gz_17_6 (by decide) ?_
        refine w_imul gz_17_7 ⟨by omega, by omega⟩ ?_
        refine w_iret gz_17_8 gm_17 ?_
        show wp l rho (d + 1) 125 19 [(2, x0), (0, x1), (0, x2), (0, p6_0), (0, x4), (0, p6_1), (0, p6_2), (9, 0)] [(0, (((x1 * 20) + p6_2) * 4))] h Q
        refine w_istore (ls' := [(2, x0), (0, x1), (0, x2), (0, p6_0), (0, x4), (0, p6_1), (0, p6_2), (0, (((x1 * 20) + p6_2) * 4))]) gz_125_19 gm_125 rfl rfl rfl ?_
        refine w_aload_n gz_125_21 rfl ?_
        refine w_getX (v := (x0 + 1)) gz_125_22 t0 rd_6 rfl (by decide) rfl ?_
        refine w_iload gz_125_25 rfl ?_
        refine w_iald gz_125_27 (ix_6_1 t0) rd_30 (by omega) (by omega) (fun v3 ev3 pv3 qv3 => ?_)
        refine w_iconst gz_125_28 (by decide) ?_
        refine w_iceq (t := 59) gz_125_29 rfl (fun u4 => ?_) (fun u4 => ?_)
        ·
          exact J59_0 (p6_0) (p6_1) ((((x1 * 20) + p6_2) * 4)) (by omega) (by omega) (by omega) (by omega) (by omega) (by omega) (by omega) (by omega) (by omega) (by omega) (by omega)
        ·
          refine w_iload_n gz_125_32 rfl ?_
          refine w_aload_n gz_125_33 rfl ?_
          refine w_getX (v := (x0 + 1)) gz_125_34 t0 rd_6 rfl (by decide) rfl ?_
          refine w_iload gz_125_37 rfl ?_
          refine w_iload_n gz_125_39 rfl ?_
          refine w_iadd gz_125_40 ⟨by omega, by omega⟩ ?_
          refine w_iald gz_125_41 (ix_6_1 t0) rd_30 (by omega) (by omega) (fun v6 ev6 pv6 qv6 => ?_)
          refine w_iload gz_125_42 rfl ?_
          refine w_inS (k := 0) (as := [(0, x4), (0, v6), (0, p6_0)]) (r := []) (ls0 := [(0, p6_0), (0, v6), (0, x4)]) gz_125_44 gm_78 rfl rfl rfl rfl rfl rfl ?_
          refine w_iload_n gz_78_0 rfl ?_
          refine w_ifne (t := 17) gz_78_1 rfl (fun u7 => ?_) (fun u7 => ?_)
          ·
            refine w_iload_n gz_78_17 rfl ?_
            refine w_iconst gz_78_18 (by decide) ?_
            refine w_icne (t := 35) gz_78_19 rfl (fun u8 => ?_) (fun u8 => ?_)
            ·
              refine w_iload_n gz_78_35 rfl ?_
              refine w_iload_n gz_78_36 rfl ?_
              refine w_icle (t := 44) gz_78_37 rfl (fun u9 => ?_) (fun u9 => ?_)
              ·
                refine w_iconst gz_78_44 (by decide) ?_
                refine w_bret gz_78_45 gm_78 (by omega) (by omega) ?_
                show wp l rho (d + 1) 125 47 [(2, x0), (0, x1), (0, x2), (0, p6_0), (0, x4), (0, p6_1), (0, p6_2), (0, (((x1 * 20) + p6_2) * 4))] [(0, 0)] h Q
                refine w_ifeq (t := 59) gz_125_47 rfl (fun u10 => ?_) (fun u10 => by exfalso; omega)
                exact J59_0 (p6_0) (p6_1) ((((x1 * 20) + p6_2) * 4)) (by omega) (by omega) (by omega) (by omega) (by omega) (by omega) (by omega) (by omega) (by omega) (by omega) (by omega)
              ·
                refine w_iconst gz_78_40 (by decide) ?_
                refine w_goto (t := 45) gz_78_41 rfl ?_
                refine w_bret gz_78_45 gm_78 (by omega) (by omega) ?_
                show wp l rho (d + 1) 125 47 [(2, x0), (0, x1), (0, x2), (0, p6_0), (0, x4), (0, p6_1), (0, p6_2), (0, (((x1 * 20) + p6_2) * 4))] [(0, 1)] h Q
                refine w_ifeq (t := 59) gz_125_47 rfl (fun u11 => by exfalso; omega) (fun u11 => ?_)
                refine w_iload gz_125_50 rfl ?_
                refine w_iconst gz_125_52 (by decide) ?_
                refine w_iload gz_125_53 rfl ?_
                refine w_ianyL gz_125_55 (fun v12 pv12 qv12 => ?_)
                refine w_ianyO gz_125_56 (fun v13 pv13 qv13 => ?_)
                refine w_istore (ls' := [(2, x0), (0, x1), (0, x2), (0, p6_0), (0, x4), (0, v13), (0, p6_2), (0, (((x1 * 20) + p6_2) * 4))]) gz_125_57 gm_125 rfl rfl rfl ?_
                exact J59_0 (p6_0) (v13) ((((x1 * 20) + p6_2) * 4)) (by omega) (by omega) (by omega) (by omega) (by omega) (by omega) (by omega) (by omega) (by omega) (by omega) (by omega)
            ·
              refine w_iload_n gz_78_22 rfl ?_
              refine w_iload_n gz_78_23 rfl ?_
              refine w_icne (t := 31) gz_78_24 rfl (fun u14 => ?_) (fun u14 => ?_)
              ·
                refine w_iconst gz_78_31 (by decide) ?_
                refine w_goto (t := 45) gz_78_32 rfl ?_
                refine w_bret gz_78_45 gm_78 (by omega) (by omega) ?_
                show wp l rho (d + 1) 125 47 [(2, x0), (0, x1), (0, x2), (0, p6_0), (0, x4), (0, p6_1), (0, p6_2), (0, (((x1 * 20) + p6_2) * 4))] [(0, 0)] h Q
                refine w_ifeq (t := 59) gz_125_47 rfl (fun u15 => ?_) (fun u15 => by exfalso; omega)
                exact J59_0 (p6_0) (p6_1) ((((x1 * 20) + p6_2) * 4)) (by omega) (by omega) (by omega) (by omega) (by omega) (by omega) (by omega) (by omega) (by omega) (by omega) (by omega)
              ·
                refine w_iconst gz_78_27 (by decide) ?_
                refine w_goto (t := 45) gz_78_28 rfl ?_
                refine w_bret gz_78_45 gm_78 (by omega) (by omega) ?_
                show wp l rho (d + 1) 125 47 [(2, x0), (0, x1), (0, x2), (0, p6_0), (0, x4), (0, p6_1), (0, p6_2), (0, (((x1 * 20) + p6_2) * 4))] [(0, 1)] h Q
                refine w_ifeq (t := 59) gz_125_47 rfl (fun u16 => by exfalso; omega) (fun u16 => ?_)
                refine w_iload gz_125_50 rfl ?_
                refine w_iconst gz_125_52 (by decide) ?_
                refine w_iload gz_125_53 rfl ?_
                refine w_ianyL gz_125_55 (fun v17 pv17 qv17 => ?_)
                refine w_ianyO gz_125_56 (fun v18 pv18 qv18 => ?_)
                refine w_istore (ls' := [(2, x0), (0, x1), (0, x2), (0, p6_0), (0, x4), (0, v18), (0, p6_2), (0, (((x1 * 20) + p6_2) * 4))]) gz_125_57 gm_125 rfl rfl rfl ?_
                exact J59_0 (p6_0) (v18) ((((x1 * 20) + p6_2) * 4)) (by omega) (by omega) (by omega) (by omega) (by omega) (by omega) (by omega) (by omega) (by omega) (by omega) (by omega)
          ·
            refine w_iload_n gz_78_4 rfl ?_
            refine w_iload_n gz_78_5 rfl ?_
            refine w_icge (t := 13) gz_78_6 rfl (fun u19 => ?_) (fun u19 => ?_)
            ·
              refine w_iconst gz_78_13 (by decide) ?_
              refine w_goto (t := 45) gz_78_14 rfl ?_
              refine w_bret gz_78_45 gm_78 (by omega) (by omega) ?_
              show wp l rho (d + 1) 125 47 [(2, x0), (0, x1), (0, x2), (0, p6_0), (0, x4), (0, p6_1), (0, p6_2), (0, (((x1 * 20) + p6_2) * 4))] [(0, 0)] h Q
              refine w_ifeq (t := 59) gz_125_47 rfl (fun u20 => ?_) (fun u20 => by exfalso; omega)
              exact J59_0 (p6_0) (p6_1) ((((x1 * 20) + p6_2) * 4)) (by omega) (by omega) (by omega) (by omega) (by omega) (by omega) (by omega) (by omega) (by omega) (by omega) (by omega)
            ·
              refine w_iconst gz_78_9 (by decide) ?_
              refine w_goto (t := 45) gz_78_10 rfl ?_
              refine w_bret gz_78_45 gm_78 (by omega) (by omega) ?_
              show wp l rho (d + 1) 125 47 [(2, x0), (0, x1), (0, x2), (0, p6_0), (0, x4), (0, p6_1), (0, p6_2), (0, (((x1 * 20) + p6_2) * 4))] [(0, 1)] h Q
              refine w_ifeq (t := 59) gz_125_47 rfl (fun u21 => by exfalso; omega) (fun u21 => ?_)
              refine w_iload gz_125_50 rfl ?_
              refine w_iconst gz_125_52 (by decide) ?_
              refine w_iload gz_125_53 rfl ?_
              refine w_ianyL gz_125_55 (fun v22 pv22 qv22 => ?_)
              refine w_ianyO gz_125_56 (fun v23 pv23 qv23 => ?_)
              refine w_istore (ls' := [(2, x0), (0, x1), (0, x2), (0, p6_0), (0, x4), (0, v23), (0, p6_2), (0, (((x1 * 20) + p6_2) * 4))]) gz_125_57 gm_125 rfl rfl rfl ?_
              exact J59_0 (p6_0) (v23) ((((x1 * 20) + p6_2) * 4)) (by omega) (by omega) (by omega) (by omega) (by omega) (by omega) (by omega) (by omega) (by omega) (by omega) (by omega)
  refine w_iconst gz_125_0 (by decide) ?_
  refine w_istore (ls' := [(2, x0), (0, x1), (0, x2), (0, x3), (0, x4), (0, 0), (9, 0), (9, 0)]) gz_125_1 gm_125 rfl rfl rfl ?_
  refine w_iconst gz_125_3 (by decide) ?_
  refine w_istore (ls' := [(2, x0), (0, x1), (0, x2), (0, x3), (0, x4), (0, 0), (0, 0), (9, 0)]) gz_125_4 gm_125 rfl rfl rfl ?_
  exact J6_0 21 (x3) (0) (0) (by omega) (by omega) (by omega) (by omega) (by omega) (by omega) (by omega)
theorem is_27 : my_is 22 27 := by unfold my_is; decide +kernel
theorem is_94 : my_is 2 94 := by unfold my_is; decide +kernel
theorem is_120 : my_is 0 120 := by unfold my_is; decide +kernel
theorem is_121 : my_is 46 121 := by unfold my_is; decide +kernel
theorem is_122 : my_is 47 122 := by unfold my_is; decide +kernel
theorem is_123 : my_is 48 123 := by unfold my_is; decide +kernel
theorem gz_66_0 : mz_pg 66 0 = some (.iload_n 1, 0, 0, 0) := by decide +kernel
theorem gz_66_1 : mz_pg 66 1 = some (.ifCond .lt 25, 0, 0, 0) := by decide +kernel
theorem gz_66_4 : mz_pg 66 4 = some (.iload_n 1, 0, 0, 0) := by decide +kernel
theorem gz_66_5 : mz_pg 66 5 = some (.bipush 6, 0, 0, 0) := by decide +kernel
theorem gz_66_7 : mz_pg 66 7 = some (.if_icmp .ge 19, 0, 0, 0) := by decide +kernel
theorem gz_66_10 : mz_pg 66 10 = some (.aload_n 0, 0, 0, 0) := by decide +kernel
theorem gz_66_11 : mz_pg 66 11 = some (.getfield 52, 2, 1, 391) := by decide +kernel
theorem gz_66_14 : mz_pg 66 14 = some (.iload_n 1, 0, 0, 0) := by decide +kernel
theorem gz_66_15 : mz_pg 66 15 = some (.aaload, 0, 0, 0) := by decide +kernel
theorem gz_66_16 : mz_pg 66 16 = some (.getfield 59, 4, 0, 195) := by decide +kernel
theorem gz_66_19 : mz_pg 66 19 = some (.ifCond .eq 7, 0, 0, 0) := by decide +kernel
theorem gz_66_22 : mz_pg 66 22 = some (.iconst 1, 0, 0, 0) := by decide +kernel
theorem gz_66_23 : mz_pg 66 23 = some (.goto 4, 0, 0, 0) := by decide +kernel
theorem gz_66_26 : mz_pg 66 26 = some (.iconst 0, 0, 0, 0) := by decide +kernel
theorem gz_66_27 : mz_pg 66 27 = some (.ireturn, 0, 0, 0) := by decide +kernel
theorem gz_127_0 : mz_pg 127 0 = some (.iload_n 1, 0, 0, 0) := by decide +kernel
theorem gz_127_1 : mz_pg 127 1 = some (.ifCond .lt 8, 0, 0, 0) := by decide +kernel
theorem gz_127_4 : mz_pg 127 4 = some (.iload_n 1, 0, 0, 0) := by decide +kernel
theorem gz_127_5 : mz_pg 127 5 = some (.iconst 3, 0, 0, 0) := by decide +kernel
theorem gz_127_6 : mz_pg 127 6 = some (.if_icmp .lt 5, 0, 0, 0) := by decide +kernel
theorem gz_127_9 : mz_pg 127 9 = some (.iconst 0, 0, 0, 0) := by decide +kernel
theorem gz_127_10 : mz_pg 127 10 = some (.ireturn, 0, 0, 0) := by decide +kernel
theorem gz_127_11 : mz_pg 127 11 = some (.iload_n 2, 0, 0, 0) := by decide +kernel
theorem gz_127_12 : mz_pg 127 12 = some (.iconst (-1), 0, 0, 0) := by decide +kernel
theorem gz_127_13 : mz_pg 127 13 = some (.if_icmp .ne 15, 0, 0, 0) := by decide +kernel
theorem gz_127_16 : mz_pg 127 16 = some (.aload_n 0, 0, 0, 0) := by decide +kernel
theorem gz_127_17 : mz_pg 127 17 = some (.getfield 75, 9, 11, 539) := by decide +kernel
theorem gz_127_20 : mz_pg 127 20 = some (.getfield 263, 0, 0, 490) := by decide +kernel
theorem gz_127_23 : mz_pg 127 23 = some (.iload_n 1, 0, 0, 0) := by decide +kernel
theorem gz_127_24 : mz_pg 127 24 = some (.iconst (-1), 0, 0, 0) := by decide +kernel
theorem gz_127_25 : mz_pg 127 25 = some (.iastore, 0, 0, 0) := by decide +kernel
theorem gz_127_26 : mz_pg 127 26 = some (.iconst 1, 0, 0, 0) := by decide +kernel
theorem gz_127_27 : mz_pg 127 27 = some (.ireturn, 0, 0, 0) := by decide +kernel
theorem gz_127_28 : mz_pg 127 28 = some (.aload_n 0, 0, 0, 0) := by decide +kernel
theorem gz_127_29 : mz_pg 127 29 = some (.getfield 59, 9, 9, 537) := by decide +kernel
theorem gz_127_32 : mz_pg 127 32 = some (.iload_n 2, 0, 0, 0) := by decide +kernel
theorem gz_127_33 : mz_pg 127 33 = some (.invokevirtual 266, 1, 66, 1068) := by decide +kernel
theorem gz_127_36 : mz_pg 127 36 = some (.ifCond .eq 26, 0, 0, 0) := by decide +kernel
theorem gz_127_39 : mz_pg 127 39 = some (.iload_n 3, 0, 0, 0) := by decide +kernel
theorem gz_127_40 : mz_pg 127 40 = some (.ifCond .lt 22, 0, 0, 0) := by decide +kernel
theorem gz_127_43 : mz_pg 127 43 = some (.iload_n 3, 0, 0, 0) := by decide +kernel
theorem gz_127_44 : mz_pg 127 44 = some (.bipush 80, 0, 0, 0) := by decide +kernel
theorem gz_127_46 : mz_pg 127 46 = some (.if_icmp .ge 16, 0, 0, 0) := by decide +kernel
theorem gz_127_49 : mz_pg 127 49 = some (.iload 4, 0, 0, 0) := by decide +kernel
theorem gz_127_51 : mz_pg 127 51 = some (.ifCond .lt 11, 0, 0, 0) := by decide +kernel
theorem gz_127_54 : mz_pg 127 54 = some (.iload 4, 0, 0, 0) := by decide +kernel
theorem gz_127_56 : mz_pg 127 56 = some (.sipush 200, 0, 0, 0) := by decide +kernel
theorem gz_127_59 : mz_pg 127 59 = some (.if_icmp .lt 5, 0, 0, 0) := by decide +kernel
theorem gz_127_62 : mz_pg 127 62 = some (.iconst 0, 0, 0, 0) := by decide +kernel
theorem gz_127_63 : mz_pg 127 63 = some (.ireturn, 0, 0, 0) := by decide +kernel
theorem gz_127_64 : mz_pg 127 64 = some (.aload_n 0, 0, 0, 0) := by decide +kernel
theorem gz_127_65 : mz_pg 127 65 = some (.getfield 75, 9, 11, 539) := by decide +kernel
theorem gz_127_68 : mz_pg 127 68 = some (.getfield 263, 0, 0, 490) := by decide +kernel
theorem gz_127_71 : mz_pg 127 71 = some (.iload_n 1, 0, 0, 0) := by decide +kernel
theorem gz_127_72 : mz_pg 127 72 = some (.iload_n 2, 0, 0, 0) := by decide +kernel
theorem gz_127_73 : mz_pg 127 73 = some (.iastore, 0, 0, 0) := by decide +kernel
theorem gz_127_74 : mz_pg 127 74 = some (.aload_n 0, 0, 0, 0) := by decide +kernel
theorem gz_127_75 : mz_pg 127 75 = some (.getfield 75, 9, 11, 539) := by decide +kernel
theorem gz_127_78 : mz_pg 127 78 = some (.getfield 269, 0, 1, 492) := by decide +kernel
theorem gz_127_81 : mz_pg 127 81 = some (.iload_n 1, 0, 0, 0) := by decide +kernel
theorem gz_127_82 : mz_pg 127 82 = some (.iload_n 3, 0, 0, 0) := by decide +kernel
theorem gz_127_83 : mz_pg 127 83 = some (.iastore, 0, 0, 0) := by decide +kernel
theorem gz_127_84 : mz_pg 127 84 = some (.aload_n 0, 0, 0, 0) := by decide +kernel
theorem gz_127_85 : mz_pg 127 85 = some (.getfield 75, 9, 11, 539) := by decide +kernel
theorem gz_127_88 : mz_pg 127 88 = some (.getfield 272, 0, 2, 494) := by decide +kernel
theorem gz_127_91 : mz_pg 127 91 = some (.iload_n 1, 0, 0, 0) := by decide +kernel
theorem gz_127_92 : mz_pg 127 92 = some (.iload 4, 0, 0, 0) := by decide +kernel
theorem gz_127_94 : mz_pg 127 94 = some (.iastore, 0, 0, 0) := by decide +kernel
theorem gz_127_95 : mz_pg 127 95 = some (.iconst 1, 0, 0, 0) := by decide +kernel
theorem gz_127_96 : mz_pg 127 96 = some (.ireturn, 0, 0, 0) := by decide +kernel
theorem gm_66 : my_mm 66 2 (some .boolean) 1 2 := by unfold my_mm; decide +kernel
theorem gm_127 : my_mm 127 5 (some .boolean) 4 9 := by unfold my_mm; decide +kernel
theorem rd_0 : my_rd 0 = .inr (0, [(2, 46, 1), (2, 47, 2), (2, 48, 3), (2, 49, 4), (0, 0, 3), (2, 50, 5), (0, 0, 6), (0, 0, 6), (0, -2147483648, 2147483647), (0, -2147483648, 2147483647)]) := rfl
theorem rd_2 : my_rd 2 = .inr (2, [(2, 3, -93), (2, 22, -67), (2, 23, -1), (2, 6, 1), (2, 8, 4), (2, 8, 8), (2, 8, 12), (2, 41, 16), (2, 7, 17), (2, 7, 18), (2, 7, 19), (0, -2147483648, 2147483647), (0, -2147483648, 2147483647), (0, 0, 1), (0, 0, 1), (0, 0, 2), (0, -2147483648, 2147483647)]) := rfl
theorem rd_22 : my_rd 22 = .inl (5, 6, [(2, 4, 0)]) := rfl
theorem rd_46 : my_rd 46 = .inl (0, 3, [(0, -1, 5)]) := rfl
theorem rd_47 : my_rd 47 = .inl (0, 3, [(0, 0, 79)]) := rfl
theorem rd_48 : my_rd 48 = .inl (0, 3, [(0, 0, 199)]) := rfl
theorem c7_ThroughWindow_clerk {l : Launch} {rho : Nat → Int32} {d : Nat} {h : my_H} {Q : my_H → my_V → Prop} {x1 x2 x3 x4 : Int} (k0 : ∀ (h' : my_H), my_fr [(46, -1), (47, -1), (48, -1)] h h' → Q h' (0, 0)) (k1 : ∀ (h' : my_H), my_fr [(46, -1), (47, -1), (48, -1)] h h' → 0 ≤ x1 → x1 ≤ 2 → (-1) ≤ x2 → x2 ≤ 5 → Q h' (0, 1)) : wp l rho (d + 1) 127 0 [(2, 0), (0, x1), (0, x2), (0, x3), (0, x4)] [] h Q := by
  refine w_iload_n gz_127_0 rfl ?_
  refine w_iflt (t := 9) gz_127_1 rfl (fun u1 => ?_) (fun u1 => ?_)
  ·
    refine w_iconst gz_127_9 (by decide) ?_
    exact w_bret gz_127_10 gm_127 (by omega) (by omega) (k0 h (my_fr.rf))
  ·
    refine w_iload_n gz_127_4 rfl ?_
    refine w_iconst gz_127_5 (by decide) ?_
    refine w_iclt (t := 11) gz_127_6 rfl (fun u2 => ?_) (fun u2 => ?_)
    ·
      refine w_iload_n gz_127_11 rfl ?_
      refine w_iconst gz_127_12 (by decide) ?_
      refine w_icne (t := 28) gz_127_13 rfl (fun u3 => ?_) (fun u3 => ?_)
      ·
        refine w_aload_n gz_127_28 rfl ?_
        refine w_getX (v := 94) gz_127_29 is_0 rd_9 rfl (by decide) rfl ?_
        refine w_iload_n gz_127_32 rfl ?_
        refine w_inv (k := 0) (as := [(0, x2)]) (r := []) (x := 94) (ls0 := [(2, 94), (0, x2)]) gz_127_33 gm_66 rfl is_94 rd_2 rfl rfl rfl rfl rfl ?_
        refine w_iload_n gz_66_0 rfl ?_
        refine w_iflt (t := 26) gz_66_1 rfl (fun u5 => ?_) (fun u5 => ?_)
        ·
          refine w_iconst gz_66_26 (by decide) ?_
          refine w_bret gz_66_27 gm_66 (by omega) (by omega) ?_
          show wp l rho (d + 1) 127 36 [(2, 0), (0, x1), (0, x2), (0, x3), (0, x4)] [(0, 0)] h Q
          refine w_ifeq (t := 62) gz_127_36 rfl (fun u6 => ?_) (fun u6 => by exfalso; omega)
          refine w_iconst gz_127_62 (by decide) ?_
          exact w_bret gz_127_63 gm_127 (by omega) (by omega) (k0 h (my_fr.rf))
        ·
          refine w_iload_n gz_66_4 rfl ?_
          refine w_bipush gz_66_5 (by decide) ?_
          refine w_icge (t := 26) gz_66_7 rfl (fun u7 => ?_) (fun u7 => ?_)
          ·
            refine w_iconst gz_66_26 (by decide) ?_
            refine w_bret gz_66_27 gm_66 (by omega) (by omega) ?_
            show wp l rho (d + 1) 127 36 [(2, 0), (0, x1), (0, x2), (0, x3), (0, x4)] [(0, 0)] h Q
            refine w_ifeq (t := 62) gz_127_36 rfl (fun u8 => ?_) (fun u8 => by exfalso; omega)
            refine w_iconst gz_127_62 (by decide) ?_
            exact w_bret gz_127_63 gm_127 (by omega) (by omega) (k0 h (my_fr.rf))
          ·
            refine w_aload_n gz_66_10 rfl ?_
            refine w_getX (v := 27) gz_66_11 is_94 rd_2 rfl (by decide) rfl ?_
            refine w_iload_n gz_66_14 rfl ?_
            refine w_aald gz_66_15 is_27 rd_22 rfl (by omega) (by omega) (fun v10 ev10 tv10 => ?_)
            refine v_getI (j := 0) gz_66_16 rfl tv10 rd_4 rfl (fun v11 ev11 pv11 qv11 => ?_)
            refine w_ifeq (t := 26) gz_66_19 rfl (fun u12 => ?_) (fun u12 => ?_)
            ·
              refine w_iconst gz_66_26 (by decide) ?_
              refine w_bret gz_66_27 gm_66 (by omega) (by omega) ?_
              show wp l rho (d + 1) 127 36 [(2, 0), (0, x1), (0, x2), (0, x3), (0, x4)] [(0, 0)] h Q
              refine w_ifeq (t := 62) gz_127_36 rfl (fun u13 => ?_) (fun u13 => by exfalso; omega)
              refine w_iconst gz_127_62 (by decide) ?_
              exact w_bret gz_127_63 gm_127 (by omega) (by omega) (k0 h (my_fr.rf))
            ·
              refine w_iconst gz_66_22 (by decide) ?_
              refine w_goto (t := 27) gz_66_23 rfl ?_
              refine w_bret gz_66_27 gm_66 (by omega) (by omega) ?_
              show wp l rho (d + 1) 127 36 [(2, 0), (0, x1), (0, x2), (0, x3), (0, x4)] [(0, 1)] h Q
              refine w_ifeq (t := 62) gz_127_36 rfl (fun u14 => by exfalso; omega) (fun u14 => ?_)
              refine w_iload_n gz_127_39 rfl ?_
              refine w_iflt (t := 62) gz_127_40 rfl (fun u15 => ?_) (fun u15 => ?_)
              ·
                refine w_iconst gz_127_62 (by decide) ?_
                exact w_bret gz_127_63 gm_127 (by omega) (by omega) (k0 h (my_fr.rf))
              ·
                refine w_iload_n gz_127_43 rfl ?_
                refine w_bipush gz_127_44 (by decide) ?_
                refine w_icge (t := 62) gz_127_46 rfl (fun u16 => ?_) (fun u16 => ?_)
                ·
                  refine w_iconst gz_127_62 (by decide) ?_
                  exact w_bret gz_127_63 gm_127 (by omega) (by omega) (k0 h (my_fr.rf))
                ·
                  refine w_iload gz_127_49 rfl ?_
                  refine w_iflt (t := 62) gz_127_51 rfl (fun u17 => ?_) (fun u17 => ?_)
                  ·
                    refine w_iconst gz_127_62 (by decide) ?_
                    exact w_bret gz_127_63 gm_127 (by omega) (by omega) (k0 h (my_fr.rf))
                  ·
                    refine w_iload gz_127_54 rfl ?_
                    refine w_sipush gz_127_56 (by decide) ?_
                    refine w_iclt (t := 64) gz_127_59 rfl (fun u18 => ?_) (fun u18 => ?_)
                    ·
                      refine w_aload_n gz_127_64 rfl ?_
                      refine w_getX (v := 120) gz_127_65 is_0 rd_9 rfl (by decide) rfl ?_
                      refine w_getX (v := 121) gz_127_68 is_120 rd_0 rfl (by decide) rfl ?_
                      refine w_iload_n gz_127_71 rfl ?_
                      refine w_iload_n gz_127_72 rfl ?_
                      refine w_iast gz_127_73 is_121 rd_46 (by omega) (by omega) (by omega) (by omega) (fun h21 fh21 => ?_)
                      have gh21 : my_fr [(46, -1), (47, -1), (48, -1)] h h21 := my_fr.up my_fr.rf is_121 fh21 rfl
                      refine w_aload_n gz_127_74 rfl ?_
                      refine w_getX (v := 120) gz_127_75 is_0 rd_9 rfl (by decide) rfl ?_
                      refine w_getX (v := 122) gz_127_78 is_120 rd_0 rfl (by decide) rfl ?_
                      refine w_iload_n gz_127_81 rfl ?_
                      refine w_iload_n gz_127_82 rfl ?_
                      refine w_iast gz_127_83 is_122 rd_47 (by omega) (by omega) (by omega) (by omega) (fun h24 fh24 => ?_)
                      have gh24 : my_fr [(46, -1), (47, -1), (48, -1)] h h24 := my_fr.up gh21 is_122 fh24 rfl
                      refine w_aload_n gz_127_84 rfl ?_
                      refine w_getX (v := 120) gz_127_85 is_0 rd_9 rfl (by decide) rfl ?_
                      refine w_getX (v := 123) gz_127_88 is_120 rd_0 rfl (by decide) rfl ?_
                      refine w_iload_n gz_127_91 rfl ?_
                      refine w_iload gz_127_92 rfl ?_
                      refine w_iast gz_127_94 is_123 rd_48 (by omega) (by omega) (by omega) (by omega) (fun h27 fh27 => ?_)
                      have gh27 : my_fr [(46, -1), (47, -1), (48, -1)] h h27 := my_fr.up gh24 is_123 fh27 rfl
                      refine w_iconst gz_127_95 (by decide) ?_
                      exact w_bret gz_127_96 gm_127 (by omega) (by omega) (k1 h27 (gh27) (by omega) (by omega) (by omega) (by omega))
                    ·
                      refine w_iconst gz_127_62 (by decide) ?_
                      exact w_bret gz_127_63 gm_127 (by omega) (by omega) (k0 h (my_fr.rf))
      ·
        refine w_aload_n gz_127_16 rfl ?_
        refine w_getX (v := 120) gz_127_17 is_0 rd_9 rfl (by decide) rfl ?_
        refine w_getX (v := 121) gz_127_20 is_120 rd_0 rfl (by decide) rfl ?_
        refine w_iload_n gz_127_23 rfl ?_
        refine w_iconst gz_127_24 (by decide) ?_
        refine w_iast gz_127_25 is_121 rd_46 (by omega) (by omega) (by omega) (by omega) (fun h30 fh30 => ?_)
        have gh30 : my_fr [(46, -1), (47, -1), (48, -1)] h h30 := my_fr.up my_fr.rf is_121 fh30 rfl
        refine w_iconst gz_127_26 (by decide) ?_
        exact w_bret gz_127_27 gm_127 (by omega) (by omega) (k1 h30 (gh30) (by omega) (by omega) (by omega) (by omega))
    ·
      refine w_iconst gz_127_9 (by decide) ?_
      exact w_bret gz_127_10 gm_127 (by omega) (by omega) (k0 h (my_fr.rf))
theorem is_124 : my_is 49 124 := by unfold my_is; decide +kernel
theorem gz_129_0 : mz_pg 129 0 = some (.aload_n 0, 0, 0, 0) := by decide +kernel
theorem gz_129_1 : mz_pg 129 1 = some (.iconst 0, 0, 0, 0) := by decide +kernel
theorem gz_129_2 : mz_pg 129 2 = some (.putfield 31, 0, 4, 496) := by decide +kernel
theorem gz_129_5 : mz_pg 129 5 = some (.iconst 0, 0, 0, 0) := by decide +kernel
theorem gz_129_6 : mz_pg 129 6 = some (.istore_n 1, 0, 0, 0) := by decide +kernel
theorem gz_129_7 : mz_pg 129 7 = some (.iload_n 1, 0, 0, 0) := by decide +kernel
theorem gz_129_8 : mz_pg 129 8 = some (.iconst 3, 0, 0, 0) := by decide +kernel
theorem gz_129_9 : mz_pg 129 9 = some (.if_icmp .ge 36, 0, 0, 0) := by decide +kernel
theorem gz_129_12 : mz_pg 129 12 = some (.aload_n 0, 0, 0, 0) := by decide +kernel
theorem gz_129_13 : mz_pg 129 13 = some (.getfield 9, 0, 0, 489) := by decide +kernel
theorem gz_129_16 : mz_pg 129 16 = some (.iload_n 1, 0, 0, 0) := by decide +kernel
theorem gz_129_17 : mz_pg 129 17 = some (.iaload, 0, 0, 0) := by decide +kernel
theorem gz_129_18 : mz_pg 129 18 = some (.iconst (-1), 0, 0, 0) := by decide +kernel
theorem gz_129_19 : mz_pg 129 19 = some (.if_icmp .eq 20, 0, 0, 0) := by decide +kernel
theorem gz_129_22 : mz_pg 129 22 = some (.aload_n 0, 0, 0, 0) := by decide +kernel
theorem gz_129_23 : mz_pg 129 23 = some (.getfield 21, 0, 3, 495) := by decide +kernel
theorem gz_129_26 : mz_pg 129 26 = some (.aload_n 0, 0, 0, 0) := by decide +kernel
theorem gz_129_27 : mz_pg 129 27 = some (.dup, 0, 0, 0) := by decide +kernel
theorem gz_129_28 : mz_pg 129 28 = some (.getfield 31, 0, 4, 496) := by decide +kernel
theorem gz_129_31 : mz_pg 129 31 = some (.dup_x1, 0, 0, 0) := by decide +kernel
theorem gz_129_32 : mz_pg 129 32 = some (.iconst 1, 0, 0, 0) := by decide +kernel
theorem gz_129_33 : mz_pg 129 33 = some (.iadd, 0, 0, 0) := by decide +kernel
theorem gz_129_34 : mz_pg 129 34 = some (.putfield 31, 0, 4, 496) := by decide +kernel
theorem gz_129_37 : mz_pg 129 37 = some (.iload_n 1, 0, 0, 0) := by decide +kernel
theorem gz_129_38 : mz_pg 129 38 = some (.iastore, 0, 0, 0) := by decide +kernel
theorem gz_129_39 : mz_pg 129 39 = some (.iinc 1 1, 0, 0, 0) := by decide +kernel
theorem gz_129_42 : mz_pg 129 42 = some (.goto (-35), 0, 0, 0) := by decide +kernel
theorem gz_129_45 : mz_pg 129 45 = some (.aload_n 0, 0, 0, 0) := by decide +kernel
theorem gz_129_46 : mz_pg 129 46 = some (.aload_n 0, 0, 0, 0) := by decide +kernel
theorem gz_129_47 : mz_pg 129 47 = some (.getfield 31, 0, 4, 496) := by decide +kernel
theorem gz_129_50 : mz_pg 129 50 = some (.iconst 3, 0, 0, 0) := by decide +kernel
theorem gz_129_51 : mz_pg 129 51 = some (.if_icmp .ne 8, 0, 0, 0) := by decide +kernel
theorem gz_129_54 : mz_pg 129 54 = some (.bipush 6, 0, 0, 0) := by decide +kernel
theorem gz_129_56 : mz_pg 129 56 = some (.goto 16, 0, 0, 0) := by decide +kernel
theorem gz_129_59 : mz_pg 129 59 = some (.aload_n 0, 0, 0, 0) := by decide +kernel
theorem gz_129_60 : mz_pg 129 60 = some (.getfield 31, 0, 4, 496) := by decide +kernel
theorem gz_129_63 : mz_pg 129 63 = some (.iconst 2, 0, 0, 0) := by decide +kernel
theorem gz_129_64 : mz_pg 129 64 = some (.if_icmp .ne 7, 0, 0, 0) := by decide +kernel
theorem gz_129_67 : mz_pg 129 67 = some (.iconst 2, 0, 0, 0) := by decide +kernel
theorem gz_129_68 : mz_pg 129 68 = some (.goto 4, 0, 0, 0) := by decide +kernel
theorem gz_129_71 : mz_pg 129 71 = some (.iconst 1, 0, 0, 0) := by decide +kernel
theorem gz_129_72 : mz_pg 129 72 = some (.putfield 35, 0, 7, 501) := by decide +kernel
theorem gz_129_75 : mz_pg 129 75 = some (.aload_n 0, 0, 0, 0) := by decide +kernel
theorem gz_129_76 : mz_pg 129 76 = some (.iconst 0, 0, 0, 0) := by decide +kernel
theorem gz_129_77 : mz_pg 129 77 = some (.putfield 38, 0, 6, 499) := by decide +kernel
theorem gz_129_80 : mz_pg 129 80 = some (.aload_n 0, 0, 0, 0) := by decide +kernel
theorem gz_129_81 : mz_pg 129 81 = some (.iconst 0, 0, 0, 0) := by decide +kernel
theorem gz_129_82 : mz_pg 129 82 = some (.putfield 41, 0, 8, 503) := by decide +kernel
theorem gz_129_85 : mz_pg 129 85 = some (.aload_n 0, 0, 0, 0) := by decide +kernel
theorem gz_129_86 : mz_pg 129 86 = some (.iconst 0, 0, 0, 0) := by decide +kernel
theorem gz_129_87 : mz_pg 129 87 = some (.putfield 44, 0, 9, 505) := by decide +kernel
theorem gz_129_90 : mz_pg 129 90 = some (.return_, 0, 0, 0) := by decide +kernel
theorem gm_129 : my_mm 129 2 none 0 0 := by unfold my_mm; decide +kernel
theorem rd_49 : my_rd 49 = .inl (0, 3, [(0, 0, 2)]) := rfl
theorem c8_Clerks_beginNight {l : Launch} {rho : Nat → Int32} {d : Nat} {h : my_H} {Q : my_H → my_V → Prop} (k0 : ∀ (h' : my_H), my_fr [(0, 4), (0, 6), (0, 7), (0, 8), (0, 9), (49, -1)] h h' → 0 ≤ h' 120 4 → h' 120 4 ≤ 3 → h' 120 6 = 0 → 1 ≤ h' 120 7 → h' 120 7 ≤ 6 → h' 120 8 = 0 → h' 120 9 = 0 → Q h' (9, 0)) : wp l rho d 129 0 [(2, 120), (9, 0)] [] h Q := by
  have J72_1 : ∀ (p72_0 p72_1 : Int) (h72_1 : my_H), my_fr [(0, 4), (0, 6), (0, 7), (0, 8), (0, 9), (49, -1)] h h72_1 → 2 ≤ p72_0 → p72_0 ≤ 6 → 2 ≤ p72_1 → p72_1 ≤ 3 → p72_0 ≤ (p72_1 + 3) → p72_1 ≤ p72_0 → h72_1 120 4 = p72_1 → wp l rho d 129 72 [(2, 120), (0, 3)] [(0, p72_0), (2, 120)] h72_1 Q := by
    intro p72_0 p72_1 h72_1 gh_72_1 q0_72_1 q1_72_1 q2_72_1 q3_72_1 q4_72_1 q5_72_1 c120_4_72_1
    refine v_putI (j := 7) gz_129_72 rfl is_120 rd_0 rfl (by omega) (by omega) rfl (fun h1 fh1 => ?_)
    have gh1 : my_fr [(0, 4), (0, 6), (0, 7), (0, 8), (0, 9), (49, -1)] h h1 := my_fr.up gh_72_1 is_120 fh1 rfl
    refine w_aload_n gz_129_75 rfl ?_
    refine w_iconst gz_129_76 (by decide) ?_
    refine v_putI (j := 6) gz_129_77 rfl is_120 rd_0 rfl (by omega) (by omega) rfl (fun h2 fh2 => ?_)
    have gh2 : my_fr [(0, 4), (0, 6), (0, 7), (0, 8), (0, 9), (49, -1)] h h2 := my_fr.up gh1 is_120 fh2 rfl
    refine w_aload_n gz_129_80 rfl ?_
    refine w_iconst gz_129_81 (by decide) ?_
    refine v_putA (j := 8) gz_129_82 rfl is_120 rd_0 rfl rfl (fun h3 fh3 => ?_)
    have gh3 : my_fr [(0, 4), (0, 6), (0, 7), (0, 8), (0, 9), (49, -1)] h h3 := my_fr.up gh2 is_120 fh3 rfl
    refine w_aload_n gz_129_85 rfl ?_
    refine w_iconst gz_129_86 (by decide) ?_
    refine v_putA (j := 9) gz_129_87 rfl is_120 rd_0 rfl rfl (fun h4 fh4 => ?_)
    have gh4 : my_fr [(0, 4), (0, 6), (0, 7), (0, 8), (0, 9), (49, -1)] h h4 := my_fr.up gh3 is_120 fh4 rfl
    have c5 := ((my_up_fld fh4 (by decide)).trans ((my_up_fld fh3 (by decide)).trans ((my_up_fld fh2 (by decide)).trans ((my_up_fld fh1 (by decide)).trans c120_4_72_1))))
    have c6 := ((my_up_fld fh4 (by decide)).trans ((my_up_fld fh3 (by decide)).trans (my_up_self fh2)))
    have c7 := ((my_up_fld fh4 (by decide)).trans ((my_up_fld fh3 (by decide)).trans ((my_up_fld fh2 (by decide)).trans (my_up_self fh1))))
    have c8 := ((my_up_fld fh4 (by decide)).trans (my_up_self fh3))
    have c9 := (my_up_self fh4)
    exact w_vret gz_129_90 gm_129 (k0 h4 (gh4) (by omega) (by omega) (by omega) (by omega) (by omega) (by omega) (by omega))
  have J7_0 : ∀ (n : Nat) (p7_0 p7_1 : Int) (h7_0 : my_H), my_fr [(0, 4), (0, 6), (0, 7), (0, 8), (0, 9), (49, -1)] h h7_0 → 0 ≤ p7_0 → p7_0 ≤ 3 → 0 ≤ p7_1 → p7_1 ≤ 3 → p7_1 ≤ p7_0 → h7_0 120 4 = p7_1 → 4 - p7_0 ≤ (n : Int) → wp l rho d 129 7 [(2, 120), (0, p7_0)] [] h7_0 Q := by
    intro n
    induction n with
    | zero => intro p7_0 p7_1 h7_0 gh_7_0 q0_7_0 q1_7_0 q2_7_0 q3_7_0 q4_7_0 c120_4_7_0 hm_7_0; exfalso; omega
    | succ n ih_7_0 =>
      intro p7_0 p7_1 h7_0 gh_7_0 q0_7_0 q1_7_0 q2_7_0 q3_7_0 q4_7_0 c120_4_7_0 hm_7_0
      have J39_0 : ∀ (p39_0 : Int) (h39_0 : my_H), my_fr [(0, 4), (0, 6), (0, 7), (0, 8), (0, 9), (49, -1)] h h39_0 → p7_0 ≤ 2 → 0 ≤ p39_0 → p39_0 ≤ 3 → p7_1 ≤ 2 → p39_0 ≤ (p7_0 + 1) → p39_0 ≤ (p7_1 + 1) → p7_1 ≤ p39_0 → p7_1 ≤ p7_0 → h39_0 120 4 = p39_0 → wp l rho d 129 39 [(2, 120), (0, p7_0)] [] h39_0 Q := by
        intro p39_0 h39_0 gh_39_0 q0_39_0 q1_39_0 q2_39_0 q3_39_0 q4_39_0 q5_39_0 q6_39_0 q7_39_0 c120_4_39_0
        refine w_iinc (ls' := [(2, 120), (0, (p7_0 + 1))]) gz_129_39 rfl gm_129 rfl rfl rfl ⟨by omega, by omega⟩ ?_
        refine w_goto (t := 7) gz_129_42 rfl ?_
        exact ih_7_0 ((p7_0 + 1)) (p39_0) h39_0 (gh_39_0) (by omega) (by omega) (by omega) (by omega) (by omega) (c120_4_39_0.trans (by omega)) (by omega)
      refine w_iload_n gz_129_7 rfl ?_
      refine w_iconst gz_129_8 (by decide) ?_
      refine w_icge (t := 45) gz_129_9 rfl (fun u10 => ?_) (fun u10 => ?_)
      ·
        refine w_aload_n gz_129_45 rfl ?_
        refine w_aload_n gz_129_46 rfl ?_
        refine v_getI (j := 4) gz_129_47 rfl is_120 rd_0 rfl (fun v11 ev11 pv11 qv11 => ?_)
        have zv11 := ev11.trans c120_4_7_0
        refine w_iconst gz_129_50 (by decide) ?_
        refine w_icne (t := 59) gz_129_51 rfl (fun u12 => ?_) (fun u12 => ?_)
        ·
          refine w_aload_n gz_129_59 rfl ?_
          refine v_getI (j := 4) gz_129_60 rfl is_120 rd_0 rfl (fun v13 ev13 pv13 qv13 => ?_)
          have zv13 := ev13.trans ev11.symm
          refine w_iconst gz_129_63 (by decide) ?_
          refine w_icne (t := 71) gz_129_64 rfl (fun u14 => ?_) (fun u14 => ?_)
          ·
            refine w_iconst gz_129_71 (by decide) ?_
            refine v_putI (j := 7) gz_129_72 rfl is_120 rd_0 rfl (by omega) (by omega) rfl (fun h15 fh15 => ?_)
            have gh15 : my_fr [(0, 4), (0, 6), (0, 7), (0, 8), (0, 9), (49, -1)] h h15 := my_fr.up gh_7_0 is_120 fh15 rfl
            refine w_aload_n gz_129_75 rfl ?_
            refine w_iconst gz_129_76 (by decide) ?_
            refine v_putI (j := 6) gz_129_77 rfl is_120 rd_0 rfl (by omega) (by omega) rfl (fun h16 fh16 => ?_)
            have gh16 : my_fr [(0, 4), (0, 6), (0, 7), (0, 8), (0, 9), (49, -1)] h h16 := my_fr.up gh15 is_120 fh16 rfl
            refine w_aload_n gz_129_80 rfl ?_
            refine w_iconst gz_129_81 (by decide) ?_
            refine v_putA (j := 8) gz_129_82 rfl is_120 rd_0 rfl rfl (fun h17 fh17 => ?_)
            have gh17 : my_fr [(0, 4), (0, 6), (0, 7), (0, 8), (0, 9), (49, -1)] h h17 := my_fr.up gh16 is_120 fh17 rfl
            refine w_aload_n gz_129_85 rfl ?_
            refine w_iconst gz_129_86 (by decide) ?_
            refine v_putA (j := 9) gz_129_87 rfl is_120 rd_0 rfl rfl (fun h18 fh18 => ?_)
            have gh18 : my_fr [(0, 4), (0, 6), (0, 7), (0, 8), (0, 9), (49, -1)] h h18 := my_fr.up gh17 is_120 fh18 rfl
            have c19 := ((my_up_fld fh18 (by decide)).trans ((my_up_fld fh17 (by decide)).trans ((my_up_fld fh16 (by decide)).trans ((my_up_fld fh15 (by decide)).trans ev13.symm))))
            have c20 := ((my_up_fld fh18 (by decide)).trans ((my_up_fld fh17 (by decide)).trans (my_up_self fh16)))
            have c21 := ((my_up_fld fh18 (by decide)).trans ((my_up_fld fh17 (by decide)).trans ((my_up_fld fh16 (by decide)).trans (my_up_self fh15))))
            have c22 := ((my_up_fld fh18 (by decide)).trans (my_up_self fh17))
            have c23 := (my_up_self fh18)
            exact w_vret gz_129_90 gm_129 (k0 h18 (gh18) (by omega) (by omega) (by omega) (by omega) (by omega) (by omega) (by omega))
          ·
            refine w_iconst gz_129_67 (by decide) ?_
            refine w_goto (t := 72) gz_129_68 rfl ?_
            rw [show (p7_0 : Int) = 3 from by omega]
            exact J72_1 (2) (v13) h7_0 (gh_7_0) (by omega) (by omega) (by omega) (by omega) (by omega) (by omega) (ev13.symm.trans (by omega))
        ·
          refine w_bipush gz_129_54 (by decide) ?_
          refine w_goto (t := 72) gz_129_56 rfl ?_
          rw [show (p7_0 : Int) = 3 from by omega]
          exact J72_1 (6) (v11) h7_0 (gh_7_0) (by omega) (by omega) (by omega) (by omega) (by omega) (by omega) (ev11.symm.trans (by omega))
      ·
        refine w_aload_n gz_129_12 rfl ?_
        refine w_getX (v := 121) gz_129_13 is_120 rd_0 rfl (by decide) rfl ?_
        refine w_iload_n gz_129_16 rfl ?_
        refine w_iald gz_129_17 is_121 rd_46 (by omega) (by omega) (fun v25 ev25 pv25 qv25 => ?_)
        refine w_iconst gz_129_18 (by decide) ?_
        refine w_iceq (t := 39) gz_129_19 rfl (fun u26 => ?_) (fun u26 => ?_)
        ·
          exact J39_0 (p7_1) h7_0 (gh_7_0) (by omega) (by omega) (by omega) (by omega) (by omega) (by omega) (by omega) (by omega) (c120_4_7_0.trans (by omega))
        ·
          refine w_aload_n gz_129_22 rfl ?_
          refine w_getX (v := 124) gz_129_23 is_120 rd_0 rfl (by decide) rfl ?_
          refine w_aload_n gz_129_26 rfl ?_
          refine w_dup gz_129_27 rfl ?_
          refine v_getI (j := 4) gz_129_28 rfl is_120 rd_0 rfl (fun v28 ev28 pv28 qv28 => ?_)
          have zv28 := ev28.trans c120_4_7_0
          refine w_dupx gz_129_31 rfl rfl ?_
          refine w_iconst gz_129_32 (by decide) ?_
          refine w_iadd gz_129_33 ⟨by omega, by omega⟩ ?_
          refine v_putI (j := 4) gz_129_34 rfl is_120 rd_0 rfl (by omega) (by omega) rfl (fun h29 fh29 => ?_)
          have gh29 : my_fr [(0, 4), (0, 6), (0, 7), (0, 8), (0, 9), (49, -1)] h h29 := my_fr.up gh_7_0 is_120 fh29 rfl
          refine w_iload_n gz_129_37 rfl ?_
          refine w_iast gz_129_38 is_124 rd_49 (by omega) (by omega) (by omega) (by omega) (fun h30 fh30 => ?_)
          have gh30 : my_fr [(0, 4), (0, 6), (0, 7), (0, 8), (0, 9), (49, -1)] h h30 := my_fr.up gh29 is_124 fh30 rfl
          exact J39_0 ((v28 + 1)) h30 (gh30) (by omega) (by omega) (by omega) (by omega) (by omega) (by omega) (by omega) (by omega) (((my_up_role fh30 is_120 is_124 rfl).trans (my_up_self fh29)).trans (by omega))
  refine w_aload_n gz_129_0 rfl ?_
  refine w_iconst gz_129_1 (by decide) ?_
  refine v_putI (j := 4) gz_129_2 rfl is_120 rd_0 rfl (by omega) (by omega) rfl (fun h31 fh31 => ?_)
  have gh31 : my_fr [(0, 4), (0, 6), (0, 7), (0, 8), (0, 9), (49, -1)] h h31 := my_fr.up my_fr.rf is_120 fh31 rfl
  refine w_iconst gz_129_5 (by decide) ?_
  refine w_istore_n (ls' := [(2, 120), (0, 0)]) gz_129_6 gm_129 rfl rfl rfl ?_
  exact J7_0 4 (0) (0) h31 (gh31) (by omega) (by omega) (by omega) (by omega) (by omega) ((my_up_self fh31).trans (by omega)) (by omega)
theorem gz_126_0 : mz_pg 126 0 = some (.iload_n 0, 0, 0, 0) := by decide +kernel
theorem gz_126_1 : mz_pg 126 1 = some (.bipush 20, 0, 0, 0) := by decide +kernel
theorem gz_126_3 : mz_pg 126 3 = some (.if_icmp .ge 7, 0, 0, 0) := by decide +kernel
theorem gz_126_6 : mz_pg 126 6 = some (.iconst 1, 0, 0, 0) := by decide +kernel
theorem gz_126_7 : mz_pg 126 7 = some (.goto 6, 0, 0, 0) := by decide +kernel
theorem gz_126_10 : mz_pg 126 10 = some (.sipush 180, 0, 0, 0) := by decide +kernel
theorem gz_126_13 : mz_pg 126 13 = some (.ireturn, 0, 0, 0) := by decide +kernel
theorem gz_136_0 : mz_pg 136 0 = some (.aload_n 0, 0, 0, 0) := by decide +kernel
theorem gz_136_1 : mz_pg 136 1 = some (.iconst 0, 0, 0, 0) := by decide +kernel
theorem gz_136_2 : mz_pg 136 2 = some (.putfield 26, 1, 3, 458) := by decide +kernel
theorem gz_136_5 : mz_pg 136 5 = some (.aload_n 0, 0, 0, 0) := by decide +kernel
theorem gz_136_6 : mz_pg 136 6 = some (.iconst (-1), 0, 0, 0) := by decide +kernel
theorem gz_136_7 : mz_pg 136 7 = some (.putfield 30, 1, 4, 460) := by decide +kernel
theorem gz_136_10 : mz_pg 136 10 = some (.aload_n 0, 0, 0, 0) := by decide +kernel
theorem gz_136_11 : mz_pg 136 11 = some (.iconst (-1), 0, 0, 0) := by decide +kernel
theorem gz_136_12 : mz_pg 136 12 = some (.putfield 33, 1, 5, 462) := by decide +kernel
theorem gz_136_15 : mz_pg 136 15 = some (.aload_n 0, 0, 0, 0) := by decide +kernel
theorem gz_136_16 : mz_pg 136 16 = some (.iconst (-1), 0, 0, 0) := by decide +kernel
theorem gz_136_17 : mz_pg 136 17 = some (.putfield 36, 1, 6, 464) := by decide +kernel
theorem gz_136_20 : mz_pg 136 20 = some (.iconst 0, 0, 0, 0) := by decide +kernel
theorem gz_136_21 : mz_pg 136 21 = some (.istore 4, 0, 0, 0) := by decide +kernel
theorem gz_136_23 : mz_pg 136 23 = some (.iload 4, 0, 0, 0) := by decide +kernel
theorem gz_136_25 : mz_pg 136 25 = some (.aload_n 0, 0, 0, 0) := by decide +kernel
theorem gz_136_26 : mz_pg 136 26 = some (.getfield 22, 1, 0, 455) := by decide +kernel
theorem gz_136_29 : mz_pg 136 29 = some (.getfield 39, 3, 0, 146) := by decide +kernel
theorem gz_136_32 : mz_pg 136 32 = some (.iload_n 2, 0, 0, 0) := by decide +kernel
theorem gz_136_33 : mz_pg 136 33 = some (.iaload, 0, 0, 0) := by decide +kernel
theorem gz_136_34 : mz_pg 136 34 = some (.if_icmp .ge 94, 0, 0, 0) := by decide +kernel
theorem gz_136_37 : mz_pg 136 37 = some (.iconst 0, 0, 0, 0) := by decide +kernel
theorem gz_136_38 : mz_pg 136 38 = some (.istore 5, 0, 0, 0) := by decide +kernel
theorem gz_136_40 : mz_pg 136 40 = some (.iload 5, 0, 0, 0) := by decide +kernel
theorem gz_136_42 : mz_pg 136 42 = some (.iconst 2, 0, 0, 0) := by decide +kernel
theorem gz_136_43 : mz_pg 136 43 = some (.if_icmp .gt 79, 0, 0, 0) := by decide +kernel
theorem gz_136_46 : mz_pg 136 46 = some (.iconst 0, 0, 0, 0) := by decide +kernel
theorem gz_136_47 : mz_pg 136 47 = some (.istore 6, 0, 0, 0) := by decide +kernel
theorem gz_136_49 : mz_pg 136 49 = some (.iload 6, 0, 0, 0) := by decide +kernel
theorem gz_136_51 : mz_pg 136 51 = some (.bipush 20, 0, 0, 0) := by decide +kernel
theorem gz_136_53 : mz_pg 136 53 = some (.if_icmp .gt 63, 0, 0, 0) := by decide +kernel
theorem gz_136_56 : mz_pg 136 56 = some (.aload_n 1, 0, 0, 0) := by decide +kernel
theorem gz_136_57 : mz_pg 136 57 = some (.iload_n 2, 0, 0, 0) := by decide +kernel
theorem gz_136_58 : mz_pg 136 58 = some (.iload 4, 0, 0, 0) := by decide +kernel
theorem gz_136_60 : mz_pg 136 60 = some (.iload 5, 0, 0, 0) := by decide +kernel
theorem gz_136_62 : mz_pg 136 62 = some (.iload 6, 0, 0, 0) := by decide +kernel
theorem gz_136_64 : mz_pg 136 64 = some (.invokestatic 44, 1, 125, 1058) := by decide +kernel
theorem gz_136_67 : mz_pg 136 67 = some (.iload_n 3, 0, 0, 0) := by decide +kernel
theorem gz_136_68 : mz_pg 136 68 = some (.if_icmp .ne 42, 0, 0, 0) := by decide +kernel
theorem gz_136_71 : mz_pg 136 71 = some (.aload_n 0, 0, 0, 0) := by decide +kernel
theorem gz_136_72 : mz_pg 136 72 = some (.getfield 26, 1, 3, 458) := by decide +kernel
theorem gz_136_75 : mz_pg 136 75 = some (.ifCond .ne 21, 0, 0, 0) := by decide +kernel
theorem gz_136_78 : mz_pg 136 78 = some (.aload_n 0, 0, 0, 0) := by decide +kernel
theorem gz_136_79 : mz_pg 136 79 = some (.iload 4, 0, 0, 0) := by decide +kernel
theorem gz_136_81 : mz_pg 136 81 = some (.putfield 30, 1, 4, 460) := by decide +kernel
theorem gz_136_84 : mz_pg 136 84 = some (.aload_n 0, 0, 0, 0) := by decide +kernel
theorem gz_136_85 : mz_pg 136 85 = some (.iload 5, 0, 0, 0) := by decide +kernel
theorem gz_136_87 : mz_pg 136 87 = some (.putfield 33, 1, 5, 462) := by decide +kernel
theorem gz_136_90 : mz_pg 136 90 = some (.aload_n 0, 0, 0, 0) := by decide +kernel
theorem gz_136_91 : mz_pg 136 91 = some (.iload 6, 0, 0, 0) := by decide +kernel
theorem gz_136_93 : mz_pg 136 93 = some (.putfield 36, 1, 6, 464) := by decide +kernel
theorem gz_136_96 : mz_pg 136 96 = some (.aload_n 0, 0, 0, 0) := by decide +kernel
theorem gz_136_97 : mz_pg 136 97 = some (.dup, 0, 0, 0) := by decide +kernel
theorem gz_136_98 : mz_pg 136 98 = some (.getfield 26, 1, 3, 458) := by decide +kernel
theorem gz_136_101 : mz_pg 136 101 = some (.iload 6, 0, 0, 0) := by decide +kernel
theorem gz_136_103 : mz_pg 136 103 = some (.invokestatic 48, 1, 126, 1061) := by decide +kernel
theorem gz_136_106 : mz_pg 136 106 = some (.iadd, 0, 0, 0) := by decide +kernel
theorem gz_136_107 : mz_pg 136 107 = some (.putfield 26, 1, 3, 458) := by decide +kernel
theorem gz_136_110 : mz_pg 136 110 = some (.iinc 6 1, 0, 0, 0) := by decide +kernel
theorem gz_136_113 : mz_pg 136 113 = some (.goto (-64), 0, 0, 0) := by decide +kernel
theorem gz_136_116 : mz_pg 136 116 = some (.iinc 5 1, 0, 0, 0) := by decide +kernel
theorem gz_136_119 : mz_pg 136 119 = some (.goto (-79), 0, 0, 0) := by decide +kernel
theorem gz_136_122 : mz_pg 136 122 = some (.iinc 4 1, 0, 0, 0) := by decide +kernel
theorem gz_136_125 : mz_pg 136 125 = some (.goto (-102), 0, 0, 0) := by decide +kernel
theorem gz_136_128 : mz_pg 136 128 = some (.return_, 0, 0, 0) := by decide +kernel
theorem gm_126 : my_mm 126 1 (some .int) 1 1 := by unfold my_mm; decide +kernel
theorem gm_136 : my_mm 136 7 none 3 1 := by unfold my_mm; decide +kernel
theorem c9_Cutter_findCuts {l : Launch} {rho : Nat → Int32} {d : Nat} {h : my_H} {Q : my_H → my_V → Prop} {x1 x2 x3 : Int} (t1 : my_is 6 x1) (a2 : 0 ≤ x2) (b2 : x2 ≤ 2) (k0 : ∀ (h' : my_H), my_fr [(1, 3), (1, 4), (1, 5), (1, 6)] h h' → (-1) ≤ h' 114 4 → h' 114 4 ≤ 3 → (-1) ≤ h' 114 5 → h' 114 5 ≤ 2 → (-1) ≤ h' 114 6 → h' 114 6 ≤ 20 → Q h' (9, 0)) : wp l rho (d + 2) 136 0 [(2, 114), (2, x1), (0, x2), (0, x3), (9, 0), (9, 0), (9, 0)] [] h Q := by
  have J23_0 : ∀ (n : Nat) (p23_0 p23_1 p23_2 p23_3 p23_4 : Int) (h23_0 : my_H), my_fr [(1, 3), (1, 4), (1, 5), (1, 6)] h h23_0 → 0 ≤ p23_0 → p23_0 ≤ 4 → (-1) ≤ p23_2 → p23_2 ≤ 3 → (-1) ≤ p23_3 → p23_3 ≤ 2 → (-1) ≤ p23_4 → p23_4 ≤ 20 → p23_2 ≤ (p23_0 - 1) → p23_2 ≤ (p23_3 + 3) → p23_3 ≤ (p23_0 + 1) → p23_3 ≤ (p23_2 + 2) → h23_0 114 3 = p23_1 → h23_0 114 4 = p23_2 → h23_0 114 5 = p23_3 → h23_0 114 6 = p23_4 → 5 - p23_0 ≤ (n : Int) → wp l rho (d + 2) 136 23 [(2, 114), (2, x1), (0, x2), (0, x3), (0, p23_0), (9, 0), (9, 0)] [] h23_0 Q := by
    intro n
    induction n with
    | zero => intro p23_0 p23_1 p23_2 p23_3 p23_4 h23_0 gh_23_0 q0_23_0 q1_23_0 q2_23_0 q3_23_0 q4_23_0 q5_23_0 q6_23_0 q7_23_0 q8_23_0 q9_23_0 q10_23_0 q11_23_0 c114_3_23_0 c114_4_23_0 c114_5_23_0 c114_6_23_0 hm_23_0; exfalso; omega
    | succ n ih_23_0 =>
      intro p23_0 p23_1 p23_2 p23_3 p23_4 h23_0 gh_23_0 q0_23_0 q1_23_0 q2_23_0 q3_23_0 q4_23_0 q5_23_0 q6_23_0 q7_23_0 q8_23_0 q9_23_0 q10_23_0 q11_23_0 c114_3_23_0 c114_4_23_0 c114_5_23_0 c114_6_23_0 hm_23_0
      have J40_0 : ∀ (n : Nat) (p40_0 p40_1 p40_2 p40_3 p40_4 : Int) (h40_0 : my_H), my_fr [(1, 3), (1, 4), (1, 5), (1, 6)] h h40_0 → p23_0 ≤ 3 → 0 ≤ p40_0 → p40_0 ≤ 3 → (-1) ≤ p40_2 → p40_2 ≤ 3 → (-1) ≤ p40_3 → p40_3 ≤ 2 → (-1) ≤ p40_4 → p40_4 ≤ 20 → p23_2 ≤ 2 → p40_2 ≤ (p40_0 + 2) → p40_2 ≤ (p40_3 + 3) → p40_2 ≤ (p40_4 + 3) → p40_2 ≤ p23_0 → p40_3 ≤ (p40_2 + 2) → p23_2 ≤ p40_2 → p23_2 ≤ (p23_0 - 1) → p23_3 ≤ (p40_2 + 2) → p23_3 ≤ (p40_3 + 2) → p23_3 ≤ (p23_0 + 1) → p23_3 ≤ (p23_2 + 2) → h40_0 114 3 = p40_1 → h40_0 114 4 = p40_2 → h40_0 114 5 = p40_3 → h40_0 114 6 = p40_4 → 4 - p40_0 ≤ (n : Int) → wp l rho (d + 2) 136 40 [(2, 114), (2, x1), (0, x2), (0, x3), (0, p23_0), (0, p40_0), (9, 0)] [] h40_0 Q := by
        intro n
        induction n with
        | zero => intro p40_0 p40_1 p40_2 p40_3 p40_4 h40_0 gh_40_0 q0_40_0 q1_40_0 q2_40_0 q3_40_0 q4_40_0 q5_40_0 q6_40_0 q7_40_0 q8_40_0 q9_40_0 q10_40_0 q11_40_0 q12_40_0 q13_40_0 q14_40_0 q15_40_0 q16_40_0 q17_40_0 q18_40_0 q19_40_0 q20_40_0 c114_3_40_0 c114_4_40_0 c114_5_40_0 c114_6_40_0 hm_40_0; exfalso; omega
        | succ n ih_40_0 =>
          intro p40_0 p40_1 p40_2 p40_3 p40_4 h40_0 gh_40_0 q0_40_0 q1_40_0 q2_40_0 q3_40_0 q4_40_0 q5_40_0 q6_40_0 q7_40_0 q8_40_0 q9_40_0 q10_40_0 q11_40_0 q12_40_0 q13_40_0 q14_40_0 q15_40_0 q16_40_0 q17_40_0 q18_40_0 q19_40_0 q20_40_0 c114_3_40_0 c114_4_40_0 c114_5_40_0 c114_6_40_0 hm_40_0
          have J49_0 : ∀ (n : Nat) (p49_0 p49_1 p49_2 p49_3 p49_4 : Int) (h49_0 : my_H), my_fr [(1, 3), (1, 4), (1, 5), (1, 6)] h h49_0 → p40_0 ≤ 2 → 0 ≤ p49_0 → p49_0 ≤ 21 → (-1) ≤ p49_2 → p49_2 ≤ 3 → (-1) ≤ p49_3 → p49_3 ≤ 2 → (-1) ≤ p49_4 → p49_4 ≤ 20 → p49_2 ≤ (p49_3 + 3) → p49_2 ≤ (p49_4 + 3) → p49_2 ≤ p23_0 → p49_3 ≤ (p49_2 + 2) → p40_2 ≤ p49_2 → p40_2 ≤ (p49_3 + 3) → p40_2 ≤ (p49_4 + 3) → p40_2 ≤ p23_0 → p40_2 ≤ (p40_0 + 2) → p40_2 ≤ (p40_3 + 3) → p40_2 ≤ (p40_4 + 3) → p40_3 ≤ (p49_2 + 2) → p40_3 ≤ (p49_3 + 2) → p40_3 ≤ (p40_2 + 2) → p23_2 ≤ p49_2 → p23_2 ≤ (p23_0 - 1) → p23_2 ≤ p40_2 → p23_3 ≤ (p49_2 + 2) → p23_3 ≤ (p49_3 + 2) → p23_3 ≤ (p23_0 + 1) → p23_3 ≤ (p40_2 + 2) → p23_3 ≤ (p40_3 + 2) → p23_3 ≤ (p23_2 + 2) → h49_0 114 3 = p49_1 → h49_0 114 4 = p49_2 → h49_0 114 5 = p49_3 → h49_0 114 6 = p49_4 → 22 - p49_0 ≤ (n : Int) → wp l rho (d + 2) 136 49 [(2, 114), (2, x1), (0, x2), (0, x3), (0, p23_0), (0, p40_0), (0, p49_0)] [] h49_0 Q := by
            intro n
            induction n with
            | zero => intro p49_0 p49_1 p49_2 p49_3 p49_4 h49_0 gh_49_0 q0_49_0 q1_49_0 q2_49_0 q3_49_0 q4_49_0 q5_49_0 q6_49_0 q7_49_0 q8_49_0 q9_49_0 q10_49_0 q11_49_0 q12_49_0 q13_49_0 q14_49_0 q15_49_0 q16_49_0 q17_49_0 q18_49_0 q19_49_0 q20_49_0 q21_49_0 q22_49_0 q23_49_0 q24_49_0 q25_49_0 q26_49_0 q27_49_0 q28_49_0 q29_49_0 q30_49_0 q31_49_0 c114_3_49_0 c114_4_49_0 c114_5_49_0 c114_6_49_0 hm_49_0; exfalso; omega
            | succ n ih_49_0 =>
              intro p49_0 p49_1 p49_2 p49_3 p49_4 h49_0 gh_49_0 q0_49_0 q1_49_0 q2_49_0 q3_49_0 q4_49_0 q5_49_0 q6_49_0 q7_49_0 q8_49_0 q9_49_0 q10_49_0 q11_49_0 q12_49_0 q13_49_0 q14_49_0 q15_49_0 q16_49_0 q17_49_0 q18_49_0 q19_49_0 q20_49_0 q21_49_0 q22_49_0 q23_49_0 q24_49_0 q25_49_0 q26_49_0 q27_49_0 q28_49_0 q29_49_0 q30_49_0 q31_49_0 c114_3_49_0 c114_4_49_0 c114_5_49_0 c114_6_49_0 hm_49_0
              have J110_0 : ∀ (p110_0 p110_1 p110_2 p110_3 : Int) (h110_0 : my_H), my_fr [(1, 3), (1, 4), (1, 5), (1, 6)] h h110_0 → p49_0 ≤ 20 → (-1) ≤ p110_1 → p110_1 ≤ 3 → (-1) ≤ p110_2 → p110_2 ≤ 2 → (-1) ≤ p110_3 → p110_3 ≤ 20 → p110_1 ≤ (p110_2 + 3) → p110_1 ≤ (p110_3 + 3) → p110_1 ≤ p23_0 → p110_2 ≤ (p110_1 + 2) → p49_2 ≤ p110_1 → p49_2 ≤ (p110_2 + 3) → p49_2 ≤ (p110_3 + 3) → p49_2 ≤ p23_0 → p49_2 ≤ (p49_3 + 3) → p49_2 ≤ (p49_4 + 3) → p49_3 ≤ (p110_1 + 2) → p49_3 ≤ (p110_2 + 2) → p49_3 ≤ (p49_2 + 2) → p40_2 ≤ p110_1 → p40_2 ≤ (p110_2 + 3) → p40_2 ≤ (p110_3 + 3) → p40_2 ≤ p23_0 → p40_2 ≤ (p40_0 + 2) → p40_2 ≤ p49_2 → p40_2 ≤ (p49_3 + 3) → p40_2 ≤ (p49_4 + 3) → p40_2 ≤ (p40_3 + 3) → p40_2 ≤ (p40_4 + 3) → p40_3 ≤ (p110_1 + 2) → p40_3 ≤ (p110_2 + 2) → p40_3 ≤ (p49_2 + 2) → p40_3 ≤ (p49_3 + 2) → p40_3 ≤ (p40_2 + 2) → p23_2 ≤ p110_1 → p23_2 ≤ (p23_0 - 1) → p23_2 ≤ p49_2 → p23_2 ≤ p40_2 → p23_3 ≤ (p110_1 + 2) → p23_3 ≤ (p110_2 + 2) → p23_3 ≤ (p23_0 + 1) → p23_3 ≤ (p49_2 + 2) → p23_3 ≤ (p49_3 + 2) → p23_3 ≤ (p40_2 + 2) → p23_3 ≤ (p40_3 + 2) → p23_3 ≤ (p23_2 + 2) → h110_0 114 3 = p110_0 → h110_0 114 4 = p110_1 → h110_0 114 5 = p110_2 → h110_0 114 6 = p110_3 → wp l rho (d + 2) 136 110 [(2, 114), (2, x1), (0, x2), (0, x3), (0, p23_0), (0, p40_0), (0, p49_0)] [] h110_0 Q := by
                intro p110_0 p110_1 p110_2 p110_3 h110_0 gh_110_0 q0_110_0 q1_110_0 q2_110_0 q3_110_0 q4_110_0 q5_110_0 q6_110_0 q7_110_0 q8_110_0 q9_110_0 q10_110_0 q11_110_0 q12_110_0 q13_110_0 q14_110_0 q15_110_0 q16_110_0 q17_110_0 q18_110_0 q19_110_0 q20_110_0 q21_110_0 q22_110_0 q23_110_0 q24_110_0 q25_110_0 q26_110_0 q27_110_0 q28_110_0 q29_110_0 q30_110_0 q31_110_0 q32_110_0 q33_110_0 q34_110_0 q35_110_0 q36_110_0 q37_110_0 q38_110_0 q39_110_0 q40_110_0 q41_110_0 q42_110_0 q43_110_0 q44_110_0 q45_110_0 q46_110_0 c114_3_110_0 c114_4_110_0 c114_5_110_0 c114_6_110_0
                refine w_iinc (ls' := [(2, 114), (2, x1), (0, x2), (0, x3), (0, p23_0), (0, p40_0), (0, (p49_0 + 1))]) gz_136_110 rfl gm_136 rfl rfl rfl ⟨by omega, by omega⟩ ?_
                refine w_goto (t := 49) gz_136_113 rfl ?_
                exact ih_49_0 ((p49_0 + 1)) (p110_0) (p110_1) (p110_2) (p110_3) h110_0 (gh_110_0) (by omega) (by omega) (by omega) (by omega) (by omega) (by omega) (by omega) (by omega) (by omega) (by omega) (by omega) (by omega) (by omega) (by omega) (by omega) (by omega) (by omega) (by omega) (by omega) (by omega) (by omega) (by omega) (by omega) (by omega) (by omega) (by omega) (by omega) (by omega) (by omega) (by omega) (by omega) (by omega) (c114_3_110_0.trans (by omega)) (c114_4_110_0.trans (by omega)) (c114_5_110_0.trans (by omega)) (c114_6_110_0.trans (by omega)) (by omega)
              have J96_0 : ∀ (p96_0 p96_1 p96_2 p96_3 : Int) (h96_0 : my_H), my_fr [(1, 3), (1, 4), (1, 5), (1, 6)] h h96_0 → p49_0 ≤ 20 → (-1) ≤ p96_1 → p96_1 ≤ 3 → (-1) ≤ p96_2 → p96_2 ≤ 2 → (-1) ≤ p96_3 → p96_3 ≤ 20 → p96_1 ≤ (p96_2 + 3) → p96_1 ≤ (p96_3 + 3) → p96_1 ≤ p23_0 → p96_2 ≤ (p96_1 + 2) → p96_0 ≤ p49_1 → p49_2 ≤ p96_1 → p49_2 ≤ (p96_2 + 3) → p49_2 ≤ (p96_3 + 3) → p49_2 ≤ p23_0 → p49_2 ≤ (p49_3 + 3) → p49_2 ≤ (p49_4 + 3) → p49_3 ≤ (p96_1 + 2) → p49_3 ≤ (p96_2 + 2) → p49_3 ≤ (p49_2 + 2) → p49_1 ≤ p96_0 → p40_2 ≤ p96_1 → p40_2 ≤ (p96_2 + 3) → p40_2 ≤ (p96_3 + 3) → p40_2 ≤ p23_0 → p40_2 ≤ (p40_0 + 2) → p40_2 ≤ p49_2 → p40_2 ≤ (p49_3 + 3) → p40_2 ≤ (p49_4 + 3) → p40_2 ≤ (p40_3 + 3) → p40_2 ≤ (p40_4 + 3) → p40_3 ≤ (p96_1 + 2) → p40_3 ≤ (p96_2 + 2) → p40_3 ≤ (p49_2 + 2) → p40_3 ≤ (p49_3 + 2) → p40_3 ≤ (p40_2 + 2) → p23_2 ≤ p96_1 → p23_2 ≤ (p23_0 - 1) → p23_2 ≤ p49_2 → p23_2 ≤ p40_2 → p23_3 ≤ (p96_1 + 2) → p23_3 ≤ (p96_2 + 2) → p23_3 ≤ (p23_0 + 1) → p23_3 ≤ (p49_2 + 2) → p23_3 ≤ (p49_3 + 2) → p23_3 ≤ (p40_2 + 2) → p23_3 ≤ (p40_3 + 2) → p23_3 ≤ (p23_2 + 2) → h96_0 114 3 = p96_0 → h96_0 114 4 = p96_1 → h96_0 114 5 = p96_2 → h96_0 114 6 = p96_3 → wp l rho (d + 2) 136 96 [(2, 114), (2, x1), (0, x2), (0, x3), (0, p23_0), (0, p40_0), (0, p49_0)] [] h96_0 Q := by
                intro p96_0 p96_1 p96_2 p96_3 h96_0 gh_96_0 q0_96_0 q1_96_0 q2_96_0 q3_96_0 q4_96_0 q5_96_0 q6_96_0 q7_96_0 q8_96_0 q9_96_0 q10_96_0 q11_96_0 q12_96_0 q13_96_0 q14_96_0 q15_96_0 q16_96_0 q17_96_0 q18_96_0 q19_96_0 q20_96_0 q21_96_0 q22_96_0 q23_96_0 q24_96_0 q25_96_0 q26_96_0 q27_96_0 q28_96_0 q29_96_0 q30_96_0 q31_96_0 q32_96_0 q33_96_0 q34_96_0 q35_96_0 q36_96_0 q37_96_0 q38_96_0 q39_96_0 q40_96_0 q41_96_0 q42_96_0 q43_96_0 q44_96_0 q45_96_0 q46_96_0 q47_96_0 q48_96_0 c114_3_96_0 c114_4_96_0 c114_5_96_0 c114_6_96_0
                refine w_aload_n gz_136_96 rfl ?_
                refine w_dup gz_136_97 rfl ?_
                refine v_getI (j := 3) gz_136_98 rfl is_114 rd_1 rfl (fun v1 ev1 pv1 qv1 => ?_)
                have zv1 := ev1.trans c114_3_96_0
                refine w_iload gz_136_101 rfl ?_
                refine w_inS (k := 0) (as := [(0, p49_0)]) (r := [(0, v1), (2, 114)]) (ls0 := [(0, p49_0)]) gz_136_103 gm_126 rfl rfl rfl rfl rfl rfl ?_
                refine w_iload_n gz_126_0 rfl ?_
                refine w_bipush gz_126_1 (by decide) ?_
                refine w_icge (t := 10) gz_126_3 rfl (fun u2 => ?_) (fun u2 => ?_)
                ·
                  refine w_sipush gz_126_10 (by decide) ?_
                  refine w_iret gz_126_13 gm_126 ?_
                  show wp l rho (d + 2) 136 106 [(2, 114), (2, x1), (0, x2), (0, x3), (0, p23_0), (0, p40_0), (0, p49_0)] [(0, 180), (0, v1), (2, 114)] h96_0 Q
                  refine w_ianyA gz_136_106 (fun v3 pv3 qv3 => ?_)
                  refine v_putA (j := 3) gz_136_107 rfl is_114 rd_1 rfl rfl (fun h4 fh4 => ?_)
                  have gh4 : my_fr [(1, 3), (1, 4), (1, 5), (1, 6)] h h4 := my_fr.up gh_96_0 is_114 fh4 rfl
                  exact J110_0 (v3) (p96_1) (p96_2) (p96_3) h4 (gh4) (by omega) (by omega) (by omega) (by omega) (by omega) (by omega) (by omega) (by omega) (by omega) (by omega) (by omega) (by omega) (by omega) (by omega) (by omega) (by omega) (by omega) (by omega) (by omega) (by omega) (by omega) (by omega) (by omega) (by omega) (by omega) (by omega) (by omega) (by omega) (by omega) (by omega) (by omega) (by omega) (by omega) (by omega) (by omega) (by omega) (by omega) (by omega) (by omega) (by omega) (by omega) (by omega) (by omega) (by omega) (by omega) (by omega) (by omega) ((my_up_self fh4).trans (by omega)) (((my_up_fld fh4 (by decide)).trans c114_4_96_0).trans (by omega)) (((my_up_fld fh4 (by decide)).trans c114_5_96_0).trans (by omega)) (((my_up_fld fh4 (by decide)).trans c114_6_96_0).trans (by omega))
                ·
                  refine w_iconst gz_126_6 (by decide) ?_
                  refine w_goto (t := 13) gz_126_7 rfl ?_
                  refine w_iret gz_126_13 gm_126 ?_
                  show wp l rho (d + 2) 136 106 [(2, 114), (2, x1), (0, x2), (0, x3), (0, p23_0), (0, p40_0), (0, p49_0)] [(0, 1), (0, v1), (2, 114)] h96_0 Q
                  refine w_ianyA gz_136_106 (fun v5 pv5 qv5 => ?_)
                  refine v_putA (j := 3) gz_136_107 rfl is_114 rd_1 rfl rfl (fun h6 fh6 => ?_)
                  have gh6 : my_fr [(1, 3), (1, 4), (1, 5), (1, 6)] h h6 := my_fr.up gh_96_0 is_114 fh6 rfl
                  exact J110_0 (v5) (p96_1) (p96_2) (p96_3) h6 (gh6) (by omega) (by omega) (by omega) (by omega) (by omega) (by omega) (by omega) (by omega) (by omega) (by omega) (by omega) (by omega) (by omega) (by omega) (by omega) (by omega) (by omega) (by omega) (by omega) (by omega) (by omega) (by omega) (by omega) (by omega) (by omega) (by omega) (by omega) (by omega) (by omega) (by omega) (by omega) (by omega) (by omega) (by omega) (by omega) (by omega) (by omega) (by omega) (by omega) (by omega) (by omega) (by omega) (by omega) (by omega) (by omega) (by omega) (by omega) ((my_up_self fh6).trans (by omega)) (((my_up_fld fh6 (by decide)).trans c114_4_96_0).trans (by omega)) (((my_up_fld fh6 (by decide)).trans c114_5_96_0).trans (by omega)) (((my_up_fld fh6 (by decide)).trans c114_6_96_0).trans (by omega))
              refine w_iload gz_136_49 rfl ?_
              refine w_bipush gz_136_51 (by decide) ?_
              refine w_icgt (t := 116) gz_136_53 rfl (fun u7 => ?_) (fun u7 => ?_)
              ·
                refine w_iinc (ls' := [(2, 114), (2, x1), (0, x2), (0, x3), (0, p23_0), (0, (p40_0 + 1)), (0, p49_0)]) gz_136_116 rfl gm_136 rfl rfl rfl ⟨by omega, by omega⟩ ?_
                refine w_goto (t := 40) gz_136_119 rfl ?_
                refine w_weak (ls' := [(2, 114), (2, x1), (0, x2), (0, x3), (0, p23_0), (0, (p40_0 + 1)), (9, 0)]) (wk_e (wk_e (wk_e (wk_e (wk_e (wk_e (wk_9 wk_n))))))) ?_
                exact ih_40_0 ((p40_0 + 1)) (p49_1) (p49_2) (p49_3) (p49_4) h49_0 (gh_49_0) (by omega) (by omega) (by omega) (by omega) (by omega) (by omega) (by omega) (by omega) (by omega) (by omega) (by omega) (by omega) (by omega) (by omega) (by omega) (by omega) (by omega) (by omega) (by omega) (by omega) (by omega) (c114_3_49_0.trans (by omega)) (c114_4_49_0.trans (by omega)) (c114_5_49_0.trans (by omega)) (c114_6_49_0.trans (by omega)) (by omega)
              ·
                refine w_aload_n gz_136_56 rfl ?_
                refine w_iload_n gz_136_57 rfl ?_
                refine w_iload gz_136_58 rfl ?_
                refine w_iload gz_136_60 rfl ?_
                refine w_iload gz_136_62 rfl ?_
                refine w_inS (k := 3) (as := [(0, p49_0), (0, p40_0), (0, p23_0), (0, x2), (2, x1)]) (r := []) (ls0 := [(2, x1), (0, x2), (0, p23_0), (0, p40_0), (0, p49_0), (9, 0), (9, 0), (9, 0)]) gz_136_64 gm_125 rfl rfl rfl rfl rfl rfl (c6_Cutter_keysLeft (d := d) (x0 := x1) (x1 := x2) (x2 := p23_0) (x3 := p40_0) (x4 := p49_0) t1 (by omega) (by omega) (by omega) (by omega) (by omega) (by omega) (by omega) (by omega) (fun w8 w9 w10 => ?_) (fun v11 => ?_))
                ·
                  show wp l rho (d + 2) 136 67 [(2, 114), (2, x1), (0, x2), (0, x3), (0, p23_0), (0, p40_0), (0, p49_0)] [(0, 0)] h49_0 Q
                  refine w_iload_n gz_136_67 rfl ?_
                  refine w_icne (t := 110) gz_136_68 rfl (fun u12 => ?_) (fun u12 => ?_)
                  ·
                    exact J110_0 (p49_1) (p49_2) (p49_3) (p49_4) h49_0 (gh_49_0) (by omega) (by omega) (by omega) (by omega) (by omega) (by omega) (by omega) (by omega) (by omega) (by omega) (by omega) (by omega) (by omega) (by omega) (by omega) (by omega) (by omega) (by omega) (by omega) (by omega) (by omega) (by omega) (by omega) (by omega) (by omega) (by omega) (by omega) (by omega) (by omega) (by omega) (by omega) (by omega) (by omega) (by omega) (by omega) (by omega) (by omega) (by omega) (by omega) (by omega) (by omega) (by omega) (by omega) (by omega) (by omega) (by omega) (by omega) (c114_3_49_0.trans (by omega)) (c114_4_49_0.trans (by omega)) (c114_5_49_0.trans (by omega)) (c114_6_49_0.trans (by omega))
                  ·
                    refine w_aload_n gz_136_71 rfl ?_
                    refine v_getI (j := 3) gz_136_72 rfl is_114 rd_1 rfl (fun v13 ev13 pv13 qv13 => ?_)
                    have zv13 := ev13.trans c114_3_49_0
                    refine w_ifne (t := 96) gz_136_75 rfl (fun u14 => ?_) (fun u14 => ?_)
                    ·
                      exact J96_0 (v13) (p49_2) (p49_3) (p49_4) h49_0 (gh_49_0) (by omega) (by omega) (by omega) (by omega) (by omega) (by omega) (by omega) (by omega) (by omega) (by omega) (by omega) (by omega) (by omega) (by omega) (by omega) (by omega) (by omega) (by omega) (by omega) (by omega) (by omega) (by omega) (by omega) (by omega) (by omega) (by omega) (by omega) (by omega) (by omega) (by omega) (by omega) (by omega) (by omega) (by omega) (by omega) (by omega) (by omega) (by omega) (by omega) (by omega) (by omega) (by omega) (by omega) (by omega) (by omega) (by omega) (by omega) (by omega) (by omega) (ev13.symm.trans (by omega)) (c114_4_49_0.trans (by omega)) (c114_5_49_0.trans (by omega)) (c114_6_49_0.trans (by omega))
                    ·
                      refine w_aload_n gz_136_78 rfl ?_
                      refine w_iload gz_136_79 rfl ?_
                      refine v_putA (j := 4) gz_136_81 rfl is_114 rd_1 rfl rfl (fun h15 fh15 => ?_)
                      have gh15 : my_fr [(1, 3), (1, 4), (1, 5), (1, 6)] h h15 := my_fr.up gh_49_0 is_114 fh15 rfl
                      refine w_aload_n gz_136_84 rfl ?_
                      refine w_iload gz_136_85 rfl ?_
                      refine v_putA (j := 5) gz_136_87 rfl is_114 rd_1 rfl rfl (fun h16 fh16 => ?_)
                      have gh16 : my_fr [(1, 3), (1, 4), (1, 5), (1, 6)] h h16 := my_fr.up gh15 is_114 fh16 rfl
                      refine w_aload_n gz_136_90 rfl ?_
                      refine w_iload gz_136_91 rfl ?_
                      refine v_putA (j := 6) gz_136_93 rfl is_114 rd_1 rfl rfl (fun h17 fh17 => ?_)
                      have gh17 : my_fr [(1, 3), (1, 4), (1, 5), (1, 6)] h h17 := my_fr.up gh16 is_114 fh17 rfl
                      exact J96_0 (v13) (p23_0) (p40_0) (p49_0) h17 (gh17) (by omega) (by omega) (by omega) (by omega) (by omega) (by omega) (by omega) (by omega) (by omega) (by omega) (by omega) (by omega) (by omega) (by omega) (by omega) (by omega) (by omega) (by omega) (by omega) (by omega) (by omega) (by omega) (by omega) (by omega) (by omega) (by omega) (by omega) (by omega) (by omega) (by omega) (by omega) (by omega) (by omega) (by omega) (by omega) (by omega) (by omega) (by omega) (by omega) (by omega) (by omega) (by omega) (by omega) (by omega) (by omega) (by omega) (by omega) (by omega) (by omega) (((my_up_fld fh17 (by decide)).trans ((my_up_fld fh16 (by decide)).trans ((my_up_fld fh15 (by decide)).trans ev13.symm))).trans (by omega)) (((my_up_fld fh17 (by decide)).trans ((my_up_fld fh16 (by decide)).trans (my_up_self fh15))).trans (by omega)) (((my_up_fld fh17 (by decide)).trans (my_up_self fh16)).trans (by omega)) ((my_up_self fh17).trans (by omega))
                ·
                  show wp l rho (d + 2) 136 67 [(2, 114), (2, x1), (0, x2), (0, x3), (0, p23_0), (0, p40_0), (0, p49_0)] [(0, v11)] h49_0 Q
                  refine w_iload_n gz_136_67 rfl ?_
                  refine w_icne (t := 110) gz_136_68 rfl (fun u18 => ?_) (fun u18 => ?_)
                  ·
                    exact J110_0 (p49_1) (p49_2) (p49_3) (p49_4) h49_0 (gh_49_0) (by omega) (by omega) (by omega) (by omega) (by omega) (by omega) (by omega) (by omega) (by omega) (by omega) (by omega) (by omega) (by omega) (by omega) (by omega) (by omega) (by omega) (by omega) (by omega) (by omega) (by omega) (by omega) (by omega) (by omega) (by omega) (by omega) (by omega) (by omega) (by omega) (by omega) (by omega) (by omega) (by omega) (by omega) (by omega) (by omega) (by omega) (by omega) (by omega) (by omega) (by omega) (by omega) (by omega) (by omega) (by omega) (by omega) (by omega) (c114_3_49_0.trans (by omega)) (c114_4_49_0.trans (by omega)) (c114_5_49_0.trans (by omega)) (c114_6_49_0.trans (by omega))
                  ·
                    refine w_aload_n gz_136_71 rfl ?_
                    refine v_getI (j := 3) gz_136_72 rfl is_114 rd_1 rfl (fun v19 ev19 pv19 qv19 => ?_)
                    have zv19 := ev19.trans c114_3_49_0
                    refine w_ifne (t := 96) gz_136_75 rfl (fun u20 => ?_) (fun u20 => ?_)
                    ·
                      exact J96_0 (v19) (p49_2) (p49_3) (p49_4) h49_0 (gh_49_0) (by omega) (by omega) (by omega) (by omega) (by omega) (by omega) (by omega) (by omega) (by omega) (by omega) (by omega) (by omega) (by omega) (by omega) (by omega) (by omega) (by omega) (by omega) (by omega) (by omega) (by omega) (by omega) (by omega) (by omega) (by omega) (by omega) (by omega) (by omega) (by omega) (by omega) (by omega) (by omega) (by omega) (by omega) (by omega) (by omega) (by omega) (by omega) (by omega) (by omega) (by omega) (by omega) (by omega) (by omega) (by omega) (by omega) (by omega) (by omega) (by omega) (ev19.symm.trans (by omega)) (c114_4_49_0.trans (by omega)) (c114_5_49_0.trans (by omega)) (c114_6_49_0.trans (by omega))
                    ·
                      refine w_aload_n gz_136_78 rfl ?_
                      refine w_iload gz_136_79 rfl ?_
                      refine v_putA (j := 4) gz_136_81 rfl is_114 rd_1 rfl rfl (fun h21 fh21 => ?_)
                      have gh21 : my_fr [(1, 3), (1, 4), (1, 5), (1, 6)] h h21 := my_fr.up gh_49_0 is_114 fh21 rfl
                      refine w_aload_n gz_136_84 rfl ?_
                      refine w_iload gz_136_85 rfl ?_
                      refine v_putA (j := 5) gz_136_87 rfl is_114 rd_1 rfl rfl (fun h22 fh22 => ?_)
                      have gh22 : my_fr [(1, 3), (1, 4), (1, 5), (1, 6)] h h22 := my_fr.up gh21 is_114 fh22 rfl
                      refine w_aload_n gz_136_90 rfl ?_
                      refine w_iload gz_136_91 rfl ?_
                      refine v_putA (j := 6) gz_136_93 rfl is_114 rd_1 rfl rfl (fun h23 fh23 => ?_)
                      have gh23 : my_fr [(1, 3), (1, 4), (1, 5), (1, 6)] h h23 := my_fr.up gh22 is_114 fh23 rfl
                      exact J96_0 (v19) (p23_0) (p40_0) (p49_0) h23 (gh23) (by omega) (by omega) (by omega) (by omega) (by omega) (by omega) (by omega) (by omega) (by omega) (by omega) (by omega) (by omega) (by omega) (by omega) (by omega) (by omega) (by omega) (by omega) (by omega) (by omega) (by omega) (by omega) (by omega) (by omega) (by omega) (by omega) (by omega) (by omega) (by omega) (by omega) (by omega) (by omega) (by omega) (by omega) (by omega) (by omega) (by omega) (by omega) (by omega) (by omega) (by omega) (by omega) (by omega) (by omega) (by omega) (by omega) (by omega) (by omega) (by omega) (((my_up_fld fh23 (by decide)).trans ((my_up_fld fh22 (by decide)).trans ((my_up_fld fh21 (by decide)).trans ev19.symm))).trans (by omega)) (((my_up_fld fh23 (by decide)).trans ((my_up_fld fh22 (by decide)).trans (my_up_self fh21))).trans (by omega)) (((my_up_fld fh23 (by decide)).trans (my_up_self fh22)).trans (by omega)) ((my_up_self fh23).trans (by omega))
          refine w_iload gz_136_40 rfl ?_
          refine w_iconst gz_136_42 (by decide) ?_
          refine w_icgt (t := 122) gz_136_43 rfl (fun u24 => ?_) (fun u24 => ?_)
          ·
            refine w_iinc (ls' := [(2, 114), (2, x1), (0, x2), (0, x3), (0, (p23_0 + 1)), (0, p40_0), (9, 0)]) gz_136_122 rfl gm_136 rfl rfl rfl ⟨by omega, by omega⟩ ?_
            refine w_goto (t := 23) gz_136_125 rfl ?_
            refine w_weak (ls' := [(2, 114), (2, x1), (0, x2), (0, x3), (0, (p23_0 + 1)), (9, 0), (9, 0)]) (wk_e (wk_e (wk_e (wk_e (wk_e (wk_9 (wk_9 wk_n))))))) ?_
            exact ih_23_0 ((p23_0 + 1)) (p40_1) (p40_2) (p40_3) (p40_4) h40_0 (gh_40_0) (by omega) (by omega) (by omega) (by omega) (by omega) (by omega) (by omega) (by omega) (by omega) (by omega) (by omega) (by omega) (c114_3_40_0.trans (by omega)) (c114_4_40_0.trans (by omega)) (c114_5_40_0.trans (by omega)) (c114_6_40_0.trans (by omega)) (by omega)
          ·
            refine w_iconst gz_136_46 (by decide) ?_
            refine w_istore (ls' := [(2, 114), (2, x1), (0, x2), (0, x3), (0, p23_0), (0, p40_0), (0, 0)]) gz_136_47 gm_136 rfl rfl rfl ?_
            exact J49_0 22 (0) (p40_1) (p40_2) (p40_3) (p40_4) h40_0 (gh_40_0) (by omega) (by omega) (by omega) (by omega) (by omega) (by omega) (by omega) (by omega) (by omega) (by omega) (by omega) (by omega) (by omega) (by omega) (by omega) (by omega) (by omega) (by omega) (by omega) (by omega) (by omega) (by omega) (by omega) (by omega) (by omega) (by omega) (by omega) (by omega) (by omega) (by omega) (by omega) (by omega) (c114_3_40_0.trans (by omega)) (c114_4_40_0.trans (by omega)) (c114_5_40_0.trans (by omega)) (c114_6_40_0.trans (by omega)) (by omega)
      refine w_iload gz_136_23 rfl ?_
      refine w_aload_n gz_136_25 rfl ?_
      refine w_getX (v := 1) gz_136_26 is_114 rd_1 rfl (by decide) rfl ?_
      refine w_getX (v := 2) gz_136_29 is_1 rd_3 rfl (by decide) rfl ?_
      refine w_iload_n gz_136_32 rfl ?_
      refine w_iald gz_136_33 is_2 rd_25 (by omega) (by omega) (fun v27 ev27 pv27 qv27 => ?_)
      refine w_icge (t := 128) gz_136_34 rfl (fun u28 => ?_) (fun u28 => ?_)
      ·
        have c29 := c114_4_23_0
        have c30 := c114_5_23_0
        have c31 := c114_6_23_0
        exact w_vret gz_136_128 gm_136 (k0 h23_0 (gh_23_0) (by omega) (by omega) (by omega) (by omega) (by omega) (by omega))
      ·
        refine w_iconst gz_136_37 (by decide) ?_
        refine w_istore (ls' := [(2, 114), (2, x1), (0, x2), (0, x3), (0, p23_0), (0, 0), (9, 0)]) gz_136_38 gm_136 rfl rfl rfl ?_
        exact J40_0 4 (0) (p23_1) (p23_2) (p23_3) (p23_4) h23_0 (gh_23_0) (by omega) (by omega) (by omega) (by omega) (by omega) (by omega) (by omega) (by omega) (by omega) (by omega) (by omega) (by omega) (by omega) (by omega) (by omega) (by omega) (by omega) (by omega) (by omega) (by omega) (by omega) (c114_3_23_0.trans (by omega)) (c114_4_23_0.trans (by omega)) (c114_5_23_0.trans (by omega)) (c114_6_23_0.trans (by omega)) (by omega)
  refine w_aload_n gz_136_0 rfl ?_
  refine w_iconst gz_136_1 (by decide) ?_
  refine v_putA (j := 3) gz_136_2 rfl is_114 rd_1 rfl rfl (fun h32 fh32 => ?_)
  have gh32 : my_fr [(1, 3), (1, 4), (1, 5), (1, 6)] h h32 := my_fr.up my_fr.rf is_114 fh32 rfl
  refine w_aload_n gz_136_5 rfl ?_
  refine w_iconst gz_136_6 (by decide) ?_
  refine v_putA (j := 4) gz_136_7 rfl is_114 rd_1 rfl rfl (fun h33 fh33 => ?_)
  have gh33 : my_fr [(1, 3), (1, 4), (1, 5), (1, 6)] h h33 := my_fr.up gh32 is_114 fh33 rfl
  refine w_aload_n gz_136_10 rfl ?_
  refine w_iconst gz_136_11 (by decide) ?_
  refine v_putA (j := 5) gz_136_12 rfl is_114 rd_1 rfl rfl (fun h34 fh34 => ?_)
  have gh34 : my_fr [(1, 3), (1, 4), (1, 5), (1, 6)] h h34 := my_fr.up gh33 is_114 fh34 rfl
  refine w_aload_n gz_136_15 rfl ?_
  refine w_iconst gz_136_16 (by decide) ?_
  refine v_putA (j := 6) gz_136_17 rfl is_114 rd_1 rfl rfl (fun h35 fh35 => ?_)
  have gh35 : my_fr [(1, 3), (1, 4), (1, 5), (1, 6)] h h35 := my_fr.up gh34 is_114 fh35 rfl
  refine w_iconst gz_136_20 (by decide) ?_
  refine w_istore (ls' := [(2, 114), (2, x1), (0, x2), (0, x3), (0, 0), (9, 0), (9, 0)]) gz_136_21 gm_136 rfl rfl rfl ?_
  exact J23_0 5 (0) (0) ((-1)) ((-1)) ((-1)) h35 (gh35) (by omega) (by omega) (by omega) (by omega) (by omega) (by omega) (by omega) (by omega) (by omega) (by omega) (by omega) (by omega) (((my_up_fld fh35 (by decide)).trans ((my_up_fld fh34 (by decide)).trans ((my_up_fld fh33 (by decide)).trans (my_up_self fh32)))).trans (by omega)) (((my_up_fld fh35 (by decide)).trans ((my_up_fld fh34 (by decide)).trans (my_up_self fh33))).trans (by omega)) (((my_up_fld fh35 (by decide)).trans (my_up_self fh34)).trans (by omega)) ((my_up_self fh35).trans (by omega)) (by omega)
theorem gz_140_0 : mz_pg 140 0 = some (.iconst 0, 0, 0, 0) := by decide +kernel
theorem gz_140_1 : mz_pg 140 1 = some (.istore_n 1, 0, 0, 0) := by decide +kernel
theorem gz_140_2 : mz_pg 140 2 = some (.iconst 0, 0, 0, 0) := by decide +kernel
theorem gz_140_3 : mz_pg 140 3 = some (.istore_n 2, 0, 0, 0) := by decide +kernel
theorem gz_140_4 : mz_pg 140 4 = some (.iload_n 2, 0, 0, 0) := by decide +kernel
theorem gz_140_5 : mz_pg 140 5 = some (.bipush 6, 0, 0, 0) := by decide +kernel
theorem gz_140_7 : mz_pg 140 7 = some (.if_icmp .ge 24, 0, 0, 0) := by decide +kernel
theorem gz_140_10 : mz_pg 140 10 = some (.aload_n 0, 0, 0, 0) := by decide +kernel
theorem gz_140_11 : mz_pg 140 11 = some (.getfield 36, 9, 6, 534) := by decide +kernel
theorem gz_140_14 : mz_pg 140 14 = some (.iload_n 2, 0, 0, 0) := by decide +kernel
theorem gz_140_15 : mz_pg 140 15 = some (.aaload, 0, 0, 0) := by decide +kernel
theorem gz_140_16 : mz_pg 140 16 = some (.getfield 337, 4, 0, 197) := by decide +kernel
theorem gz_140_19 : mz_pg 140 19 = some (.ifCond .eq 6, 0, 0, 0) := by decide +kernel
theorem gz_140_22 : mz_pg 140 22 = some (.iinc 1 1, 0, 0, 0) := by decide +kernel
theorem gz_140_25 : mz_pg 140 25 = some (.iinc 2 1, 0, 0, 0) := by decide +kernel
theorem gz_140_28 : mz_pg 140 28 = some (.goto (-24), 0, 0, 0) := by decide +kernel
theorem gz_140_31 : mz_pg 140 31 = some (.iload_n 1, 0, 0, 0) := by decide +kernel
theorem gz_140_32 : mz_pg 140 32 = some (.ireturn, 0, 0, 0) := by decide +kernel
theorem gm_140 : my_mm 140 3 (some .int) 0 9 := by unfold my_mm; decide +kernel
theorem c10_ThroughWindow_countTold {l : Launch} {rho : Nat → Int32} {d : Nat} {h : my_H} {Q : my_H → my_V → Prop} (k0 : ∀ (y : Int), 0 ≤ y → y ≤ 6 → Q h (0, y)) : wp l rho d 140 0 [(2, 0), (9, 0), (9, 0)] [] h Q := by
  have J4_0 : ∀ (n : Nat) (p4_0 p4_1 : Int), 0 ≤ p4_0 → p4_0 ≤ 6 → 0 ≤ p4_1 → p4_1 ≤ 6 → p4_0 ≤ p4_1 → 7 - p4_1 ≤ (n : Int) → wp l rho d 140 4 [(2, 0), (0, p4_0), (0, p4_1)] [] h Q := by
    intro n
    induction n with
    | zero => intro p4_0 p4_1 q0_4_0 q1_4_0 q2_4_0 q3_4_0 q4_4_0 hm_4_0; exfalso; omega
    | succ n ih_4_0 =>
      intro p4_0 p4_1 q0_4_0 q1_4_0 q2_4_0 q3_4_0 q4_4_0 hm_4_0
      have J25_0 : ∀ (p25_0 : Int), 0 ≤ p25_0 → p25_0 ≤ 6 → p4_1 ≤ 5 → p4_0 ≤ 5 → p25_0 ≤ (p4_1 + 1) → p25_0 ≤ (p4_0 + 1) → p4_0 ≤ p25_0 → p4_0 ≤ p4_1 → wp l rho d 140 25 [(2, 0), (0, p25_0), (0, p4_1)] [] h Q := by
        intro p25_0 q0_25_0 q1_25_0 q2_25_0 q3_25_0 q4_25_0 q5_25_0 q6_25_0 q7_25_0
        refine w_iinc (ls' := [(2, 0), (0, p25_0), (0, (p4_1 + 1))]) gz_140_25 rfl gm_140 rfl rfl rfl ⟨by omega, by omega⟩ ?_
        refine w_goto (t := 4) gz_140_28 rfl ?_
        exact ih_4_0 (p25_0) ((p4_1 + 1)) (by omega) (by omega) (by omega) (by omega) (by omega) (by omega)
      refine w_iload_n gz_140_4 rfl ?_
      refine w_bipush gz_140_5 (by decide) ?_
      refine w_icge (t := 31) gz_140_7 rfl (fun u1 => ?_) (fun u1 => ?_)
      ·
        refine w_iload_n gz_140_31 rfl ?_
        exact w_iret gz_140_32 gm_140 (k0 (p4_0) (by omega) (by omega))
      ·
        refine w_aload_n gz_140_10 rfl ?_
        refine w_getX (v := 27) gz_140_11 is_0 rd_9 rfl (by decide) rfl ?_
        refine w_iload_n gz_140_14 rfl ?_
        refine w_aald gz_140_15 is_27 rd_22 rfl (by omega) (by omega) (fun v3 ev3 tv3 => ?_)
        refine v_getI (j := 0) gz_140_16 rfl tv3 rd_4 rfl (fun v4 ev4 pv4 qv4 => ?_)
        refine w_ifeq (t := 25) gz_140_19 rfl (fun u5 => ?_) (fun u5 => ?_)
        ·
          exact J25_0 (p4_0) (by omega) (by omega) (by omega) (by omega) (by omega) (by omega) (by omega) (by omega)
        ·
          refine w_iinc (ls' := [(2, 0), (0, (p4_0 + 1)), (0, p4_1)]) gz_140_22 rfl gm_140 rfl rfl rfl ⟨by omega, by omega⟩ ?_
          exact J25_0 ((p4_0 + 1)) (by omega) (by omega) (by omega) (by omega) (by omega) (by omega) (by omega) (by omega)
  refine w_iconst gz_140_0 (by decide) ?_
  refine w_istore_n (ls' := [(2, 0), (0, 0), (9, 0)]) gz_140_1 gm_140 rfl rfl rfl ?_
  refine w_iconst gz_140_2 (by decide) ?_
  refine w_istore_n (ls' := [(2, 0), (0, 0), (0, 0)]) gz_140_3 gm_140 rfl rfl rfl ?_
  exact J4_0 7 (0) (0) (by omega) (by omega) (by omega) (by omega) (by omega) (by omega)
theorem gz_141_0 : mz_pg 141 0 = some (.iconst 0, 0, 0, 0) := by decide +kernel
theorem gz_141_1 : mz_pg 141 1 = some (.istore_n 1, 0, 0, 0) := by decide +kernel
theorem gz_141_2 : mz_pg 141 2 = some (.iconst 0, 0, 0, 0) := by decide +kernel
theorem gz_141_3 : mz_pg 141 3 = some (.istore_n 2, 0, 0, 0) := by decide +kernel
theorem gz_141_4 : mz_pg 141 4 = some (.iload_n 2, 0, 0, 0) := by decide +kernel
theorem gz_141_5 : mz_pg 141 5 = some (.aload_n 0, 0, 0, 0) := by decide +kernel
theorem gz_141_6 : mz_pg 141 6 = some (.getfield 9, 6, 0, 176) := by decide +kernel
theorem gz_141_9 : mz_pg 141 9 = some (.arraylength, 0, 0, 0) := by decide +kernel
theorem gz_141_10 : mz_pg 141 10 = some (.if_icmp .ge 28, 0, 0, 0) := by decide +kernel
theorem gz_141_13 : mz_pg 141 13 = some (.aload_n 0, 0, 0, 0) := by decide +kernel
theorem gz_141_14 : mz_pg 141 14 = some (.getfield 9, 6, 0, 176) := by decide +kernel
theorem gz_141_17 : mz_pg 141 17 = some (.iload_n 2, 0, 0, 0) := by decide +kernel
theorem gz_141_18 : mz_pg 141 18 = some (.iaload, 0, 0, 0) := by decide +kernel
theorem gz_141_19 : mz_pg 141 19 = some (.iconst (-1), 0, 0, 0) := by decide +kernel
theorem gz_141_20 : mz_pg 141 20 = some (.if_icmp .eq 12, 0, 0, 0) := by decide +kernel
theorem gz_141_23 : mz_pg 141 23 = some (.iload_n 1, 0, 0, 0) := by decide +kernel
theorem gz_141_24 : mz_pg 141 24 = some (.aload_n 0, 0, 0, 0) := by decide +kernel
theorem gz_141_25 : mz_pg 141 25 = some (.getfield 9, 6, 0, 176) := by decide +kernel
theorem gz_141_28 : mz_pg 141 28 = some (.iload_n 2, 0, 0, 0) := by decide +kernel
theorem gz_141_29 : mz_pg 141 29 = some (.iaload, 0, 0, 0) := by decide +kernel
theorem gz_141_30 : mz_pg 141 30 = some (.iadd, 0, 0, 0) := by decide +kernel
theorem gz_141_31 : mz_pg 141 31 = some (.istore_n 1, 0, 0, 0) := by decide +kernel
theorem gz_141_32 : mz_pg 141 32 = some (.iinc 2 1, 0, 0, 0) := by decide +kernel
theorem gz_141_35 : mz_pg 141 35 = some (.goto (-31), 0, 0, 0) := by decide +kernel
theorem gz_141_38 : mz_pg 141 38 = some (.iload_n 1, 0, 0, 0) := by decide +kernel
theorem gz_141_39 : mz_pg 141 39 = some (.ireturn, 0, 0, 0) := by decide +kernel
theorem gm_141 : my_mm 141 3 (some .int) 0 6 := by unfold my_mm; decide +kernel
theorem c11_Rows_sumOfValues {l : Launch} {rho : Nat → Int32} {d : Nat} {h : my_H} {Q : my_H → my_V → Prop} {x0 : Int} (t0 : my_is 6 x0) (k0 : ∀ (y : Int), Q h (0, y)) : wp l rho d 141 0 [(2, x0), (9, 0), (9, 0)] [] h Q := by
  have J4_0 : ∀ (n : Nat) (p4_0 p4_1 : Int), 0 ≤ p4_1 → p4_1 ≤ 240 → 241 - p4_1 ≤ (n : Int) → wp l rho d 141 4 [(2, x0), (0, p4_0), (0, p4_1)] [] h Q := by
    intro n
    induction n with
    | zero => intro p4_0 p4_1 q0_4_0 q1_4_0 hm_4_0; exfalso; omega
    | succ n ih_4_0 =>
      intro p4_0 p4_1 q0_4_0 q1_4_0 hm_4_0
      have J32_0 : ∀ (p32_0 : Int), p4_1 ≤ 239 → wp l rho d 141 32 [(2, x0), (0, p32_0), (0, p4_1)] [] h Q := by
        intro p32_0 q0_32_0
        refine w_iinc (ls' := [(2, x0), (0, p32_0), (0, (p4_1 + 1))]) gz_141_32 rfl gm_141 rfl rfl rfl ⟨by omega, by omega⟩ ?_
        refine w_goto (t := 4) gz_141_35 rfl ?_
        exact ih_4_0 (p32_0) ((p4_1 + 1)) (by omega) (by omega) (by omega)
      refine w_iload_n gz_141_4 rfl ?_
      refine w_aload_n gz_141_5 rfl ?_
      refine w_getX (v := (x0 + 1)) gz_141_6 t0 rd_6 rfl (by decide) rfl ?_
      refine v_alen (j := 240) gz_141_9 rfl (ix_6_1 t0) rd_30 (by decide) ?_
      refine w_icge (t := 38) gz_141_10 rfl (fun u2 => ?_) (fun u2 => ?_)
      ·
        refine w_iload_n gz_141_38 rfl ?_
        exact w_iret gz_141_39 gm_141 (k0 (p4_0))
      ·
        refine w_aload_n gz_141_13 rfl ?_
        refine w_getX (v := (x0 + 1)) gz_141_14 t0 rd_6 rfl (by decide) rfl ?_
        refine w_iload_n gz_141_17 rfl ?_
        refine w_iald gz_141_18 (ix_6_1 t0) rd_30 (by omega) (by omega) (fun v4 ev4 pv4 qv4 => ?_)
        refine w_iconst gz_141_19 (by decide) ?_
        refine w_iceq (t := 32) gz_141_20 rfl (fun u5 => ?_) (fun u5 => ?_)
        ·
          exact J32_0 (p4_0) (by omega)
        ·
          refine w_iload_n gz_141_23 rfl ?_
          refine w_aload_n gz_141_24 rfl ?_
          refine w_getX (v := (x0 + 1)) gz_141_25 t0 rd_6 rfl (by decide) rfl ?_
          refine w_iload_n gz_141_28 rfl ?_
          refine w_iald gz_141_29 (ix_6_1 t0) rd_30 (by omega) (by omega) (fun v7 ev7 pv7 qv7 => ?_)
          have zv7 := ev7.trans ev4.symm
          refine w_ianyA gz_141_30 (fun v8 pv8 qv8 => ?_)
          refine w_istore_n (ls' := [(2, x0), (0, v8), (0, p4_1)]) gz_141_31 gm_141 rfl rfl rfl ?_
          exact J32_0 (v8) (by omega)
  refine w_iconst gz_141_0 (by decide) ?_
  refine w_istore_n (ls' := [(2, x0), (0, 0), (9, 0)]) gz_141_1 gm_141 rfl rfl rfl ?_
  refine w_iconst gz_141_2 (by decide) ?_
  refine w_istore_n (ls' := [(2, x0), (0, 0), (0, 0)]) gz_141_3 gm_141 rfl rfl rfl ?_
  exact J4_0 241 (0) (0) (by omega) (by omega) (by omega)
theorem is_151 : my_is 10 151 := by unfold my_is; decide +kernel
theorem is_152 : my_is 51 152 := by unfold my_is; decide +kernel
theorem gz_144_0 : mz_pg 144 0 = some (.bipush 56, 0, 0, 0) := by decide +kernel
theorem gz_144_2 : mz_pg 144 2 = some (.istore_n 3, 0, 0, 0) := by decide +kernel
theorem gz_144_3 : mz_pg 144 3 = some (.iload_n 3, 0, 0, 0) := by decide +kernel
theorem gz_144_4 : mz_pg 144 4 = some (.ifCond .lt 71, 0, 0, 0) := by decide +kernel
theorem gz_144_7 : mz_pg 144 7 = some (.lload_n 1, 0, 0, 0) := by decide +kernel
theorem gz_144_8 : mz_pg 144 8 = some (.iload_n 3, 0, 0, 0) := by decide +kernel
theorem gz_144_9 : mz_pg 144 9 = some (.lshr, 0, 0, 0) := by decide +kernel
theorem gz_144_10 : mz_pg 144 10 = some (.l2i, 0, 0, 0) := by decide +kernel
theorem gz_144_11 : mz_pg 144 11 = some (.sipush 255, 0, 0, 0) := by decide +kernel
theorem gz_144_14 : mz_pg 144 14 = some (.iand, 0, 0, 0) := by decide +kernel
theorem gz_144_15 : mz_pg 144 15 = some (.istore 4, 0, 0, 0) := by decide +kernel
theorem gz_144_17 : mz_pg 144 17 = some (.iload 4, 0, 0, 0) := by decide +kernel
theorem gz_144_19 : mz_pg 144 19 = some (.bipush 10, 0, 0, 0) := by decide +kernel
theorem gz_144_21 : mz_pg 144 21 = some (.if_icmp .eq 17, 0, 0, 0) := by decide +kernel
theorem gz_144_24 : mz_pg 144 24 = some (.iload 4, 0, 0, 0) := by decide +kernel
theorem gz_144_26 : mz_pg 144 26 = some (.bipush 32, 0, 0, 0) := by decide +kernel
theorem gz_144_28 : mz_pg 144 28 = some (.if_icmp .lt 41, 0, 0, 0) := by decide +kernel
theorem gz_144_31 : mz_pg 144 31 = some (.iload 4, 0, 0, 0) := by decide +kernel
theorem gz_144_33 : mz_pg 144 33 = some (.bipush 126, 0, 0, 0) := by decide +kernel
theorem gz_144_35 : mz_pg 144 35 = some (.if_icmp .gt 34, 0, 0, 0) := by decide +kernel
theorem gz_144_38 : mz_pg 144 38 = some (.aload_n 0, 0, 0, 0) := by decide +kernel
theorem gz_144_39 : mz_pg 144 39 = some (.getfield 11, 10, 2, 1215) := by decide +kernel
theorem gz_144_42 : mz_pg 144 42 = some (.sipush 1000, 0, 0, 0) := by decide +kernel
theorem gz_144_45 : mz_pg 144 45 = some (.if_icmp .ge 24, 0, 0, 0) := by decide +kernel
theorem gz_144_48 : mz_pg 144 48 = some (.aload_n 0, 0, 0, 0) := by decide +kernel
theorem gz_144_49 : mz_pg 144 49 = some (.getfield 14, 10, 1, 1214) := by decide +kernel
theorem gz_144_52 : mz_pg 144 52 = some (.aload_n 0, 0, 0, 0) := by decide +kernel
theorem gz_144_53 : mz_pg 144 53 = some (.getfield 11, 10, 2, 1215) := by decide +kernel
theorem gz_144_56 : mz_pg 144 56 = some (.iload 4, 0, 0, 0) := by decide +kernel
theorem gz_144_58 : mz_pg 144 58 = some (.iastore, 0, 0, 0) := by decide +kernel
theorem gz_144_59 : mz_pg 144 59 = some (.aload_n 0, 0, 0, 0) := by decide +kernel
theorem gz_144_60 : mz_pg 144 60 = some (.dup, 0, 0, 0) := by decide +kernel
theorem gz_144_61 : mz_pg 144 61 = some (.getfield 11, 10, 2, 1215) := by decide +kernel
theorem gz_144_64 : mz_pg 144 64 = some (.iconst 1, 0, 0, 0) := by decide +kernel
theorem gz_144_65 : mz_pg 144 65 = some (.iadd, 0, 0, 0) := by decide +kernel
theorem gz_144_66 : mz_pg 144 66 = some (.putfield 11, 10, 2, 1215) := by decide +kernel
theorem gz_144_69 : mz_pg 144 69 = some (.iinc 3 (-8), 0, 0, 0) := by decide +kernel
theorem gz_144_72 : mz_pg 144 72 = some (.goto (-69), 0, 0, 0) := by decide +kernel
theorem gz_144_75 : mz_pg 144 75 = some (.return_, 0, 0, 0) := by decide +kernel
theorem gm_144 : my_mm 144 5 none 1 10 := by unfold my_mm; decide +kernel
theorem rd_10 : my_rd 10 = .inr (10, [(0, 0, 1), (2, 51, 1), (0, 0, 1000), (0, 0, 1000), (2, 52, 2), (2, 53, 3), (2, 54, 4), (0, 0, 1001), (0, 0, 16005), (2, 55, 5), (2, 56, 6), (2, 57, 7), (2, 58, 8), (2, 59, 9), (2, 60, 10), (2, 61, 11), (2, 62, 12), (2, 63, 13), (2, 64, 14), (2, 65, 15), (2, 66, 16), (2, 67, 17), (2, 68, 18), (2, 69, 19), (2, 70, 20), (2, 71, 21), (2, 72, 22), (0, 0, 8), (2, 73, 23), (2, 74, 24), (2, 75, 25), (2, 76, 26), (0, 0, 6), (0, 0, 2), (2, 77, 27), (2, 78, 28), (2, 79, 29), (0, 0, 10), (2, 80, 30), (2, 81, 31), (2, 82, 32), (2, 83, 33), (2, 84, 34), (2, 85, 35), (2, 86, 36), (2, 87, 37), (0, 0, 11), (2, 88, 38), (0, 0, 1800), (2, 89, 39), (2, 90, 40), (2, 91, 41), (2, 92, 42), (2, 93, 43), (2, 94, 44), (0, 0, 1), (2, 95, 45), (2, 96, 46), (2, 97, 47), (2, 98, 48), (2, 99, 49), (2, 100, 50), (0, -2147483648, 2147483647), (0, 0, 6), (0, -2147483648, 2147483647), (0, -2147483648, 2147483647), (2, 101, 51)]) := rfl
theorem rd_51 : my_rd 51 = .inl (0, 1000, [(0, 0, 126)]) := rfl
theorem c12_Model_lay {l : Launch} {rho : Nat → Int32} {d : Nat} {h : my_H} {Q : my_H → my_V → Prop} {x1 : Int} (k0 : ∀ (h' : my_H), my_fr [(10, 2), (51, -1)] h h' → Q h' (9, 0)) : wp l rho d 144 0 [(2, 151), (1, x1), (9, 0), (9, 0), (9, 0)] [] h Q := by
  have J3_0 : ∀ (n : Nat) (z3_l1 p3_0 : Int) (h3_0 : my_H), my_fr [(10, 2), (51, -1)] h h3_0 → (-8) ≤ p3_0 → p3_0 ≤ 56 → p3_0 - (-9) ≤ (n : Int) → wp l rho d 144 3 [(2, 151), (1, z3_l1), (9, 0), (0, p3_0), (9, 0)] [] h3_0 Q := by
    intro n
    induction n with
    | zero => intro z3_l1 p3_0 h3_0 gh_3_0 q0_3_0 q1_3_0 hm_3_0; exfalso; omega
    | succ n ih_3_0 =>
      intro z3_l1 p3_0 h3_0 gh_3_0 q0_3_0 q1_3_0 hm_3_0
      have J69_0 : ∀ (z69_l1 p69_0 : Int) (h69_0 : my_H), my_fr [(10, 2), (51, -1)] h h69_0 → 0 ≤ p3_0 → 0 ≤ p69_0 → p69_0 ≤ 255 → wp l rho d 144 69 [(2, 151), (1, z69_l1), (9, 0), (0, p3_0), (0, p69_0)] [] h69_0 Q := by
        intro z69_l1 p69_0 h69_0 gh_69_0 q0_69_0 q1_69_0 q2_69_0
        refine w_iinc (ls' := [(2, 151), (1, z69_l1), (9, 0), (0, (p3_0 + (-8))), (0, p69_0)]) gz_144_69 rfl gm_144 rfl rfl rfl ⟨by omega, by omega⟩ ?_
        refine w_goto (t := 3) gz_144_72 rfl ?_
        refine w_weak (ls' := [(2, 151), (1, z69_l1), (9, 0), (0, (p3_0 + (-8))), (9, 0)]) (wk_e (wk_e (wk_9 (wk_e (wk_9 wk_n))))) ?_
        exact ih_3_0 (z69_l1) ((p3_0 + (-8))) h69_0 (gh_69_0) (by omega) (by omega) (by omega)
      have J38_0 : ∀ (z38_l1 p38_0 : Int) (h38_0 : my_H), my_fr [(10, 2), (51, -1)] h h38_0 → 0 ≤ p3_0 → 10 ≤ p38_0 → p38_0 ≤ 126 → wp l rho d 144 38 [(2, 151), (1, z38_l1), (9, 0), (0, p3_0), (0, p38_0)] [] h38_0 Q := by
        intro z38_l1 p38_0 h38_0 gh_38_0 q0_38_0 q1_38_0 q2_38_0
        refine w_aload_n gz_144_38 rfl ?_
        refine v_getI (j := 2) gz_144_39 rfl is_151 rd_10 rfl (fun v1 ev1 pv1 qv1 => ?_)
        refine w_sipush gz_144_42 (by decide) ?_
        refine w_icge (t := 69) gz_144_45 rfl (fun u2 => ?_) (fun u2 => ?_)
        ·
          exact J69_0 (z38_l1) (p38_0) h38_0 (gh_38_0) (by omega) (by omega) (by omega)
        ·
          refine w_aload_n gz_144_48 rfl ?_
          refine w_getX (v := 152) gz_144_49 is_151 rd_10 rfl (by decide) rfl ?_
          refine w_aload_n gz_144_52 rfl ?_
          refine v_getI (j := 2) gz_144_53 rfl is_151 rd_10 rfl (fun v4 ev4 pv4 qv4 => ?_)
          have zv4 := ev4.trans ev1.symm
          refine w_iload gz_144_56 rfl ?_
          refine w_iast gz_144_58 is_152 rd_51 (by omega) (by omega) (by omega) (by omega) (fun h5 fh5 => ?_)
          have gh5 : my_fr [(10, 2), (51, -1)] h h5 := my_fr.up gh_38_0 is_152 fh5 rfl
          refine w_aload_n gz_144_59 rfl ?_
          refine w_dup gz_144_60 rfl ?_
          refine v_getI (j := 2) gz_144_61 rfl is_151 rd_10 rfl (fun v6 ev6 pv6 qv6 => ?_)
          have zv6 := ev6.trans ((my_up_role fh5 is_151 is_152 rfl).trans ev4.symm)
          refine w_iconst gz_144_64 (by decide) ?_
          refine w_iadd gz_144_65 ⟨by omega, by omega⟩ ?_
          refine v_putI (j := 2) gz_144_66 rfl is_151 rd_10 rfl (by omega) (by omega) rfl (fun h7 fh7 => ?_)
          have gh7 : my_fr [(10, 2), (51, -1)] h h7 := my_fr.up gh5 is_151 fh7 rfl
          exact J69_0 (z38_l1) (p38_0) h7 (gh7) (by omega) (by omega) (by omega)
      refine w_iload_n gz_144_3 rfl ?_
      refine w_iflt (t := 75) gz_144_4 rfl (fun u8 => ?_) (fun u8 => ?_)
      ·
        exact w_vret gz_144_75 gm_144 (k0 h3_0 (gh_3_0))
      ·
        refine w_lload_n gz_144_7 rfl ?_
        refine w_iload_n gz_144_8 rfl ?_
        refine w_jshf gz_144_9 (fun _ => rfl) rfl (fun v9 pv9 => ?_)
        refine w_l2i gz_144_10 (fun v10 pv10 qv10 => ?_)
        refine w_sipush gz_144_11 (by decide) ?_
        refine w_iandM gz_144_14 (by decide) (fun v11 pv11 qv11 => ?_)
        refine w_istore (ls' := [(2, 151), (1, z3_l1), (9, 0), (0, p3_0), (0, v11)]) gz_144_15 gm_144 rfl rfl rfl ?_
        refine w_iload gz_144_17 rfl ?_
        refine w_bipush gz_144_19 (by decide) ?_
        refine w_iceq (t := 38) gz_144_21 rfl (fun u12 => ?_) (fun u12 => ?_)
        ·
          exact J38_0 (z3_l1) (v11) h3_0 (gh_3_0) (by omega) (by omega) (by omega)
        ·
          refine w_iload gz_144_24 rfl ?_
          refine w_bipush gz_144_26 (by decide) ?_
          refine w_iclt (t := 69) gz_144_28 rfl (fun u13 => ?_) (fun u13 => ?_)
          ·
            exact J69_0 (z3_l1) (v11) h3_0 (gh_3_0) (by omega) (by omega) (by omega)
          ·
            refine w_iload gz_144_31 rfl ?_
            refine w_bipush gz_144_33 (by decide) ?_
            refine w_icgt (t := 69) gz_144_35 rfl (fun u14 => ?_) (fun u14 => ?_)
            ·
              exact J69_0 (z3_l1) (v11) h3_0 (gh_3_0) (by omega) (by omega) (by omega)
            ·
              exact J38_0 (z3_l1) (v11) h3_0 (gh_3_0) (by omega) (by omega) (by omega)
  refine w_bipush gz_144_0 (by decide) ?_
  refine w_istore_n (ls' := [(2, 151), (1, x1), (9, 0), (0, 56), (9, 0)]) gz_144_2 gm_144 rfl rfl rfl ?_
  exact J3_0 65 (x1) (56) h (my_fr.rf) (by omega) (by omega) (by omega)
theorem is_157 : my_is 56 157 := by unfold my_is; decide +kernel
theorem gz_146_0 : mz_pg 146 0 = some (.aload_n 0, 0, 0, 0) := by decide +kernel
theorem gz_146_1 : mz_pg 146 1 = some (.iconst 0, 0, 0, 0) := by decide +kernel
theorem gz_146_2 : mz_pg 146 2 = some (.putfield 1, 10, 0, 1213) := by decide +kernel
theorem gz_146_5 : mz_pg 146 5 = some (.iload_n 1, 0, 0, 0) := by decide +kernel
theorem gz_146_6 : mz_pg 146 6 = some (.iconst 0, 0, 0, 0) := by decide +kernel
theorem gz_146_7 : mz_pg 146 7 = some (.iconst 2, 0, 0, 0) := by decide +kernel
theorem gz_146_8 : mz_pg 146 8 = some (.invokestatic 250, 1, 147, 1419) := by decide +kernel
theorem gz_146_11 : mz_pg 146 11 = some (.ifCond .eq 21, 0, 0, 0) := by decide +kernel
theorem gz_146_14 : mz_pg 146 14 = some (.iload_n 2, 0, 0, 0) := by decide +kernel
theorem gz_146_15 : mz_pg 146 15 = some (.iconst 1, 0, 0, 0) := by decide +kernel
theorem gz_146_16 : mz_pg 146 16 = some (.iconst 4, 0, 0, 0) := by decide +kernel
theorem gz_146_17 : mz_pg 146 17 = some (.invokestatic 250, 1, 147, 1419) := by decide +kernel
theorem gz_146_20 : mz_pg 146 20 = some (.ifCond .eq 12, 0, 0, 0) := by decide +kernel
theorem gz_146_23 : mz_pg 146 23 = some (.aload_n 0, 0, 0, 0) := by decide +kernel
theorem gz_146_24 : mz_pg 146 24 = some (.getfield 61, 10, 10, 1223) := by decide +kernel
theorem gz_146_27 : mz_pg 146 27 = some (.iload_n 1, 0, 0, 0) := by decide +kernel
theorem gz_146_28 : mz_pg 146 28 = some (.iaload, 0, 0, 0) := by decide +kernel
theorem gz_146_29 : mz_pg 146 29 = some (.ifCond .le 5, 0, 0, 0) := by decide +kernel
theorem gz_146_32 : mz_pg 146 32 = some (.iconst 0, 0, 0, 0) := by decide +kernel
theorem gz_146_33 : mz_pg 146 33 = some (.ireturn, 0, 0, 0) := by decide +kernel
theorem gz_146_34 : mz_pg 146 34 = some (.aload_n 0, 0, 0, 0) := by decide +kernel
theorem gz_146_35 : mz_pg 146 35 = some (.getfield 61, 10, 10, 1223) := by decide +kernel
theorem gz_146_38 : mz_pg 146 38 = some (.iload_n 1, 0, 0, 0) := by decide +kernel
theorem gz_146_39 : mz_pg 146 39 = some (.iload_n 2, 0, 0, 0) := by decide +kernel
theorem gz_146_40 : mz_pg 146 40 = some (.iastore, 0, 0, 0) := by decide +kernel
theorem gz_146_41 : mz_pg 146 41 = some (.iconst 1, 0, 0, 0) := by decide +kernel
theorem gz_146_42 : mz_pg 146 42 = some (.ireturn, 0, 0, 0) := by decide +kernel
theorem gz_147_0 : mz_pg 147 0 = some (.iload_n 0, 0, 0, 0) := by decide +kernel
theorem gz_147_1 : mz_pg 147 1 = some (.iload_n 1, 0, 0, 0) := by decide +kernel
theorem gz_147_2 : mz_pg 147 2 = some (.if_icmp .lt 12, 0, 0, 0) := by decide +kernel
theorem gz_147_5 : mz_pg 147 5 = some (.iload_n 0, 0, 0, 0) := by decide +kernel
theorem gz_147_6 : mz_pg 147 6 = some (.iload_n 2, 0, 0, 0) := by decide +kernel
theorem gz_147_7 : mz_pg 147 7 = some (.if_icmp .gt 7, 0, 0, 0) := by decide +kernel
theorem gz_147_10 : mz_pg 147 10 = some (.iconst 1, 0, 0, 0) := by decide +kernel
theorem gz_147_11 : mz_pg 147 11 = some (.goto 4, 0, 0, 0) := by decide +kernel
theorem gz_147_14 : mz_pg 147 14 = some (.iconst 0, 0, 0, 0) := by decide +kernel
theorem gz_147_15 : mz_pg 147 15 = some (.ireturn, 0, 0, 0) := by decide +kernel
theorem gm_146 : my_mm 146 3 (some .boolean) 2 10 := by unfold my_mm; decide +kernel
theorem gm_147 : my_mm 147 3 (some .boolean) 3 10 := by unfold my_mm; decide +kernel
theorem rd_56 : my_rd 56 = .inl (0, 3, [(0, 0, 4)]) := rfl
theorem c13_Model_wall {l : Launch} {rho : Nat → Int32} {d : Nat} {h : my_H} {Q : my_H → my_V → Prop} {x1 x2 : Int} (k0 : ∀ (h' : my_H), my_fr [(10, 0), (56, -1)] h h' → h' 151 0 = 0 → Q h' (0, 0)) (k1 : ∀ (h' : my_H), my_fr [(10, 0), (56, -1)] h h' → 0 ≤ x1 → x1 ≤ 2 → 1 ≤ x2 → x2 ≤ 4 → h' 151 0 = 0 → Q h' (0, 1)) : wp l rho (d + 1) 146 0 [(2, 151), (0, x1), (0, x2)] [] h Q := by
  refine w_aload_n gz_146_0 rfl ?_
  refine w_iconst gz_146_1 (by decide) ?_
  refine v_putI (j := 0) gz_146_2 rfl is_151 rd_10 rfl (by omega) (by omega) rfl (fun h1 fh1 => ?_)
  have gh1 : my_fr [(10, 0), (56, -1)] h h1 := my_fr.up my_fr.rf is_151 fh1 rfl
  refine w_iload_n gz_146_5 rfl ?_
  refine w_iconst gz_146_6 (by decide) ?_
  refine w_iconst gz_146_7 (by decide) ?_
  refine w_inS (k := 0) (as := [(0, 2), (0, 0), (0, x1)]) (r := []) (ls0 := [(0, x1), (0, 0), (0, 2)]) gz_146_8 gm_147 rfl rfl rfl rfl rfl rfl ?_
  refine w_iload_n gz_147_0 rfl ?_
  refine w_iload_n gz_147_1 rfl ?_
  refine w_iclt (t := 14) gz_147_2 rfl (fun u2 => ?_) (fun u2 => ?_)
  ·
    refine w_iconst gz_147_14 (by decide) ?_
    refine w_bret gz_147_15 gm_147 (by omega) (by omega) ?_
    show wp l rho (d + 1) 146 11 [(2, 151), (0, x1), (0, x2)] [(0, 0)] h1 Q
    refine w_ifeq (t := 32) gz_146_11 rfl (fun u3 => ?_) (fun u3 => by exfalso; omega)
    refine w_iconst gz_146_32 (by decide) ?_
    have c4 := (my_up_self fh1)
    exact w_bret gz_146_33 gm_146 (by omega) (by omega) (k0 h1 (gh1) (by omega))
  ·
    refine w_iload_n gz_147_5 rfl ?_
    refine w_iload_n gz_147_6 rfl ?_
    refine w_icgt (t := 14) gz_147_7 rfl (fun u5 => ?_) (fun u5 => ?_)
    ·
      refine w_iconst gz_147_14 (by decide) ?_
      refine w_bret gz_147_15 gm_147 (by omega) (by omega) ?_
      show wp l rho (d + 1) 146 11 [(2, 151), (0, x1), (0, x2)] [(0, 0)] h1 Q
      refine w_ifeq (t := 32) gz_146_11 rfl (fun u6 => ?_) (fun u6 => by exfalso; omega)
      refine w_iconst gz_146_32 (by decide) ?_
      have c7 := (my_up_self fh1)
      exact w_bret gz_146_33 gm_146 (by omega) (by omega) (k0 h1 (gh1) (by omega))
    ·
      refine w_iconst gz_147_10 (by decide) ?_
      refine w_goto (t := 15) gz_147_11 rfl ?_
      refine w_bret gz_147_15 gm_147 (by omega) (by omega) ?_
      show wp l rho (d + 1) 146 11 [(2, 151), (0, x1), (0, x2)] [(0, 1)] h1 Q
      refine w_ifeq (t := 32) gz_146_11 rfl (fun u8 => by exfalso; omega) (fun u8 => ?_)
      refine w_iload_n gz_146_14 rfl ?_
      refine w_iconst gz_146_15 (by decide) ?_
      refine w_iconst gz_146_16 (by decide) ?_
      refine w_inS (k := 0) (as := [(0, 4), (0, 1), (0, x2)]) (r := []) (ls0 := [(0, x2), (0, 1), (0, 4)]) gz_146_17 gm_147 rfl rfl rfl rfl rfl rfl ?_
      refine w_iload_n gz_147_0 rfl ?_
      refine w_iload_n gz_147_1 rfl ?_
      refine w_iclt (t := 14) gz_147_2 rfl (fun u9 => ?_) (fun u9 => ?_)
      ·
        refine w_iconst gz_147_14 (by decide) ?_
        refine w_bret gz_147_15 gm_147 (by omega) (by omega) ?_
        show wp l rho (d + 1) 146 20 [(2, 151), (0, x1), (0, x2)] [(0, 0)] h1 Q
        refine w_ifeq (t := 32) gz_146_20 rfl (fun u10 => ?_) (fun u10 => by exfalso; omega)
        refine w_iconst gz_146_32 (by decide) ?_
        have c11 := (my_up_self fh1)
        exact w_bret gz_146_33 gm_146 (by omega) (by omega) (k0 h1 (gh1) (by omega))
      ·
        refine w_iload_n gz_147_5 rfl ?_
        refine w_iload_n gz_147_6 rfl ?_
        refine w_icgt (t := 14) gz_147_7 rfl (fun u12 => ?_) (fun u12 => ?_)
        ·
          refine w_iconst gz_147_14 (by decide) ?_
          refine w_bret gz_147_15 gm_147 (by omega) (by omega) ?_
          show wp l rho (d + 1) 146 20 [(2, 151), (0, x1), (0, x2)] [(0, 0)] h1 Q
          refine w_ifeq (t := 32) gz_146_20 rfl (fun u13 => ?_) (fun u13 => by exfalso; omega)
          refine w_iconst gz_146_32 (by decide) ?_
          have c14 := (my_up_self fh1)
          exact w_bret gz_146_33 gm_146 (by omega) (by omega) (k0 h1 (gh1) (by omega))
        ·
          refine w_iconst gz_147_10 (by decide) ?_
          refine w_goto (t := 15) gz_147_11 rfl ?_
          refine w_bret gz_147_15 gm_147 (by omega) (by omega) ?_
          show wp l rho (d + 1) 146 20 [(2, 151), (0, x1), (0, x2)] [(0, 1)] h1 Q
          refine w_ifeq (t := 32) gz_146_20 rfl (fun u15 => by exfalso; omega) (fun u15 => ?_)
          refine w_aload_n gz_146_23 rfl ?_
          refine w_getX (v := 157) gz_146_24 is_151 rd_10 rfl (by decide) rfl ?_
          refine w_iload_n gz_146_27 rfl ?_
          refine w_iald gz_146_28 is_157 rd_56 (by omega) (by omega) (fun v17 ev17 pv17 qv17 => ?_)
          refine w_ifle (t := 34) gz_146_29 rfl (fun u18 => ?_) (fun u18 => ?_)
          ·
            refine w_aload_n gz_146_34 rfl ?_
            refine w_getX (v := 157) gz_146_35 is_151 rd_10 rfl (by decide) rfl ?_
            refine w_iload_n gz_146_38 rfl ?_
            refine w_iload_n gz_146_39 rfl ?_
            refine w_iast gz_146_40 is_157 rd_56 (by omega) (by omega) (by omega) (by omega) (fun h20 fh20 => ?_)
            have gh20 : my_fr [(10, 0), (56, -1)] h h20 := my_fr.up gh1 is_157 fh20 rfl
            refine w_iconst gz_146_41 (by decide) ?_
            have c21 := ((my_up_role fh20 is_151 is_157 rfl).trans (my_up_self fh1))
            exact w_bret gz_146_42 gm_146 (by omega) (by omega) (k1 h20 (gh20) (by omega) (by omega) (by omega) (by omega) (by omega))
          ·
            refine w_iconst gz_146_32 (by decide) ?_
            have c22 := (my_up_self fh1)
            exact w_bret gz_146_33 gm_146 (by omega) (by omega) (k0 h1 (gh1) (by omega))
theorem is_162 : my_is 61 162 := by unfold my_is; decide +kernel
theorem gz_150_0 : mz_pg 150 0 = some (.bipush 60, 0, 0, 0) := by decide +kernel
theorem gz_150_2 : mz_pg 150 2 = some (.iload_n 0, 0, 0, 0) := by decide +kernel
theorem gz_150_3 : mz_pg 150 3 = some (.imul, 0, 0, 0) := by decide +kernel
theorem gz_150_4 : mz_pg 150 4 = some (.bipush 20, 0, 0, 0) := by decide +kernel
theorem gz_150_6 : mz_pg 150 6 = some (.iload_n 1, 0, 0, 0) := by decide +kernel
theorem gz_150_7 : mz_pg 150 7 = some (.imul, 0, 0, 0) := by decide +kernel
theorem gz_150_8 : mz_pg 150 8 = some (.iadd, 0, 0, 0) := by decide +kernel
theorem gz_150_9 : mz_pg 150 9 = some (.iload_n 2, 0, 0, 0) := by decide +kernel
theorem gz_150_10 : mz_pg 150 10 = some (.iadd, 0, 0, 0) := by decide +kernel
theorem gz_150_11 : mz_pg 150 11 = some (.ireturn, 0, 0, 0) := by decide +kernel
theorem gz_151_0 : mz_pg 151 0 = some (.iconst 0, 0, 0, 0) := by decide +kernel
theorem gz_151_1 : mz_pg 151 1 = some (.istore_n 3, 0, 0, 0) := by decide +kernel
theorem gz_151_2 : mz_pg 151 2 = some (.iconst 0, 0, 0, 0) := by decide +kernel
theorem gz_151_3 : mz_pg 151 3 = some (.istore 4, 0, 0, 0) := by decide +kernel
theorem gz_151_5 : mz_pg 151 5 = some (.iload 4, 0, 0, 0) := by decide +kernel
theorem gz_151_7 : mz_pg 151 7 = some (.bipush 20, 0, 0, 0) := by decide +kernel
theorem gz_151_9 : mz_pg 151 9 = some (.if_icmp .ge 32, 0, 0, 0) := by decide +kernel
theorem gz_151_12 : mz_pg 151 12 = some (.iload_n 3, 0, 0, 0) := by decide +kernel
theorem gz_151_13 : mz_pg 151 13 = some (.aload_n 0, 0, 0, 0) := by decide +kernel
theorem gz_151_14 : mz_pg 151 14 = some (.getfield 77, 10, 15, 1228) := by decide +kernel
theorem gz_151_17 : mz_pg 151 17 = some (.iload_n 1, 0, 0, 0) := by decide +kernel
theorem gz_151_18 : mz_pg 151 18 = some (.iload_n 2, 0, 0, 0) := by decide +kernel
theorem gz_151_19 : mz_pg 151 19 = some (.iload 4, 0, 0, 0) := by decide +kernel
theorem gz_151_21 : mz_pg 151 21 = some (.invokestatic 242, 1, 150, 1429) := by decide +kernel
theorem gz_151_24 : mz_pg 151 24 = some (.baload, 0, 0, 0) := by decide +kernel
theorem gz_151_25 : mz_pg 151 25 = some (.ifCond .eq 7, 0, 0, 0) := by decide +kernel
theorem gz_151_28 : mz_pg 151 28 = some (.iconst 1, 0, 0, 0) := by decide +kernel
theorem gz_151_29 : mz_pg 151 29 = some (.goto 4, 0, 0, 0) := by decide +kernel
theorem gz_151_32 : mz_pg 151 32 = some (.iconst 0, 0, 0, 0) := by decide +kernel
theorem gz_151_33 : mz_pg 151 33 = some (.iadd, 0, 0, 0) := by decide +kernel
theorem gz_151_34 : mz_pg 151 34 = some (.istore_n 3, 0, 0, 0) := by decide +kernel
theorem gz_151_35 : mz_pg 151 35 = some (.iinc 4 1, 0, 0, 0) := by decide +kernel
theorem gz_151_38 : mz_pg 151 38 = some (.goto (-33), 0, 0, 0) := by decide +kernel
theorem gz_151_41 : mz_pg 151 41 = some (.iload_n 3, 0, 0, 0) := by decide +kernel
theorem gz_151_42 : mz_pg 151 42 = some (.ireturn, 0, 0, 0) := by decide +kernel
theorem gm_150 : my_mm 150 3 (some .int) 3 10 := by unfold my_mm; decide +kernel
theorem gm_151 : my_mm 151 5 (some .int) 2 10 := by unfold my_mm; decide +kernel
theorem rd_61 : my_rd 61 = .inl (1, 960, [(0, 0, 1)]) := rfl
theorem c14_Model_rowsOf {l : Launch} {rho : Nat → Int32} {d : Nat} {h : my_H} {Q : my_H → my_V → Prop} {x1 x2 : Int} (a1 : 0 ≤ x1) (b1 : x1 ≤ 15) (a2 : 0 ≤ x2) (b2 : x2 ≤ 2) (k0 : ∀ (y : Int), 0 ≤ y → y ≤ 20 → Q h (0, y)) : wp l rho (d + 1) 151 0 [(2, 151), (0, x1), (0, x2), (9, 0), (9, 0)] [] h Q := by
  have J5_0 : ∀ (n : Nat) (p5_0 p5_1 : Int), 0 ≤ p5_0 → p5_0 ≤ 20 → 0 ≤ p5_1 → p5_1 ≤ 20 → p5_0 ≤ p5_1 → 21 - p5_1 ≤ (n : Int) → wp l rho (d + 1) 151 5 [(2, 151), (0, x1), (0, x2), (0, p5_0), (0, p5_1)] [] h Q := by
    intro n
    induction n with
    | zero => intro p5_0 p5_1 q0_5_0 q1_5_0 q2_5_0 q3_5_0 q4_5_0 hm_5_0; exfalso; omega
    | succ n ih_5_0 =>
      intro p5_0 p5_1 q0_5_0 q1_5_0 q2_5_0 q3_5_0 q4_5_0 hm_5_0
      refine w_iload gz_151_5 rfl ?_
      refine w_bipush gz_151_7 (by decide) ?_
      refine w_icge (t := 41) gz_151_9 rfl (fun u1 => ?_) (fun u1 => ?_)
      ·
        refine w_iload_n gz_151_41 rfl ?_
        exact w_iret gz_151_42 gm_151 (k0 (p5_0) (by omega) (by omega))
      ·
        refine w_iload_n gz_151_12 rfl ?_
        refine w_aload_n gz_151_13 rfl ?_
        refine w_getX (v := 162) gz_151_14 is_151 rd_10 rfl (by decide) rfl ?_
        refine w_iload_n gz_151_17 rfl ?_
        refine w_iload_n gz_151_18 rfl ?_
        refine w_iload gz_151_19 rfl ?_
        refine w_inS (k := 0) (as := [(0, p5_1), (0, x2), (0, x1)]) (r := [(2, 162), (0, p5_0)]) (ls0 := [(0, x1), (0, x2), (0, p5_1)]) gz_151_21 gm_150 rfl rfl rfl rfl rfl rfl ?_
        refine w_bipush gz_150_0 (by decide) ?_
        refine w_iload_n gz_150_2 rfl ?_
        refine w_imul gz_150_3 ⟨by omega, by omega⟩ ?_
        refine w_bipush gz_150_4 (by decide) ?_
        refine w_iload_n gz_150_6 rfl ?_
        refine w_imul gz_150_7 ⟨by omega, by omega⟩ ?_
        refine w_iadd gz_150_8 ⟨by omega, by omega⟩ ?_
        refine w_iload_n gz_150_9 rfl ?_
        refine w_iadd gz_150_10 ⟨by omega, by omega⟩ ?_
        refine w_iret gz_150_11 gm_150 ?_
        show wp l rho (d + 1) 151 24 [(2, 151), (0, x1), (0, x2), (0, p5_0), (0, p5_1)] [(0, (((60 * x1) + (20 * x2)) + p5_1)), (2, 162), (0, p5_0)] h Q
        refine w_bald gz_151_24 is_162 rd_61 (by omega) (by omega) (fun v3 ev3 pv3 qv3 => ?_)
        refine w_ifeq (t := 32) gz_151_25 rfl (fun u4 => ?_) (fun u4 => ?_)
        ·
          refine w_iconst gz_151_32 (by decide) ?_
          refine w_iadd gz_151_33 ⟨by omega, by omega⟩ ?_
          refine w_istore_n (ls' := [(2, 151), (0, x1), (0, x2), (0, (p5_0 + 0)), (0, p5_1)]) gz_151_34 gm_151 rfl rfl rfl ?_
          refine w_iinc (ls' := [(2, 151), (0, x1), (0, x2), (0, (p5_0 + 0)), (0, (p5_1 + 1))]) gz_151_35 rfl gm_151 rfl rfl rfl ⟨by omega, by omega⟩ ?_
          refine w_goto (t := 5) gz_151_38 rfl ?_
          exact ih_5_0 ((p5_0 + 0)) ((p5_1 + 1)) (by omega) (by omega) (by omega) (by omega) (by omega) (by omega)
        ·
          refine w_iconst gz_151_28 (by decide) ?_
          refine w_goto (t := 33) gz_151_29 rfl ?_
          refine w_iadd gz_151_33 ⟨by omega, by omega⟩ ?_
          refine w_istore_n (ls' := [(2, 151), (0, x1), (0, x2), (0, (p5_0 + 1)), (0, p5_1)]) gz_151_34 gm_151 rfl rfl rfl ?_
          refine w_iinc (ls' := [(2, 151), (0, x1), (0, x2), (0, (p5_0 + 1)), (0, (p5_1 + 1))]) gz_151_35 rfl gm_151 rfl rfl rfl ⟨by omega, by omega⟩ ?_
          refine w_goto (t := 5) gz_151_38 rfl ?_
          exact ih_5_0 ((p5_0 + 1)) ((p5_1 + 1)) (by omega) (by omega) (by omega) (by omega) (by omega) (by omega)
  refine w_iconst gz_151_0 (by decide) ?_
  refine w_istore_n (ls' := [(2, 151), (0, x1), (0, x2), (0, 0), (9, 0)]) gz_151_1 gm_151 rfl rfl rfl ?_
  refine w_iconst gz_151_2 (by decide) ?_
  refine w_istore (ls' := [(2, 151), (0, x1), (0, x2), (0, 0), (0, 0)]) gz_151_3 gm_151 rfl rfl rfl ?_
  exact J5_0 21 (0) (0) (by omega) (by omega) (by omega) (by omega) (by omega) (by omega)
theorem is_163 : my_is 62 163 := by unfold my_is; decide +kernel
theorem gz_152_0 : mz_pg 152 0 = some (.iconst 0, 0, 0, 0) := by decide +kernel
theorem gz_152_1 : mz_pg 152 1 = some (.istore_n 3, 0, 0, 0) := by decide +kernel
theorem gz_152_2 : mz_pg 152 2 = some (.iload_n 3, 0, 0, 0) := by decide +kernel
theorem gz_152_3 : mz_pg 152 3 = some (.bipush 60, 0, 0, 0) := by decide +kernel
theorem gz_152_5 : mz_pg 152 5 = some (.if_icmp .ge 31, 0, 0, 0) := by decide +kernel
theorem gz_152_8 : mz_pg 152 8 = some (.aload_n 0, 0, 0, 0) := by decide +kernel
theorem gz_152_9 : mz_pg 152 9 = some (.getfield 77, 10, 15, 1228) := by decide +kernel
theorem gz_152_12 : mz_pg 152 12 = some (.bipush 60, 0, 0, 0) := by decide +kernel
theorem gz_152_14 : mz_pg 152 14 = some (.iload_n 2, 0, 0, 0) := by decide +kernel
theorem gz_152_15 : mz_pg 152 15 = some (.imul, 0, 0, 0) := by decide +kernel
theorem gz_152_16 : mz_pg 152 16 = some (.iload_n 3, 0, 0, 0) := by decide +kernel
theorem gz_152_17 : mz_pg 152 17 = some (.iadd, 0, 0, 0) := by decide +kernel
theorem gz_152_18 : mz_pg 152 18 = some (.aload_n 0, 0, 0, 0) := by decide +kernel
theorem gz_152_19 : mz_pg 152 19 = some (.getfield 77, 10, 15, 1228) := by decide +kernel
theorem gz_152_22 : mz_pg 152 22 = some (.bipush 60, 0, 0, 0) := by decide +kernel
theorem gz_152_24 : mz_pg 152 24 = some (.iload_n 1, 0, 0, 0) := by decide +kernel
theorem gz_152_25 : mz_pg 152 25 = some (.imul, 0, 0, 0) := by decide +kernel
theorem gz_152_26 : mz_pg 152 26 = some (.iload_n 3, 0, 0, 0) := by decide +kernel
theorem gz_152_27 : mz_pg 152 27 = some (.iadd, 0, 0, 0) := by decide +kernel
theorem gz_152_28 : mz_pg 152 28 = some (.baload, 0, 0, 0) := by decide +kernel
theorem gz_152_29 : mz_pg 152 29 = some (.bastore, 0, 0, 0) := by decide +kernel
theorem gz_152_30 : mz_pg 152 30 = some (.iinc 3 1, 0, 0, 0) := by decide +kernel
theorem gz_152_33 : mz_pg 152 33 = some (.goto (-31), 0, 0, 0) := by decide +kernel
theorem gz_152_36 : mz_pg 152 36 = some (.iconst 0, 0, 0, 0) := by decide +kernel
theorem gz_152_37 : mz_pg 152 37 = some (.istore_n 3, 0, 0, 0) := by decide +kernel
theorem gz_152_38 : mz_pg 152 38 = some (.iload_n 3, 0, 0, 0) := by decide +kernel
theorem gz_152_39 : mz_pg 152 39 = some (.sipush 240, 0, 0, 0) := by decide +kernel
theorem gz_152_42 : mz_pg 152 42 = some (.if_icmp .ge 33, 0, 0, 0) := by decide +kernel
theorem gz_152_45 : mz_pg 152 45 = some (.aload_n 0, 0, 0, 0) := by decide +kernel
theorem gz_152_46 : mz_pg 152 46 = some (.getfield 80, 10, 16, 1229) := by decide +kernel
theorem gz_152_49 : mz_pg 152 49 = some (.sipush 240, 0, 0, 0) := by decide +kernel
theorem gz_152_52 : mz_pg 152 52 = some (.iload_n 2, 0, 0, 0) := by decide +kernel
theorem gz_152_53 : mz_pg 152 53 = some (.imul, 0, 0, 0) := by decide +kernel
theorem gz_152_54 : mz_pg 152 54 = some (.iload_n 3, 0, 0, 0) := by decide +kernel
theorem gz_152_55 : mz_pg 152 55 = some (.iadd, 0, 0, 0) := by decide +kernel
theorem gz_152_56 : mz_pg 152 56 = some (.aload_n 0, 0, 0, 0) := by decide +kernel
theorem gz_152_57 : mz_pg 152 57 = some (.getfield 80, 10, 16, 1229) := by decide +kernel
theorem gz_152_60 : mz_pg 152 60 = some (.sipush 240, 0, 0, 0) := by decide +kernel
theorem gz_152_63 : mz_pg 152 63 = some (.iload_n 1, 0, 0, 0) := by decide +kernel
theorem gz_152_64 : mz_pg 152 64 = some (.imul, 0, 0, 0) := by decide +kernel
theorem gz_152_65 : mz_pg 152 65 = some (.iload_n 3, 0, 0, 0) := by decide +kernel
theorem gz_152_66 : mz_pg 152 66 = some (.iadd, 0, 0, 0) := by decide +kernel
theorem gz_152_67 : mz_pg 152 67 = some (.iaload, 0, 0, 0) := by decide +kernel
theorem gz_152_68 : mz_pg 152 68 = some (.iastore, 0, 0, 0) := by decide +kernel
theorem gz_152_69 : mz_pg 152 69 = some (.iinc 3 1, 0, 0, 0) := by decide +kernel
theorem gz_152_72 : mz_pg 152 72 = some (.goto (-34), 0, 0, 0) := by decide +kernel
theorem gz_152_75 : mz_pg 152 75 = some (.return_, 0, 0, 0) := by decide +kernel
theorem gm_152 : my_mm 152 4 none 2 10 := by unfold my_mm; decide +kernel
theorem rd_62 : my_rd 62 = .inl (0, 3840, [(0, 0, 19)]) := rfl
theorem c15_Model_copies {l : Launch} {rho : Nat → Int32} {d : Nat} {h : my_H} {Q : my_H → my_V → Prop} {x1 x2 : Int} (a1 : 0 ≤ x1) (b1 : x1 ≤ 15) (a2 : 0 ≤ x2) (b2 : x2 ≤ 15) (k0 : ∀ (h' : my_H), my_fr [(61, -1), (62, -1)] h h' → Q h' (9, 0)) : wp l rho d 152 0 [(2, 151), (0, x1), (0, x2), (9, 0)] [] h Q := by
  have J38_0 : ∀ (n : Nat) (p38_0 : Int) (h38_0 : my_H), my_fr [(61, -1), (62, -1)] h h38_0 → 0 ≤ p38_0 → p38_0 ≤ 240 → 241 - p38_0 ≤ (n : Int) → wp l rho d 152 38 [(2, 151), (0, x1), (0, x2), (0, p38_0)] [] h38_0 Q := by
    intro n
    induction n with
    | zero => intro p38_0 h38_0 gh_38_0 q0_38_0 q1_38_0 hm_38_0; exfalso; omega
    | succ n ih_38_0 =>
      intro p38_0 h38_0 gh_38_0 q0_38_0 q1_38_0 hm_38_0
      refine w_iload_n gz_152_38 rfl ?_
      refine w_sipush gz_152_39 (by decide) ?_
      refine w_icge (t := 75) gz_152_42 rfl (fun u1 => ?_) (fun u1 => ?_)
      ·
        exact w_vret gz_152_75 gm_152 (k0 h38_0 (gh_38_0))
      ·
        refine w_aload_n gz_152_45 rfl ?_
        refine w_getX (v := 163) gz_152_46 is_151 rd_10 rfl (by decide) rfl ?_
        refine w_sipush gz_152_49 (by decide) ?_
        refine w_iload_n gz_152_52 rfl ?_
        refine w_imul gz_152_53 ⟨by omega, by omega⟩ ?_
        refine w_iload_n gz_152_54 rfl ?_
        refine w_iadd gz_152_55 ⟨by omega, by omega⟩ ?_
        refine w_aload_n gz_152_56 rfl ?_
        refine w_getX (v := 163) gz_152_57 is_151 rd_10 rfl (by decide) rfl ?_
        refine w_sipush gz_152_60 (by decide) ?_
        refine w_iload_n gz_152_63 rfl ?_
        refine w_imul gz_152_64 ⟨by omega, by omega⟩ ?_
        refine w_iload_n gz_152_65 rfl ?_
        refine w_iadd gz_152_66 ⟨by omega, by omega⟩ ?_
        refine w_iald gz_152_67 is_163 rd_62 (by omega) (by omega) (fun v4 ev4 pv4 qv4 => ?_)
        refine w_iast gz_152_68 is_163 rd_62 (by omega) (by omega) (by omega) (by omega) (fun h5 fh5 => ?_)
        have gh5 : my_fr [(61, -1), (62, -1)] h h5 := my_fr.up gh_38_0 is_163 fh5 rfl
        refine w_iinc (ls' := [(2, 151), (0, x1), (0, x2), (0, (p38_0 + 1))]) gz_152_69 rfl gm_152 rfl rfl rfl ⟨by omega, by omega⟩ ?_
        refine w_goto (t := 38) gz_152_72 rfl ?_
        exact ih_38_0 ((p38_0 + 1)) h5 (gh5) (by omega) (by omega) (by omega)
  have J2_0 : ∀ (n : Nat) (p2_0 : Int) (h2_0 : my_H), my_fr [(61, -1), (62, -1)] h h2_0 → 0 ≤ p2_0 → p2_0 ≤ 60 → 61 - p2_0 ≤ (n : Int) → wp l rho d 152 2 [(2, 151), (0, x1), (0, x2), (0, p2_0)] [] h2_0 Q := by
    intro n
    induction n with
    | zero => intro p2_0 h2_0 gh_2_0 q0_2_0 q1_2_0 hm_2_0; exfalso; omega
    | succ n ih_2_0 =>
      intro p2_0 h2_0 gh_2_0 q0_2_0 q1_2_0 hm_2_0
      refine w_iload_n gz_152_2 rfl ?_
      refine w_bipush gz_152_3 (by decide) ?_
      refine w_icge (t := 36) gz_152_5 rfl (fun u6 => ?_) (fun u6 => ?_)
      ·
        refine w_iconst gz_152_36 (by decide) ?_
        refine w_istore_n (ls' := [(2, 151), (0, x1), (0, x2), (0, 0)]) gz_152_37 gm_152 rfl rfl rfl ?_
        exact J38_0 241 (0) h2_0 (gh_2_0) (by omega) (by omega) (by omega)
      ·
        refine w_aload_n gz_152_8 rfl ?_
        refine w_getX (v := 162) gz_152_9 is_151 rd_10 rfl (by decide) rfl ?_
        refine w_bipush gz_152_12 (by decide) ?_
        refine w_iload_n gz_152_14 rfl ?_
        refine w_imul gz_152_15 ⟨by omega, by omega⟩ ?_
        refine w_iload_n gz_152_16 rfl ?_
        refine w_iadd gz_152_17 ⟨by omega, by omega⟩ ?_
        refine w_aload_n gz_152_18 rfl ?_
        refine w_getX (v := 162) gz_152_19 is_151 rd_10 rfl (by decide) rfl ?_
        refine w_bipush gz_152_22 (by decide) ?_
        refine w_iload_n gz_152_24 rfl ?_
        refine w_imul gz_152_25 ⟨by omega, by omega⟩ ?_
        refine w_iload_n gz_152_26 rfl ?_
        refine w_iadd gz_152_27 ⟨by omega, by omega⟩ ?_
        refine w_bald gz_152_28 is_162 rd_61 (by omega) (by omega) (fun v9 ev9 pv9 qv9 => ?_)
        refine w_bast gz_152_29 is_162 rd_61 (by omega) (by omega) (by omega) (by omega) (fun h10 fh10 => ?_)
        have gh10 : my_fr [(61, -1), (62, -1)] h h10 := my_fr.up gh_2_0 is_162 fh10 rfl
        refine w_iinc (ls' := [(2, 151), (0, x1), (0, x2), (0, (p2_0 + 1))]) gz_152_30 rfl gm_152 rfl rfl rfl ⟨by omega, by omega⟩ ?_
        refine w_goto (t := 2) gz_152_33 rfl ?_
        exact ih_2_0 ((p2_0 + 1)) h10 (gh10) (by omega) (by omega) (by omega)
  refine w_iconst gz_152_0 (by decide) ?_
  refine w_istore_n (ls' := [(2, 151), (0, x1), (0, x2), (0, 0)]) gz_152_1 gm_152 rfl rfl rfl ?_
  exact J2_0 61 (0) h (my_fr.rf) (by omega) (by omega) (by omega)
theorem gz_153_0 : mz_pg 153 0 = some (.iload_n 1, 0, 0, 0) := by decide +kernel
theorem gz_153_1 : mz_pg 153 1 = some (.iload_n 2, 0, 0, 0) := by decide +kernel
theorem gz_153_2 : mz_pg 153 2 = some (.iload_n 3, 0, 0, 0) := by decide +kernel
theorem gz_153_3 : mz_pg 153 3 = some (.invokestatic 242, 1, 150, 1429) := by decide +kernel
theorem gz_153_6 : mz_pg 153 6 = some (.istore 7, 0, 0, 0) := by decide +kernel
theorem gz_153_8 : mz_pg 153 8 = some (.aload_n 0, 0, 0, 0) := by decide +kernel
theorem gz_153_9 : mz_pg 153 9 = some (.getfield 77, 10, 15, 1228) := by decide +kernel
theorem gz_153_12 : mz_pg 153 12 = some (.iload 7, 0, 0, 0) := by decide +kernel
theorem gz_153_14 : mz_pg 153 14 = some (.iconst 1, 0, 0, 0) := by decide +kernel
theorem gz_153_15 : mz_pg 153 15 = some (.bastore, 0, 0, 0) := by decide +kernel
theorem gz_153_16 : mz_pg 153 16 = some (.aload_n 0, 0, 0, 0) := by decide +kernel
theorem gz_153_17 : mz_pg 153 17 = some (.getfield 80, 10, 16, 1229) := by decide +kernel
theorem gz_153_20 : mz_pg 153 20 = some (.iconst 4, 0, 0, 0) := by decide +kernel
theorem gz_153_21 : mz_pg 153 21 = some (.iload 7, 0, 0, 0) := by decide +kernel
theorem gz_153_23 : mz_pg 153 23 = some (.imul, 0, 0, 0) := by decide +kernel
theorem gz_153_24 : mz_pg 153 24 = some (.iload_n 3, 0, 0, 0) := by decide +kernel
theorem gz_153_25 : mz_pg 153 25 = some (.iastore, 0, 0, 0) := by decide +kernel
theorem gz_153_26 : mz_pg 153 26 = some (.aload_n 0, 0, 0, 0) := by decide +kernel
theorem gz_153_27 : mz_pg 153 27 = some (.getfield 80, 10, 16, 1229) := by decide +kernel
theorem gz_153_30 : mz_pg 153 30 = some (.iconst 4, 0, 0, 0) := by decide +kernel
theorem gz_153_31 : mz_pg 153 31 = some (.iload 7, 0, 0, 0) := by decide +kernel
theorem gz_153_33 : mz_pg 153 33 = some (.imul, 0, 0, 0) := by decide +kernel
theorem gz_153_34 : mz_pg 153 34 = some (.iconst 1, 0, 0, 0) := by decide +kernel
theorem gz_153_35 : mz_pg 153 35 = some (.iadd, 0, 0, 0) := by decide +kernel
theorem gz_153_36 : mz_pg 153 36 = some (.iload 4, 0, 0, 0) := by decide +kernel
theorem gz_153_38 : mz_pg 153 38 = some (.iastore, 0, 0, 0) := by decide +kernel
theorem gz_153_39 : mz_pg 153 39 = some (.aload_n 0, 0, 0, 0) := by decide +kernel
theorem gz_153_40 : mz_pg 153 40 = some (.getfield 80, 10, 16, 1229) := by decide +kernel
theorem gz_153_43 : mz_pg 153 43 = some (.iconst 4, 0, 0, 0) := by decide +kernel
theorem gz_153_44 : mz_pg 153 44 = some (.iload 7, 0, 0, 0) := by decide +kernel
theorem gz_153_46 : mz_pg 153 46 = some (.imul, 0, 0, 0) := by decide +kernel
theorem gz_153_47 : mz_pg 153 47 = some (.iconst 2, 0, 0, 0) := by decide +kernel
theorem gz_153_48 : mz_pg 153 48 = some (.iadd, 0, 0, 0) := by decide +kernel
theorem gz_153_49 : mz_pg 153 49 = some (.iload 5, 0, 0, 0) := by decide +kernel
theorem gz_153_51 : mz_pg 153 51 = some (.iastore, 0, 0, 0) := by decide +kernel
theorem gz_153_52 : mz_pg 153 52 = some (.aload_n 0, 0, 0, 0) := by decide +kernel
theorem gz_153_53 : mz_pg 153 53 = some (.getfield 80, 10, 16, 1229) := by decide +kernel
theorem gz_153_56 : mz_pg 153 56 = some (.iconst 4, 0, 0, 0) := by decide +kernel
theorem gz_153_57 : mz_pg 153 57 = some (.iload 7, 0, 0, 0) := by decide +kernel
theorem gz_153_59 : mz_pg 153 59 = some (.imul, 0, 0, 0) := by decide +kernel
theorem gz_153_60 : mz_pg 153 60 = some (.iconst 3, 0, 0, 0) := by decide +kernel
theorem gz_153_61 : mz_pg 153 61 = some (.iadd, 0, 0, 0) := by decide +kernel
theorem gz_153_62 : mz_pg 153 62 = some (.iload 6, 0, 0, 0) := by decide +kernel
theorem gz_153_64 : mz_pg 153 64 = some (.iastore, 0, 0, 0) := by decide +kernel
theorem gz_153_65 : mz_pg 153 65 = some (.return_, 0, 0, 0) := by decide +kernel
theorem gm_153 : my_mm 153 8 none 6 10 := by unfold my_mm; decide +kernel
theorem c16_Model_lays {l : Launch} {rho : Nat → Int32} {d : Nat} {h : my_H} {Q : my_H → my_V → Prop} {x1 x2 x3 x4 x5 x6 : Int} (a1 : 0 ≤ x1) (b1 : x1 ≤ 15) (a2 : 0 ≤ x2) (b2 : x2 ≤ 2) (a3 : 0 ≤ x3) (b3 : x3 ≤ 19) (a4 : 0 ≤ x4) (b4 : x4 ≤ 19) (a5 : 0 ≤ x5) (b5 : x5 ≤ 19) (a6 : 0 ≤ x6) (b6 : x6 ≤ 19) (k0 : ∀ (h' : my_H), my_fr [(61, -1), (62, -1)] h h' → Q h' (9, 0)) : wp l rho (d + 1) 153 0 [(2, 151), (0, x1), (0, x2), (0, x3), (0, x4), (0, x5), (0, x6), (9, 0)] [] h Q := by
  refine w_iload_n gz_153_0 rfl ?_
  refine w_iload_n gz_153_1 rfl ?_
  refine w_iload_n gz_153_2 rfl ?_
  refine w_inS (k := 0) (as := [(0, x3), (0, x2), (0, x1)]) (r := []) (ls0 := [(0, x1), (0, x2), (0, x3)]) gz_153_3 gm_150 rfl rfl rfl rfl rfl rfl ?_
  refine w_bipush gz_150_0 (by decide) ?_
  refine w_iload_n gz_150_2 rfl ?_
  refine w_imul gz_150_3 ⟨by omega, by omega⟩ ?_
  refine w_bipush gz_150_4 (by decide) ?_
  refine w_iload_n gz_150_6 rfl ?_
  refine w_imul gz_150_7 ⟨by omega, by omega⟩ ?_
  refine w_iadd gz_150_8 ⟨by omega, by omega⟩ ?_
  refine w_iload_n gz_150_9 rfl ?_
  refine w_iadd gz_150_10 ⟨by omega, by omega⟩ ?_
  refine w_iret gz_150_11 gm_150 ?_
  show wp l rho (d + 1) 153 6 [(2, 151), (0, x1), (0, x2), (0, x3), (0, x4), (0, x5), (0, x6), (9, 0)] [(0, (((60 * x1) + (20 * x2)) + x3))] h Q
  refine w_istore (ls' := [(2, 151), (0, x1), (0, x2), (0, x3), (0, x4), (0, x5), (0, x6), (0, (((60 * x1) + (20 * x2)) + x3))]) gz_153_6 gm_153 rfl rfl rfl ?_
  refine w_aload_n gz_153_8 rfl ?_
  refine w_getX (v := 162) gz_153_9 is_151 rd_10 rfl (by decide) rfl ?_
  refine w_iload gz_153_12 rfl ?_
  refine w_iconst gz_153_14 (by decide) ?_
  refine w_bast gz_153_15 is_162 rd_61 (by omega) (by omega) (by omega) (by omega) (fun h2 fh2 => ?_)
  have gh2 : my_fr [(61, -1), (62, -1)] h h2 := my_fr.up my_fr.rf is_162 fh2 rfl
  refine w_aload_n gz_153_16 rfl ?_
  refine w_getX (v := 163) gz_153_17 is_151 rd_10 rfl (by decide) rfl ?_
  refine w_iconst gz_153_20 (by decide) ?_
  refine w_iload gz_153_21 rfl ?_
  refine w_imul gz_153_23 ⟨by omega, by omega⟩ ?_
  refine w_iload_n gz_153_24 rfl ?_
  refine w_iast gz_153_25 is_163 rd_62 (by omega) (by omega) (by omega) (by omega) (fun h4 fh4 => ?_)
  have gh4 : my_fr [(61, -1), (62, -1)] h h4 := my_fr.up gh2 is_163 fh4 rfl
  refine w_aload_n gz_153_26 rfl ?_
  refine w_getX (v := 163) gz_153_27 is_151 rd_10 rfl (by decide) rfl ?_
  refine w_iconst gz_153_30 (by decide) ?_
  refine w_iload gz_153_31 rfl ?_
  refine w_imul gz_153_33 ⟨by omega, by omega⟩ ?_
  refine w_iconst gz_153_34 (by decide) ?_
  refine w_iadd gz_153_35 ⟨by omega, by omega⟩ ?_
  refine w_iload gz_153_36 rfl ?_
  refine w_iast gz_153_38 is_163 rd_62 (by omega) (by omega) (by omega) (by omega) (fun h6 fh6 => ?_)
  have gh6 : my_fr [(61, -1), (62, -1)] h h6 := my_fr.up gh4 is_163 fh6 rfl
  refine w_aload_n gz_153_39 rfl ?_
  refine w_getX (v := 163) gz_153_40 is_151 rd_10 rfl (by decide) rfl ?_
  refine w_iconst gz_153_43 (by decide) ?_
  refine w_iload gz_153_44 rfl ?_
  refine w_imul gz_153_46 ⟨by omega, by omega⟩ ?_
  refine w_iconst gz_153_47 (by decide) ?_
  refine w_iadd gz_153_48 ⟨by omega, by omega⟩ ?_
  refine w_iload gz_153_49 rfl ?_
  refine w_iast gz_153_51 is_163 rd_62 (by omega) (by omega) (by omega) (by omega) (fun h8 fh8 => ?_)
  have gh8 : my_fr [(61, -1), (62, -1)] h h8 := my_fr.up gh6 is_163 fh8 rfl
  refine w_aload_n gz_153_52 rfl ?_
  refine w_getX (v := 163) gz_153_53 is_151 rd_10 rfl (by decide) rfl ?_
  refine w_iconst gz_153_56 (by decide) ?_
  refine w_iload gz_153_57 rfl ?_
  refine w_imul gz_153_59 ⟨by omega, by omega⟩ ?_
  refine w_iconst gz_153_60 (by decide) ?_
  refine w_iadd gz_153_61 ⟨by omega, by omega⟩ ?_
  refine w_iload gz_153_62 rfl ?_
  refine w_iast gz_153_64 is_163 rd_62 (by omega) (by omega) (by omega) (by omega) (fun h10 fh10 => ?_)
  have gh10 : my_fr [(61, -1), (62, -1)] h h10 := my_fr.up gh8 is_163 fh10 rfl
  exact w_vret gz_153_65 gm_153 (k0 h10 (gh10))
theorem is_158 : my_is 57 158 := by unfold my_is; decide +kernel
theorem is_159 : my_is 58 159 := by unfold my_is; decide +kernel
theorem is_160 : my_is 59 160 := by unfold my_is; decide +kernel
theorem is_161 : my_is 60 161 := by unfold my_is; decide +kernel
theorem gz_156_0 : mz_pg 156 0 = some (.iconst 0, 0, 0, 0) := by decide +kernel
theorem gz_156_1 : mz_pg 156 1 = some (.istore 4, 0, 0, 0) := by decide +kernel
theorem gz_156_3 : mz_pg 156 3 = some (.iload 4, 0, 0, 0) := by decide +kernel
theorem gz_156_5 : mz_pg 156 5 = some (.aload_n 0, 0, 0, 0) := by decide +kernel
theorem gz_156_6 : mz_pg 156 6 = some (.getfield 61, 10, 10, 1223) := by decide +kernel
theorem gz_156_9 : mz_pg 156 9 = some (.iload_n 2, 0, 0, 0) := by decide +kernel
theorem gz_156_10 : mz_pg 156 10 = some (.iaload, 0, 0, 0) := by decide +kernel
theorem gz_156_11 : mz_pg 156 11 = some (.if_icmp .ge 140, 0, 0, 0) := by decide +kernel
theorem gz_156_14 : mz_pg 156 14 = some (.aload_n 0, 0, 0, 0) := by decide +kernel
theorem gz_156_15 : mz_pg 156 15 = some (.iload_n 1, 0, 0, 0) := by decide +kernel
theorem gz_156_16 : mz_pg 156 16 = some (.iload_n 2, 0, 0, 0) := by decide +kernel
theorem gz_156_17 : mz_pg 156 17 = some (.iload_n 3, 0, 0, 0) := by decide +kernel
theorem gz_156_18 : mz_pg 156 18 = some (.iload 4, 0, 0, 0) := by decide +kernel
theorem gz_156_20 : mz_pg 156 20 = some (.invokevirtual 246, 1, 157, 1450) := by decide +kernel
theorem gz_156_23 : mz_pg 156 23 = some (.istore 5, 0, 0, 0) := by decide +kernel
theorem gz_156_25 : mz_pg 156 25 = some (.iconst 4, 0, 0, 0) := by decide +kernel
theorem gz_156_26 : mz_pg 156 26 = some (.iload_n 2, 0, 0, 0) := by decide +kernel
theorem gz_156_27 : mz_pg 156 27 = some (.imul, 0, 0, 0) := by decide +kernel
theorem gz_156_28 : mz_pg 156 28 = some (.iload 4, 0, 0, 0) := by decide +kernel
theorem gz_156_30 : mz_pg 156 30 = some (.iadd, 0, 0, 0) := by decide +kernel
theorem gz_156_31 : mz_pg 156 31 = some (.istore 6, 0, 0, 0) := by decide +kernel
theorem gz_156_33 : mz_pg 156 33 = some (.iload 5, 0, 0, 0) := by decide +kernel
theorem gz_156_35 : mz_pg 156 35 = some (.aload_n 0, 0, 0, 0) := by decide +kernel
theorem gz_156_36 : mz_pg 156 36 = some (.getfield 64, 10, 11, 1224) := by decide +kernel
theorem gz_156_39 : mz_pg 156 39 = some (.iload 6, 0, 0, 0) := by decide +kernel
theorem gz_156_41 : mz_pg 156 41 = some (.iaload, 0, 0, 0) := by decide +kernel
theorem gz_156_42 : mz_pg 156 42 = some (.aload_n 0, 0, 0, 0) := by decide +kernel
theorem gz_156_43 : mz_pg 156 43 = some (.getfield 67, 10, 12, 1225) := by decide +kernel
theorem gz_156_46 : mz_pg 156 46 = some (.iload 6, 0, 0, 0) := by decide +kernel
theorem gz_156_48 : mz_pg 156 48 = some (.iaload, 0, 0, 0) := by decide +kernel
theorem gz_156_49 : mz_pg 156 49 = some (.invokestatic 250, 1, 147, 1419) := by decide +kernel
theorem gz_156_52 : mz_pg 156 52 = some (.ifCond .eq 34, 0, 0, 0) := by decide +kernel
theorem gz_156_55 : mz_pg 156 55 = some (.aload_n 0, 0, 0, 0) := by decide +kernel
theorem gz_156_56 : mz_pg 156 56 = some (.getfield 70, 10, 13, 1226) := by decide +kernel
theorem gz_156_59 : mz_pg 156 59 = some (.iload 6, 0, 0, 0) := by decide +kernel
theorem gz_156_61 : mz_pg 156 61 = some (.iaload, 0, 0, 0) := by decide +kernel
theorem gz_156_62 : mz_pg 156 62 = some (.ifCond .lt 26, 0, 0, 0) := by decide +kernel
theorem gz_156_65 : mz_pg 156 65 = some (.aload_n 0, 0, 0, 0) := by decide +kernel
theorem gz_156_66 : mz_pg 156 66 = some (.getfield 77, 10, 15, 1228) := by decide +kernel
theorem gz_156_69 : mz_pg 156 69 = some (.iload_n 1, 0, 0, 0) := by decide +kernel
theorem gz_156_70 : mz_pg 156 70 = some (.aload_n 0, 0, 0, 0) := by decide +kernel
theorem gz_156_71 : mz_pg 156 71 = some (.getfield 70, 10, 13, 1226) := by decide +kernel
theorem gz_156_74 : mz_pg 156 74 = some (.iload 6, 0, 0, 0) := by decide +kernel
theorem gz_156_76 : mz_pg 156 76 = some (.iaload, 0, 0, 0) := by decide +kernel
theorem gz_156_77 : mz_pg 156 77 = some (.iload 5, 0, 0, 0) := by decide +kernel
theorem gz_156_79 : mz_pg 156 79 = some (.invokestatic 242, 1, 150, 1429) := by decide +kernel
theorem gz_156_82 : mz_pg 156 82 = some (.baload, 0, 0, 0) := by decide +kernel
theorem gz_156_83 : mz_pg 156 83 = some (.ifCond .ne 5, 0, 0, 0) := by decide +kernel
theorem gz_156_86 : mz_pg 156 86 = some (.iconst 0, 0, 0, 0) := by decide +kernel
theorem gz_156_87 : mz_pg 156 87 = some (.ireturn, 0, 0, 0) := by decide +kernel
theorem gz_156_88 : mz_pg 156 88 = some (.iconst 0, 0, 0, 0) := by decide +kernel
theorem gz_156_89 : mz_pg 156 89 = some (.istore 7, 0, 0, 0) := by decide +kernel
theorem gz_156_91 : mz_pg 156 91 = some (.iload 7, 0, 0, 0) := by decide +kernel
theorem gz_156_93 : mz_pg 156 93 = some (.iload_n 3, 0, 0, 0) := by decide +kernel
theorem gz_156_94 : mz_pg 156 94 = some (.if_icmp .ge 51, 0, 0, 0) := by decide +kernel
theorem gz_156_97 : mz_pg 156 97 = some (.aload_n 0, 0, 0, 0) := by decide +kernel
theorem gz_156_98 : mz_pg 156 98 = some (.getfield 73, 10, 14, 1227) := by decide +kernel
theorem gz_156_101 : mz_pg 156 101 = some (.iload 6, 0, 0, 0) := by decide +kernel
theorem gz_156_103 : mz_pg 156 103 = some (.baload, 0, 0, 0) := by decide +kernel
theorem gz_156_104 : mz_pg 156 104 = some (.ifCond .eq 41, 0, 0, 0) := by decide +kernel
theorem gz_156_107 : mz_pg 156 107 = some (.aload_n 0, 0, 0, 0) := by decide +kernel
theorem gz_156_108 : mz_pg 156 108 = some (.getfield 77, 10, 15, 1228) := by decide +kernel
theorem gz_156_111 : mz_pg 156 111 = some (.iload_n 1, 0, 0, 0) := by decide +kernel
theorem gz_156_112 : mz_pg 156 112 = some (.iload_n 2, 0, 0, 0) := by decide +kernel
theorem gz_156_113 : mz_pg 156 113 = some (.iload 7, 0, 0, 0) := by decide +kernel
theorem gz_156_115 : mz_pg 156 115 = some (.invokestatic 242, 1, 150, 1429) := by decide +kernel
theorem gz_156_118 : mz_pg 156 118 = some (.baload, 0, 0, 0) := by decide +kernel
theorem gz_156_119 : mz_pg 156 119 = some (.ifCond .eq 20, 0, 0, 0) := by decide +kernel
theorem gz_156_122 : mz_pg 156 122 = some (.aload_n 0, 0, 0, 0) := by decide +kernel
theorem gz_156_123 : mz_pg 156 123 = some (.iload_n 1, 0, 0, 0) := by decide +kernel
theorem gz_156_124 : mz_pg 156 124 = some (.iload_n 2, 0, 0, 0) := by decide +kernel
theorem gz_156_125 : mz_pg 156 125 = some (.iload 7, 0, 0, 0) := by decide +kernel
theorem gz_156_127 : mz_pg 156 127 = some (.iload 4, 0, 0, 0) := by decide +kernel
theorem gz_156_129 : mz_pg 156 129 = some (.invokevirtual 246, 1, 157, 1450) := by decide +kernel
theorem gz_156_132 : mz_pg 156 132 = some (.iload 5, 0, 0, 0) := by decide +kernel
theorem gz_156_134 : mz_pg 156 134 = some (.if_icmp .ne 5, 0, 0, 0) := by decide +kernel
theorem gz_156_137 : mz_pg 156 137 = some (.iconst 0, 0, 0, 0) := by decide +kernel
theorem gz_156_138 : mz_pg 156 138 = some (.ireturn, 0, 0, 0) := by decide +kernel
theorem gz_156_139 : mz_pg 156 139 = some (.iinc 7 1, 0, 0, 0) := by decide +kernel
theorem gz_156_142 : mz_pg 156 142 = some (.goto (-51), 0, 0, 0) := by decide +kernel
theorem gz_156_145 : mz_pg 156 145 = some (.iinc 4 1, 0, 0, 0) := by decide +kernel
theorem gz_156_148 : mz_pg 156 148 = some (.goto (-145), 0, 0, 0) := by decide +kernel
theorem gz_156_151 : mz_pg 156 151 = some (.iconst 1, 0, 0, 0) := by decide +kernel
theorem gz_156_152 : mz_pg 156 152 = some (.ireturn, 0, 0, 0) := by decide +kernel
theorem gz_157_0 : mz_pg 157 0 = some (.aload_n 0, 0, 0, 0) := by decide +kernel
theorem gz_157_1 : mz_pg 157 1 = some (.getfield 80, 10, 16, 1229) := by decide +kernel
theorem gz_157_4 : mz_pg 157 4 = some (.iconst 4, 0, 0, 0) := by decide +kernel
theorem gz_157_5 : mz_pg 157 5 = some (.iload_n 1, 0, 0, 0) := by decide +kernel
theorem gz_157_6 : mz_pg 157 6 = some (.iload_n 2, 0, 0, 0) := by decide +kernel
theorem gz_157_7 : mz_pg 157 7 = some (.iload_n 3, 0, 0, 0) := by decide +kernel
theorem gz_157_8 : mz_pg 157 8 = some (.invokestatic 242, 1, 150, 1429) := by decide +kernel
theorem gz_157_11 : mz_pg 157 11 = some (.imul, 0, 0, 0) := by decide +kernel
theorem gz_157_12 : mz_pg 157 12 = some (.iload 4, 0, 0, 0) := by decide +kernel
theorem gz_157_14 : mz_pg 157 14 = some (.iadd, 0, 0, 0) := by decide +kernel
theorem gz_157_15 : mz_pg 157 15 = some (.iaload, 0, 0, 0) := by decide +kernel
theorem gz_157_16 : mz_pg 157 16 = some (.ireturn, 0, 0, 0) := by decide +kernel
theorem gm_156 : my_mm 156 8 (some .boolean) 3 10 := by unfold my_mm; decide +kernel
theorem gm_157 : my_mm 157 5 (some .int) 4 10 := by unfold my_mm; decide +kernel
theorem rd_57 : my_rd 57 = .inl (0, 12, [(0, 0, 19)]) := rfl
theorem rd_58 : my_rd 58 = .inl (0, 12, [(0, 0, 19)]) := rfl
theorem rd_59 : my_rd 59 = .inl (0, 12, [(0, -1, 2)]) := rfl
theorem rd_60 : my_rd 60 = .inl (1, 12, [(0, 0, 1)]) := rfl
theorem c17_Model_isLawfulRow {l : Launch} {rho : Nat → Int32} {d : Nat} {h : my_H} {Q : my_H → my_V → Prop} {x1 x2 x3 : Int} (a1 : 0 ≤ x1) (b1 : x1 ≤ 15) (a2 : 0 ≤ x2) (b2 : x2 ≤ 2) (a3 : 0 ≤ x3) (b3 : x3 ≤ 19) (k0 : Q h (0, 0)) (k1 : Q h (0, 1)) : wp l rho (d + 2) 156 0 [(2, 151), (0, x1), (0, x2), (0, x3), (9, 0), (9, 0), (9, 0), (9, 0)] [] h Q := by
  have J3_0 : ∀ (n : Nat) (p3_0 : Int), 0 ≤ p3_0 → p3_0 ≤ 4 → 5 - p3_0 ≤ (n : Int) → wp l rho (d + 2) 156 3 [(2, 151), (0, x1), (0, x2), (0, x3), (0, p3_0), (9, 0), (9, 0), (9, 0)] [] h Q := by
    intro n
    induction n with
    | zero => intro p3_0 q0_3_0 q1_3_0 hm_3_0; exfalso; omega
    | succ n ih_3_0 =>
      intro p3_0 q0_3_0 q1_3_0 hm_3_0
      have J145_0 : ∀ (p145_0 p145_1 p145_2 : Int), p3_0 ≤ 3 → 0 ≤ p145_0 → p145_0 ≤ 19 → 0 ≤ p145_1 → p145_1 ≤ 11 → 0 ≤ p145_2 → p145_2 ≤ 19 → p145_2 ≤ x3 → wp l rho (d + 2) 156 145 [(2, 151), (0, x1), (0, x2), (0, x3), (0, p3_0), (0, p145_0), (0, p145_1), (0, p145_2)] [] h Q := by
        intro p145_0 p145_1 p145_2 q0_145_0 q1_145_0 q2_145_0 q3_145_0 q4_145_0 q5_145_0 q6_145_0 q7_145_0
        refine w_iinc (ls' := [(2, 151), (0, x1), (0, x2), (0, x3), (0, (p3_0 + 1)), (0, p145_0), (0, p145_1), (0, p145_2)]) gz_156_145 rfl gm_156 rfl rfl rfl ⟨by omega, by omega⟩ ?_
        refine w_goto (t := 3) gz_156_148 rfl ?_
        refine w_weak (ls' := [(2, 151), (0, x1), (0, x2), (0, x3), (0, (p3_0 + 1)), (9, 0), (9, 0), (9, 0)]) (wk_e (wk_e (wk_e (wk_e (wk_e (wk_9 (wk_9 (wk_9 wk_n)))))))) ?_
        exact ih_3_0 ((p3_0 + 1)) (by omega) (by omega) (by omega)
      have J91_0 : ∀ (n : Nat) (p91_0 p91_1 p91_2 : Int), p3_0 ≤ 3 → 0 ≤ p91_0 → p91_0 ≤ 19 → 0 ≤ p91_1 → p91_1 ≤ 11 → 0 ≤ p91_2 → p91_2 ≤ 19 → p91_2 ≤ x3 → 20 - p91_2 ≤ (n : Int) → wp l rho (d + 2) 156 91 [(2, 151), (0, x1), (0, x2), (0, x3), (0, p3_0), (0, p91_0), (0, p91_1), (0, p91_2)] [] h Q := by
        intro n
        induction n with
        | zero => intro p91_0 p91_1 p91_2 q0_91_0 q1_91_0 q2_91_0 q3_91_0 q4_91_0 q5_91_0 q6_91_0 q7_91_0 hm_91_0; exfalso; omega
        | succ n ih_91_0 =>
          intro p91_0 p91_1 p91_2 q0_91_0 q1_91_0 q2_91_0 q3_91_0 q4_91_0 q5_91_0 q6_91_0 q7_91_0 hm_91_0
          have J139_0 : 1 ≤ x3 → p91_2 ≤ 18 → p91_2 ≤ (x3 - 1) → wp l rho (d + 2) 156 139 [(2, 151), (0, x1), (0, x2), (0, x3), (0, p3_0), (0, p91_0), (0, p91_1), (0, p91_2)] [] h Q := by
            intro q0_139_0 q1_139_0 q2_139_0
            refine w_iinc (ls' := [(2, 151), (0, x1), (0, x2), (0, x3), (0, p3_0), (0, p91_0), (0, p91_1), (0, (p91_2 + 1))]) gz_156_139 rfl gm_156 rfl rfl rfl ⟨by omega, by omega⟩ ?_
            refine w_goto (t := 91) gz_156_142 rfl ?_
            exact ih_91_0 (p91_0) (p91_1) ((p91_2 + 1)) (by omega) (by omega) (by omega) (by omega) (by omega) (by omega) (by omega) (by omega) (by omega)
          refine w_iload gz_156_91 rfl ?_
          refine w_iload_n gz_156_93 rfl ?_
          refine w_icge (t := 145) gz_156_94 rfl (fun u1 => ?_) (fun u1 => ?_)
          ·
            exact J145_0 (p91_0) (p91_1) (p91_2) (by omega) (by omega) (by omega) (by omega) (by omega) (by omega) (by omega) (by omega)
          ·
            refine w_aload_n gz_156_97 rfl ?_
            refine w_getX (v := 161) gz_156_98 is_151 rd_10 rfl (by decide) rfl ?_
            refine w_iload gz_156_101 rfl ?_
            refine w_bald gz_156_103 is_161 rd_60 (by omega) (by omega) (fun v3 ev3 pv3 qv3 => ?_)
            refine w_ifeq (t := 145) gz_156_104 rfl (fun u4 => ?_) (fun u4 => ?_)
            ·
              exact J145_0 (p91_0) (p91_1) (p91_2) (by omega) (by omega) (by omega) (by omega) (by omega) (by omega) (by omega) (by omega)
            ·
              refine w_aload_n gz_156_107 rfl ?_
              refine w_getX (v := 162) gz_156_108 is_151 rd_10 rfl (by decide) rfl ?_
              refine w_iload_n gz_156_111 rfl ?_
              refine w_iload_n gz_156_112 rfl ?_
              refine w_iload gz_156_113 rfl ?_
              refine w_inS (k := 0) (as := [(0, p91_2), (0, x2), (0, x1)]) (r := [(2, 162)]) (ls0 := [(0, x1), (0, x2), (0, p91_2)]) gz_156_115 gm_150 rfl rfl rfl rfl rfl rfl ?_
              refine w_bipush gz_150_0 (by decide) ?_
              refine w_iload_n gz_150_2 rfl ?_
              refine w_imul gz_150_3 ⟨by omega, by omega⟩ ?_
              refine w_bipush gz_150_4 (by decide) ?_
              refine w_iload_n gz_150_6 rfl ?_
              refine w_imul gz_150_7 ⟨by omega, by omega⟩ ?_
              refine w_iadd gz_150_8 ⟨by omega, by omega⟩ ?_
              refine w_iload_n gz_150_9 rfl ?_
              refine w_iadd gz_150_10 ⟨by omega, by omega⟩ ?_
              refine w_iret gz_150_11 gm_150 ?_
              show wp l rho (d + 2) 156 118 [(2, 151), (0, x1), (0, x2), (0, x3), (0, p3_0), (0, p91_0), (0, p91_1), (0, p91_2)] [(0, (((60 * x1) + (20 * x2)) + p91_2)), (2, 162)] h Q
              refine w_bald gz_156_118 is_162 rd_61 (by omega) (by omega) (fun v6 ev6 pv6 qv6 => ?_)
              refine w_ifeq (t := 139) gz_156_119 rfl (fun u7 => ?_) (fun u7 => ?_)
              ·
                exact J139_0 (by omega) (by omega) (by omega)
              ·
                refine w_aload_n gz_156_122 rfl ?_
                refine w_iload_n gz_156_123 rfl ?_
                refine w_iload_n gz_156_124 rfl ?_
                refine w_iload gz_156_125 rfl ?_
                refine w_iload gz_156_127 rfl ?_
                refine w_inv (k := 0) (as := [(0, p3_0), (0, p91_2), (0, x2), (0, x1)]) (r := []) (x := 151) (ls0 := [(2, 151), (0, x1), (0, x2), (0, p91_2), (0, p3_0)]) gz_156_129 gm_157 rfl is_151 rd_10 rfl rfl rfl rfl rfl ?_
                refine w_aload_n gz_157_0 rfl ?_
                refine w_getX (v := 163) gz_157_1 is_151 rd_10 rfl (by decide) rfl ?_
                refine w_iconst gz_157_4 (by decide) ?_
                refine w_iload_n gz_157_5 rfl ?_
                refine w_iload_n gz_157_6 rfl ?_
                refine w_iload_n gz_157_7 rfl ?_
                refine w_inS (k := 0) (as := [(0, p91_2), (0, x2), (0, x1)]) (r := [(0, 4), (2, 163)]) (ls0 := [(0, x1), (0, x2), (0, p91_2)]) gz_157_8 gm_150 rfl rfl rfl rfl rfl rfl ?_
                refine w_bipush gz_150_0 (by decide) ?_
                refine w_iload_n gz_150_2 rfl ?_
                refine w_imul gz_150_3 ⟨by omega, by omega⟩ ?_
                refine w_bipush gz_150_4 (by decide) ?_
                refine w_iload_n gz_150_6 rfl ?_
                refine w_imul gz_150_7 ⟨by omega, by omega⟩ ?_
                refine w_iadd gz_150_8 ⟨by omega, by omega⟩ ?_
                refine w_iload_n gz_150_9 rfl ?_
                refine w_iadd gz_150_10 ⟨by omega, by omega⟩ ?_
                refine w_iret gz_150_11 gm_150 ?_
                show wp l rho (d + 1) 157 11 [(2, 151), (0, x1), (0, x2), (0, p91_2), (0, p3_0)] [(0, (((60 * x1) + (20 * x2)) + p91_2)), (0, 4), (2, 163)] h _
                refine w_imul gz_157_11 ⟨by omega, by omega⟩ ?_
                refine w_iload gz_157_12 rfl ?_
                refine w_iadd gz_157_14 ⟨by omega, by omega⟩ ?_
                refine w_iald gz_157_15 is_163 rd_62 (by omega) (by omega) (fun v9 ev9 pv9 qv9 => ?_)
                refine w_iret gz_157_16 gm_157 ?_
                show wp l rho (d + 2) 156 132 [(2, 151), (0, x1), (0, x2), (0, x3), (0, p3_0), (0, p91_0), (0, p91_1), (0, p91_2)] [(0, v9)] h Q
                refine w_iload gz_156_132 rfl ?_
                refine w_icne (t := 139) gz_156_134 rfl (fun u10 => ?_) (fun u10 => ?_)
                ·
                  exact J139_0 (by omega) (by omega) (by omega)
                ·
                  refine w_iconst gz_156_137 (by decide) ?_
                  exact w_bret gz_156_138 gm_156 (by omega) (by omega) (k0 )
      have J88_0 : ∀ (p88_0 p88_1 : Int), p3_0 ≤ 3 → 0 ≤ p88_0 → p88_0 ≤ 19 → 0 ≤ p88_1 → p88_1 ≤ 11 → wp l rho (d + 2) 156 88 [(2, 151), (0, x1), (0, x2), (0, x3), (0, p3_0), (0, p88_0), (0, p88_1), (9, 0)] [] h Q := by
        intro p88_0 p88_1 q0_88_0 q1_88_0 q2_88_0 q3_88_0 q4_88_0
        refine w_iconst gz_156_88 (by decide) ?_
        refine w_istore (ls' := [(2, 151), (0, x1), (0, x2), (0, x3), (0, p3_0), (0, p88_0), (0, p88_1), (0, 0)]) gz_156_89 gm_156 rfl rfl rfl ?_
        exact J91_0 20 (p88_0) (p88_1) (0) (by omega) (by omega) (by omega) (by omega) (by omega) (by omega) (by omega) (by omega) (by omega)
      refine w_iload gz_156_3 rfl ?_
      refine w_aload_n gz_156_5 rfl ?_
      refine w_getX (v := 157) gz_156_6 is_151 rd_10 rfl (by decide) rfl ?_
      refine w_iload_n gz_156_9 rfl ?_
      refine w_iald gz_156_10 is_157 rd_56 (by omega) (by omega) (fun v12 ev12 pv12 qv12 => ?_)
      refine w_icge (t := 151) gz_156_11 rfl (fun u13 => ?_) (fun u13 => ?_)
      ·
        refine w_iconst gz_156_151 (by decide) ?_
        exact w_bret gz_156_152 gm_156 (by omega) (by omega) (k1 )
      ·
        refine w_aload_n gz_156_14 rfl ?_
        refine w_iload_n gz_156_15 rfl ?_
        refine w_iload_n gz_156_16 rfl ?_
        refine w_iload_n gz_156_17 rfl ?_
        refine w_iload gz_156_18 rfl ?_
        refine w_inv (k := 0) (as := [(0, p3_0), (0, x3), (0, x2), (0, x1)]) (r := []) (x := 151) (ls0 := [(2, 151), (0, x1), (0, x2), (0, x3), (0, p3_0)]) gz_156_20 gm_157 rfl is_151 rd_10 rfl rfl rfl rfl rfl ?_
        refine w_aload_n gz_157_0 rfl ?_
        refine w_getX (v := 163) gz_157_1 is_151 rd_10 rfl (by decide) rfl ?_
        refine w_iconst gz_157_4 (by decide) ?_
        refine w_iload_n gz_157_5 rfl ?_
        refine w_iload_n gz_157_6 rfl ?_
        refine w_iload_n gz_157_7 rfl ?_
        refine w_inS (k := 0) (as := [(0, x3), (0, x2), (0, x1)]) (r := [(0, 4), (2, 163)]) (ls0 := [(0, x1), (0, x2), (0, x3)]) gz_157_8 gm_150 rfl rfl rfl rfl rfl rfl ?_
        refine w_bipush gz_150_0 (by decide) ?_
        refine w_iload_n gz_150_2 rfl ?_
        refine w_imul gz_150_3 ⟨by omega, by omega⟩ ?_
        refine w_bipush gz_150_4 (by decide) ?_
        refine w_iload_n gz_150_6 rfl ?_
        refine w_imul gz_150_7 ⟨by omega, by omega⟩ ?_
        refine w_iadd gz_150_8 ⟨by omega, by omega⟩ ?_
        refine w_iload_n gz_150_9 rfl ?_
        refine w_iadd gz_150_10 ⟨by omega, by omega⟩ ?_
        refine w_iret gz_150_11 gm_150 ?_
        show wp l rho (d + 1) 157 11 [(2, 151), (0, x1), (0, x2), (0, x3), (0, p3_0)] [(0, (((60 * x1) + (20 * x2)) + x3)), (0, 4), (2, 163)] h _
        refine w_imul gz_157_11 ⟨by omega, by omega⟩ ?_
        refine w_iload gz_157_12 rfl ?_
        refine w_iadd gz_157_14 ⟨by omega, by omega⟩ ?_
        refine w_iald gz_157_15 is_163 rd_62 (by omega) (by omega) (fun v15 ev15 pv15 qv15 => ?_)
        refine w_iret gz_157_16 gm_157 ?_
        show wp l rho (d + 2) 156 23 [(2, 151), (0, x1), (0, x2), (0, x3), (0, p3_0), (9, 0), (9, 0), (9, 0)] [(0, v15)] h Q
        refine w_istore (ls' := [(2, 151), (0, x1), (0, x2), (0, x3), (0, p3_0), (0, v15), (9, 0), (9, 0)]) gz_156_23 gm_156 rfl rfl rfl ?_
        refine w_iconst gz_156_25 (by decide) ?_
        refine w_iload_n gz_156_26 rfl ?_
        refine w_imul gz_156_27 ⟨by omega, by omega⟩ ?_
        refine w_iload gz_156_28 rfl ?_
        refine w_iadd gz_156_30 ⟨by omega, by omega⟩ ?_
        refine w_istore (ls' := [(2, 151), (0, x1), (0, x2), (0, x3), (0, p3_0), (0, v15), (0, ((4 * x2) + p3_0)), (9, 0)]) gz_156_31 gm_156 rfl rfl rfl ?_
        refine w_iload gz_156_33 rfl ?_
        refine w_aload_n gz_156_35 rfl ?_
        refine w_getX (v := 158) gz_156_36 is_151 rd_10 rfl (by decide) rfl ?_
        refine w_iload gz_156_39 rfl ?_
        refine w_iald gz_156_41 is_158 rd_57 (by omega) (by omega) (fun v17 ev17 pv17 qv17 => ?_)
        refine w_aload_n gz_156_42 rfl ?_
        refine w_getX (v := 159) gz_156_43 is_151 rd_10 rfl (by decide) rfl ?_
        refine w_iload gz_156_46 rfl ?_
        refine w_iald gz_156_48 is_159 rd_58 (by omega) (by omega) (fun v19 ev19 pv19 qv19 => ?_)
        refine w_inS (k := 0) (as := [(0, v19), (0, v17), (0, v15)]) (r := []) (ls0 := [(0, v15), (0, v17), (0, v19)]) gz_156_49 gm_147 rfl rfl rfl rfl rfl rfl ?_
        refine w_iload_n gz_147_0 rfl ?_
        refine w_iload_n gz_147_1 rfl ?_
        refine w_iclt (t := 14) gz_147_2 rfl (fun u20 => ?_) (fun u20 => ?_)
        ·
          refine w_iconst gz_147_14 (by decide) ?_
          refine w_bret gz_147_15 gm_147 (by omega) (by omega) ?_
          show wp l rho (d + 2) 156 52 [(2, 151), (0, x1), (0, x2), (0, x3), (0, p3_0), (0, v15), (0, ((4 * x2) + p3_0)), (9, 0)] [(0, 0)] h Q
          refine w_ifeq (t := 86) gz_156_52 rfl (fun u21 => ?_) (fun u21 => by exfalso; omega)
          refine w_iconst gz_156_86 (by decide) ?_
          exact w_bret gz_156_87 gm_156 (by omega) (by omega) (k0 )
        ·
          refine w_iload_n gz_147_5 rfl ?_
          refine w_iload_n gz_147_6 rfl ?_
          refine w_icgt (t := 14) gz_147_7 rfl (fun u22 => ?_) (fun u22 => ?_)
          ·
            refine w_iconst gz_147_14 (by decide) ?_
            refine w_bret gz_147_15 gm_147 (by omega) (by omega) ?_
            show wp l rho (d + 2) 156 52 [(2, 151), (0, x1), (0, x2), (0, x3), (0, p3_0), (0, v15), (0, ((4 * x2) + p3_0)), (9, 0)] [(0, 0)] h Q
            refine w_ifeq (t := 86) gz_156_52 rfl (fun u23 => ?_) (fun u23 => by exfalso; omega)
            refine w_iconst gz_156_86 (by decide) ?_
            exact w_bret gz_156_87 gm_156 (by omega) (by omega) (k0 )
          ·
            refine w_iconst gz_147_10 (by decide) ?_
            refine w_goto (t := 15) gz_147_11 rfl ?_
            refine w_bret gz_147_15 gm_147 (by omega) (by omega) ?_
            show wp l rho (d + 2) 156 52 [(2, 151), (0, x1), (0, x2), (0, x3), (0, p3_0), (0, v15), (0, ((4 * x2) + p3_0)), (9, 0)] [(0, 1)] h Q
            refine w_ifeq (t := 86) gz_156_52 rfl (fun u24 => by exfalso; omega) (fun u24 => ?_)
            refine w_aload_n gz_156_55 rfl ?_
            refine w_getX (v := 160) gz_156_56 is_151 rd_10 rfl (by decide) rfl ?_
            refine w_iload gz_156_59 rfl ?_
            refine w_iald gz_156_61 is_160 rd_59 (by omega) (by omega) (fun v26 ev26 pv26 qv26 => ?_)
            refine w_iflt (t := 88) gz_156_62 rfl (fun u27 => ?_) (fun u27 => ?_)
            ·
              exact J88_0 (v15) (((4 * x2) + p3_0)) (by omega) (by omega) (by omega) (by omega) (by omega)
            ·
              refine w_aload_n gz_156_65 rfl ?_
              refine w_getX (v := 162) gz_156_66 is_151 rd_10 rfl (by decide) rfl ?_
              refine w_iload_n gz_156_69 rfl ?_
              refine w_aload_n gz_156_70 rfl ?_
              refine w_getX (v := 160) gz_156_71 is_151 rd_10 rfl (by decide) rfl ?_
              refine w_iload gz_156_74 rfl ?_
              refine w_iald gz_156_76 is_160 rd_59 (by omega) (by omega) (fun v30 ev30 pv30 qv30 => ?_)
              have zv30 := ev30.trans ev26.symm
              refine w_iload gz_156_77 rfl ?_
              refine w_inS (k := 0) (as := [(0, v15), (0, v30), (0, x1)]) (r := [(2, 162)]) (ls0 := [(0, x1), (0, v30), (0, v15)]) gz_156_79 gm_150 rfl rfl rfl rfl rfl rfl ?_
              refine w_bipush gz_150_0 (by decide) ?_
              refine w_iload_n gz_150_2 rfl ?_
              refine w_imul gz_150_3 ⟨by omega, by omega⟩ ?_
              refine w_bipush gz_150_4 (by decide) ?_
              refine w_iload_n gz_150_6 rfl ?_
              refine w_imul gz_150_7 ⟨by omega, by omega⟩ ?_
              refine w_iadd gz_150_8 ⟨by omega, by omega⟩ ?_
              refine w_iload_n gz_150_9 rfl ?_
              refine w_iadd gz_150_10 ⟨by omega, by omega⟩ ?_
              refine w_iret gz_150_11 gm_150 ?_
              show wp l rho (d + 2) 156 82 [(2, 151), (0, x1), (0, x2), (0, x3), (0, p3_0), (0, v15), (0, ((4 * x2) + p3_0)), (9, 0)] [(0, (((60 * x1) + (20 * v30)) + v15)), (2, 162)] h Q
              refine w_bald gz_156_82 is_162 rd_61 (by omega) (by omega) (fun v31 ev31 pv31 qv31 => ?_)
              refine w_ifne (t := 88) gz_156_83 rfl (fun u32 => ?_) (fun u32 => ?_)
              ·
                exact J88_0 (v15) (((4 * x2) + p3_0)) (by omega) (by omega) (by omega) (by omega) (by omega)
              ·
                refine w_iconst gz_156_86 (by decide) ?_
                exact w_bret gz_156_87 gm_156 (by omega) (by omega) (k0 )
  refine w_iconst gz_156_0 (by decide) ?_
  refine w_istore (ls' := [(2, 151), (0, x1), (0, x2), (0, x3), (0, 0), (9, 0), (9, 0), (9, 0)]) gz_156_1 gm_156 rfl rfl rfl ?_
  exact J3_0 5 (0) (by omega) (by omega) (by omega)
theorem gz_149_0 : mz_pg 149 0 = some (.iload_n 1, 0, 0, 0) := by decide +kernel
theorem gz_149_1 : mz_pg 149 1 = some (.ifCond .lt 21, 0, 0, 0) := by decide +kernel
theorem gz_149_4 : mz_pg 149 4 = some (.iload_n 1, 0, 0, 0) := by decide +kernel
theorem gz_149_5 : mz_pg 149 5 = some (.iconst 3, 0, 0, 0) := by decide +kernel
theorem gz_149_6 : mz_pg 149 6 = some (.if_icmp .ge 16, 0, 0, 0) := by decide +kernel
theorem gz_149_9 : mz_pg 149 9 = some (.aload_n 0, 0, 0, 0) := by decide +kernel
theorem gz_149_10 : mz_pg 149 10 = some (.getfield 61, 10, 10, 1223) := by decide +kernel
theorem gz_149_13 : mz_pg 149 13 = some (.iload_n 1, 0, 0, 0) := by decide +kernel
theorem gz_149_14 : mz_pg 149 14 = some (.iaload, 0, 0, 0) := by decide +kernel
theorem gz_149_15 : mz_pg 149 15 = some (.ifCond .le 7, 0, 0, 0) := by decide +kernel
theorem gz_149_18 : mz_pg 149 18 = some (.iconst 1, 0, 0, 0) := by decide +kernel
theorem gz_149_19 : mz_pg 149 19 = some (.goto 4, 0, 0, 0) := by decide +kernel
theorem gz_149_22 : mz_pg 149 22 = some (.iconst 0, 0, 0, 0) := by decide +kernel
theorem gz_149_23 : mz_pg 149 23 = some (.ireturn, 0, 0, 0) := by decide +kernel
theorem gz_159_0 : mz_pg 159 0 = some (.aload_n 0, 0, 0, 0) := by decide +kernel
theorem gz_159_1 : mz_pg 159 1 = some (.iload_n 1, 0, 0, 0) := by decide +kernel
theorem gz_159_2 : mz_pg 159 2 = some (.invokevirtual 257, 1, 149, 1426) := by decide +kernel
theorem gz_159_5 : mz_pg 159 5 = some (.ifCond .eq 31, 0, 0, 0) := by decide +kernel
theorem gz_159_8 : mz_pg 159 8 = some (.iload_n 2, 0, 0, 0) := by decide +kernel
theorem gz_159_9 : mz_pg 159 9 = some (.iconst 0, 0, 0, 0) := by decide +kernel
theorem gz_159_10 : mz_pg 159 10 = some (.bipush 19, 0, 0, 0) := by decide +kernel
theorem gz_159_12 : mz_pg 159 12 = some (.invokestatic 250, 1, 147, 1419) := by decide +kernel
theorem gz_159_15 : mz_pg 159 15 = some (.ifCond .eq 21, 0, 0, 0) := by decide +kernel
theorem gz_159_18 : mz_pg 159 18 = some (.aload_n 0, 0, 0, 0) := by decide +kernel
theorem gz_159_19 : mz_pg 159 19 = some (.getfield 77, 10, 15, 1228) := by decide +kernel
theorem gz_159_22 : mz_pg 159 22 = some (.iconst 0, 0, 0, 0) := by decide +kernel
theorem gz_159_23 : mz_pg 159 23 = some (.iload_n 1, 0, 0, 0) := by decide +kernel
theorem gz_159_24 : mz_pg 159 24 = some (.iload_n 2, 0, 0, 0) := by decide +kernel
theorem gz_159_25 : mz_pg 159 25 = some (.invokestatic 242, 1, 150, 1429) := by decide +kernel
theorem gz_159_28 : mz_pg 159 28 = some (.baload, 0, 0, 0) := by decide +kernel
theorem gz_159_29 : mz_pg 159 29 = some (.ifCond .eq 7, 0, 0, 0) := by decide +kernel
theorem gz_159_32 : mz_pg 159 32 = some (.iconst 1, 0, 0, 0) := by decide +kernel
theorem gz_159_33 : mz_pg 159 33 = some (.goto 4, 0, 0, 0) := by decide +kernel
theorem gz_159_36 : mz_pg 159 36 = some (.iconst 0, 0, 0, 0) := by decide +kernel
theorem gz_159_37 : mz_pg 159 37 = some (.ireturn, 0, 0, 0) := by decide +kernel
theorem gm_149 : my_mm 149 2 (some .boolean) 1 10 := by unfold my_mm; decide +kernel
theorem gm_159 : my_mm 159 3 (some .boolean) 2 10 := by unfold my_mm; decide +kernel
theorem c18_Model_isRow {l : Launch} {rho : Nat → Int32} {d : Nat} {h : my_H} {Q : my_H → my_V → Prop} {x1 x2 : Int} (k0 : Q h (0, 0)) (k1 : 0 ≤ x1 → x1 ≤ 2 → 0 ≤ x2 → x2 ≤ 19 → Q h (0, 1)) : wp l rho (d + 1) 159 0 [(2, 151), (0, x1), (0, x2)] [] h Q := by
  refine w_aload_n gz_159_0 rfl ?_
  refine w_iload_n gz_159_1 rfl ?_
  refine w_inv (k := 0) (as := [(0, x1)]) (r := []) (x := 151) (ls0 := [(2, 151), (0, x1)]) gz_159_2 gm_149 rfl is_151 rd_10 rfl rfl rfl rfl rfl ?_
  refine w_iload_n gz_149_0 rfl ?_
  refine w_iflt (t := 22) gz_149_1 rfl (fun u1 => ?_) (fun u1 => ?_)
  ·
    refine w_iconst gz_149_22 (by decide) ?_
    refine w_bret gz_149_23 gm_149 (by omega) (by omega) ?_
    show wp l rho (d + 1) 159 5 [(2, 151), (0, x1), (0, x2)] [(0, 0)] h Q
    refine w_ifeq (t := 36) gz_159_5 rfl (fun u2 => ?_) (fun u2 => by exfalso; omega)
    refine w_iconst gz_159_36 (by decide) ?_
    exact w_bret gz_159_37 gm_159 (by omega) (by omega) (k0 )
  ·
    refine w_iload_n gz_149_4 rfl ?_
    refine w_iconst gz_149_5 (by decide) ?_
    refine w_icge (t := 22) gz_149_6 rfl (fun u3 => ?_) (fun u3 => ?_)
    ·
      refine w_iconst gz_149_22 (by decide) ?_
      refine w_bret gz_149_23 gm_149 (by omega) (by omega) ?_
      show wp l rho (d + 1) 159 5 [(2, 151), (0, x1), (0, x2)] [(0, 0)] h Q
      refine w_ifeq (t := 36) gz_159_5 rfl (fun u4 => ?_) (fun u4 => by exfalso; omega)
      refine w_iconst gz_159_36 (by decide) ?_
      exact w_bret gz_159_37 gm_159 (by omega) (by omega) (k0 )
    ·
      refine w_aload_n gz_149_9 rfl ?_
      refine w_getX (v := 157) gz_149_10 is_151 rd_10 rfl (by decide) rfl ?_
      refine w_iload_n gz_149_13 rfl ?_
      refine w_iald gz_149_14 is_157 rd_56 (by omega) (by omega) (fun v6 ev6 pv6 qv6 => ?_)
      refine w_ifle (t := 22) gz_149_15 rfl (fun u7 => ?_) (fun u7 => ?_)
      ·
        refine w_iconst gz_149_22 (by decide) ?_
        refine w_bret gz_149_23 gm_149 (by omega) (by omega) ?_
        show wp l rho (d + 1) 159 5 [(2, 151), (0, x1), (0, x2)] [(0, 0)] h Q
        refine w_ifeq (t := 36) gz_159_5 rfl (fun u8 => ?_) (fun u8 => by exfalso; omega)
        refine w_iconst gz_159_36 (by decide) ?_
        exact w_bret gz_159_37 gm_159 (by omega) (by omega) (k0 )
      ·
        refine w_iconst gz_149_18 (by decide) ?_
        refine w_goto (t := 23) gz_149_19 rfl ?_
        refine w_bret gz_149_23 gm_149 (by omega) (by omega) ?_
        show wp l rho (d + 1) 159 5 [(2, 151), (0, x1), (0, x2)] [(0, 1)] h Q
        refine w_ifeq (t := 36) gz_159_5 rfl (fun u9 => by exfalso; omega) (fun u9 => ?_)
        refine w_iload_n gz_159_8 rfl ?_
        refine w_iconst gz_159_9 (by decide) ?_
        refine w_bipush gz_159_10 (by decide) ?_
        refine w_inS (k := 0) (as := [(0, 19), (0, 0), (0, x2)]) (r := []) (ls0 := [(0, x2), (0, 0), (0, 19)]) gz_159_12 gm_147 rfl rfl rfl rfl rfl rfl ?_
        refine w_iload_n gz_147_0 rfl ?_
        refine w_iload_n gz_147_1 rfl ?_
        refine w_iclt (t := 14) gz_147_2 rfl (fun u10 => ?_) (fun u10 => ?_)
        ·
          refine w_iconst gz_147_14 (by decide) ?_
          refine w_bret gz_147_15 gm_147 (by omega) (by omega) ?_
          show wp l rho (d + 1) 159 15 [(2, 151), (0, x1), (0, x2)] [(0, 0)] h Q
          refine w_ifeq (t := 36) gz_159_15 rfl (fun u11 => ?_) (fun u11 => by exfalso; omega)
          refine w_iconst gz_159_36 (by decide) ?_
          exact w_bret gz_159_37 gm_159 (by omega) (by omega) (k0 )
        ·
          refine w_iload_n gz_147_5 rfl ?_
          refine w_iload_n gz_147_6 rfl ?_
          refine w_icgt (t := 14) gz_147_7 rfl (fun u12 => ?_) (fun u12 => ?_)
          ·
            refine w_iconst gz_147_14 (by decide) ?_
            refine w_bret gz_147_15 gm_147 (by omega) (by omega) ?_
            show wp l rho (d + 1) 159 15 [(2, 151), (0, x1), (0, x2)] [(0, 0)] h Q
            refine w_ifeq (t := 36) gz_159_15 rfl (fun u13 => ?_) (fun u13 => by exfalso; omega)
            refine w_iconst gz_159_36 (by decide) ?_
            exact w_bret gz_159_37 gm_159 (by omega) (by omega) (k0 )
          ·
            refine w_iconst gz_147_10 (by decide) ?_
            refine w_goto (t := 15) gz_147_11 rfl ?_
            refine w_bret gz_147_15 gm_147 (by omega) (by omega) ?_
            show wp l rho (d + 1) 159 15 [(2, 151), (0, x1), (0, x2)] [(0, 1)] h Q
            refine w_ifeq (t := 36) gz_159_15 rfl (fun u14 => by exfalso; omega) (fun u14 => ?_)
            refine w_aload_n gz_159_18 rfl ?_
            refine w_getX (v := 162) gz_159_19 is_151 rd_10 rfl (by decide) rfl ?_
            refine w_iconst gz_159_22 (by decide) ?_
            refine w_iload_n gz_159_23 rfl ?_
            refine w_iload_n gz_159_24 rfl ?_
            refine w_inS (k := 0) (as := [(0, x2), (0, x1), (0, 0)]) (r := [(2, 162)]) (ls0 := [(0, 0), (0, x1), (0, x2)]) gz_159_25 gm_150 rfl rfl rfl rfl rfl rfl ?_
            refine w_bipush gz_150_0 (by decide) ?_
            refine w_iload_n gz_150_2 rfl ?_
            refine w_imul gz_150_3 ⟨by omega, by omega⟩ ?_
            refine w_bipush gz_150_4 (by decide) ?_
            refine w_iload_n gz_150_6 rfl ?_
            refine w_imul gz_150_7 ⟨by omega, by omega⟩ ?_
            refine w_iadd gz_150_8 ⟨by omega, by omega⟩ ?_
            refine w_iload_n gz_150_9 rfl ?_
            refine w_iadd gz_150_10 ⟨by omega, by omega⟩ ?_
            refine w_iret gz_150_11 gm_150 ?_
            show wp l rho (d + 1) 159 28 [(2, 151), (0, x1), (0, x2)] [(0, (((60 * 0) + (20 * x1)) + x2)), (2, 162)] h Q
            refine w_bald gz_159_28 is_162 rd_61 (by omega) (by omega) (fun v16 ev16 pv16 qv16 => ?_)
            refine w_ifeq (t := 36) gz_159_29 rfl (fun u17 => ?_) (fun u17 => ?_)
            ·
              refine w_iconst gz_159_36 (by decide) ?_
              exact w_bret gz_159_37 gm_159 (by omega) (by omega) (k0 )
            ·
              refine w_iconst gz_159_32 (by decide) ?_
              refine w_goto (t := 37) gz_159_33 rfl ?_
              exact w_bret gz_159_37 gm_159 (by omega) (by omega) (k1 (by omega) (by omega) (by omega) (by omega))
theorem gz_161_0 : mz_pg 161 0 = some (.aload_n 0, 0, 0, 0) := by decide +kernel
theorem gz_161_1 : mz_pg 161 1 = some (.iload_n 1, 0, 0, 0) := by decide +kernel
theorem gz_161_2 : mz_pg 161 2 = some (.iload_n 2, 0, 0, 0) := by decide +kernel
theorem gz_161_3 : mz_pg 161 3 = some (.invokevirtual 283, 1, 162, 1467) := by decide +kernel
theorem gz_161_6 : mz_pg 161 6 = some (.ifCond .eq 28, 0, 0, 0) := by decide +kernel
theorem gz_161_9 : mz_pg 161 9 = some (.iload_n 3, 0, 0, 0) := by decide +kernel
theorem gz_161_10 : mz_pg 161 10 = some (.iconst 0, 0, 0, 0) := by decide +kernel
theorem gz_161_11 : mz_pg 161 11 = some (.bipush 19, 0, 0, 0) := by decide +kernel
theorem gz_161_13 : mz_pg 161 13 = some (.invokestatic 250, 1, 147, 1419) := by decide +kernel
theorem gz_161_16 : mz_pg 161 16 = some (.ifCond .eq 18, 0, 0, 0) := by decide +kernel
theorem gz_161_19 : mz_pg 161 19 = some (.iload 4, 0, 0, 0) := by decide +kernel
theorem gz_161_21 : mz_pg 161 21 = some (.iload_n 3, 0, 0, 0) := by decide +kernel
theorem gz_161_22 : mz_pg 161 22 = some (.bipush 19, 0, 0, 0) := by decide +kernel
theorem gz_161_24 : mz_pg 161 24 = some (.invokestatic 250, 1, 147, 1419) := by decide +kernel
theorem gz_161_27 : mz_pg 161 27 = some (.ifCond .eq 7, 0, 0, 0) := by decide +kernel
theorem gz_161_30 : mz_pg 161 30 = some (.iconst 1, 0, 0, 0) := by decide +kernel
theorem gz_161_31 : mz_pg 161 31 = some (.goto 4, 0, 0, 0) := by decide +kernel
theorem gz_161_34 : mz_pg 161 34 = some (.iconst 0, 0, 0, 0) := by decide +kernel
theorem gz_161_35 : mz_pg 161 35 = some (.ireturn, 0, 0, 0) := by decide +kernel
theorem gz_162_0 : mz_pg 162 0 = some (.aload_n 0, 0, 0, 0) := by decide +kernel
theorem gz_162_1 : mz_pg 162 1 = some (.iload_n 1, 0, 0, 0) := by decide +kernel
theorem gz_162_2 : mz_pg 162 2 = some (.invokevirtual 257, 1, 149, 1426) := by decide +kernel
theorem gz_162_5 : mz_pg 162 5 = some (.ifCond .eq 21, 0, 0, 0) := by decide +kernel
theorem gz_162_8 : mz_pg 162 8 = some (.iload_n 2, 0, 0, 0) := by decide +kernel
theorem gz_162_9 : mz_pg 162 9 = some (.ifCond .lt 17, 0, 0, 0) := by decide +kernel
theorem gz_162_12 : mz_pg 162 12 = some (.iload_n 2, 0, 0, 0) := by decide +kernel
theorem gz_162_13 : mz_pg 162 13 = some (.aload_n 0, 0, 0, 0) := by decide +kernel
theorem gz_162_14 : mz_pg 162 14 = some (.getfield 61, 10, 10, 1223) := by decide +kernel
theorem gz_162_17 : mz_pg 162 17 = some (.iload_n 1, 0, 0, 0) := by decide +kernel
theorem gz_162_18 : mz_pg 162 18 = some (.iaload, 0, 0, 0) := by decide +kernel
theorem gz_162_19 : mz_pg 162 19 = some (.if_icmp .ge 7, 0, 0, 0) := by decide +kernel
theorem gz_162_22 : mz_pg 162 22 = some (.iconst 1, 0, 0, 0) := by decide +kernel
theorem gz_162_23 : mz_pg 162 23 = some (.goto 4, 0, 0, 0) := by decide +kernel
theorem gz_162_26 : mz_pg 162 26 = some (.iconst 0, 0, 0, 0) := by decide +kernel
theorem gz_162_27 : mz_pg 162 27 = some (.ireturn, 0, 0, 0) := by decide +kernel
theorem gm_161 : my_mm 161 5 (some .boolean) 4 10 := by unfold my_mm; decide +kernel
theorem gm_162 : my_mm 162 3 (some .boolean) 2 10 := by unfold my_mm; decide +kernel
theorem c19_Model_isSpan {l : Launch} {rho : Nat → Int32} {d : Nat} {h : my_H} {Q : my_H → my_V → Prop} {x1 x2 x3 x4 : Int} (k0 : Q h (0, 0)) (k1 : 0 ≤ x1 → x1 ≤ 2 → 0 ≤ x2 → x2 ≤ 3 → 0 ≤ x3 → x3 ≤ 19 → 0 ≤ x4 → x4 ≤ 19 → Q h (0, 1)) : wp l rho (d + 2) 161 0 [(2, 151), (0, x1), (0, x2), (0, x3), (0, x4)] [] h Q := by
  refine w_aload_n gz_161_0 rfl ?_
  refine w_iload_n gz_161_1 rfl ?_
  refine w_iload_n gz_161_2 rfl ?_
  refine w_inv (k := 0) (as := [(0, x2), (0, x1)]) (r := []) (x := 151) (ls0 := [(2, 151), (0, x1), (0, x2)]) gz_161_3 gm_162 rfl is_151 rd_10 rfl rfl rfl rfl rfl ?_
  refine w_aload_n gz_162_0 rfl ?_
  refine w_iload_n gz_162_1 rfl ?_
  refine w_inv (k := 0) (as := [(0, x1)]) (r := []) (x := 151) (ls0 := [(2, 151), (0, x1)]) gz_162_2 gm_149 rfl is_151 rd_10 rfl rfl rfl rfl rfl ?_
  refine w_iload_n gz_149_0 rfl ?_
  refine w_iflt (t := 22) gz_149_1 rfl (fun u1 => ?_) (fun u1 => ?_)
  ·
    refine w_iconst gz_149_22 (by decide) ?_
    refine w_bret gz_149_23 gm_149 (by omega) (by omega) ?_
    show wp l rho (d + 1) 162 5 [(2, 151), (0, x1), (0, x2)] [(0, 0)] h _
    refine w_ifeq (t := 26) gz_162_5 rfl (fun u2 => ?_) (fun u2 => by exfalso; omega)
    refine w_iconst gz_162_26 (by decide) ?_
    refine w_bret gz_162_27 gm_162 (by omega) (by omega) ?_
    show wp l rho (d + 2) 161 6 [(2, 151), (0, x1), (0, x2), (0, x3), (0, x4)] [(0, 0)] h Q
    refine w_ifeq (t := 34) gz_161_6 rfl (fun u3 => ?_) (fun u3 => by exfalso; omega)
    refine w_iconst gz_161_34 (by decide) ?_
    exact w_bret gz_161_35 gm_161 (by omega) (by omega) (k0 )
  ·
    refine w_iload_n gz_149_4 rfl ?_
    refine w_iconst gz_149_5 (by decide) ?_
    refine w_icge (t := 22) gz_149_6 rfl (fun u4 => ?_) (fun u4 => ?_)
    ·
      refine w_iconst gz_149_22 (by decide) ?_
      refine w_bret gz_149_23 gm_149 (by omega) (by omega) ?_
      show wp l rho (d + 1) 162 5 [(2, 151), (0, x1), (0, x2)] [(0, 0)] h _
      refine w_ifeq (t := 26) gz_162_5 rfl (fun u5 => ?_) (fun u5 => by exfalso; omega)
      refine w_iconst gz_162_26 (by decide) ?_
      refine w_bret gz_162_27 gm_162 (by omega) (by omega) ?_
      show wp l rho (d + 2) 161 6 [(2, 151), (0, x1), (0, x2), (0, x3), (0, x4)] [(0, 0)] h Q
      refine w_ifeq (t := 34) gz_161_6 rfl (fun u6 => ?_) (fun u6 => by exfalso; omega)
      refine w_iconst gz_161_34 (by decide) ?_
      exact w_bret gz_161_35 gm_161 (by omega) (by omega) (k0 )
    ·
      refine w_aload_n gz_149_9 rfl ?_
      refine w_getX (v := 157) gz_149_10 is_151 rd_10 rfl (by decide) rfl ?_
      refine w_iload_n gz_149_13 rfl ?_
      refine w_iald gz_149_14 is_157 rd_56 (by omega) (by omega) (fun v8 ev8 pv8 qv8 => ?_)
      refine w_ifle (t := 22) gz_149_15 rfl (fun u9 => ?_) (fun u9 => ?_)
      ·
        refine w_iconst gz_149_22 (by decide) ?_
        refine w_bret gz_149_23 gm_149 (by omega) (by omega) ?_
        show wp l rho (d + 1) 162 5 [(2, 151), (0, x1), (0, x2)] [(0, 0)] h _
        refine w_ifeq (t := 26) gz_162_5 rfl (fun u10 => ?_) (fun u10 => by exfalso; omega)
        refine w_iconst gz_162_26 (by decide) ?_
        refine w_bret gz_162_27 gm_162 (by omega) (by omega) ?_
        show wp l rho (d + 2) 161 6 [(2, 151), (0, x1), (0, x2), (0, x3), (0, x4)] [(0, 0)] h Q
        refine w_ifeq (t := 34) gz_161_6 rfl (fun u11 => ?_) (fun u11 => by exfalso; omega)
        refine w_iconst gz_161_34 (by decide) ?_
        exact w_bret gz_161_35 gm_161 (by omega) (by omega) (k0 )
      ·
        refine w_iconst gz_149_18 (by decide) ?_
        refine w_goto (t := 23) gz_149_19 rfl ?_
        refine w_bret gz_149_23 gm_149 (by omega) (by omega) ?_
        show wp l rho (d + 1) 162 5 [(2, 151), (0, x1), (0, x2)] [(0, 1)] h _
        refine w_ifeq (t := 26) gz_162_5 rfl (fun u12 => by exfalso; omega) (fun u12 => ?_)
        refine w_iload_n gz_162_8 rfl ?_
        refine w_iflt (t := 26) gz_162_9 rfl (fun u13 => ?_) (fun u13 => ?_)
        ·
          refine w_iconst gz_162_26 (by decide) ?_
          refine w_bret gz_162_27 gm_162 (by omega) (by omega) ?_
          show wp l rho (d + 2) 161 6 [(2, 151), (0, x1), (0, x2), (0, x3), (0, x4)] [(0, 0)] h Q
          refine w_ifeq (t := 34) gz_161_6 rfl (fun u14 => ?_) (fun u14 => by exfalso; omega)
          refine w_iconst gz_161_34 (by decide) ?_
          exact w_bret gz_161_35 gm_161 (by omega) (by omega) (k0 )
        ·
          refine w_iload_n gz_162_12 rfl ?_
          refine w_aload_n gz_162_13 rfl ?_
          refine w_getX (v := 157) gz_162_14 is_151 rd_10 rfl (by decide) rfl ?_
          refine w_iload_n gz_162_17 rfl ?_
          refine w_iald gz_162_18 is_157 rd_56 (by omega) (by omega) (fun v16 ev16 pv16 qv16 => ?_)
          have zv16 := ev16.trans ev8.symm
          refine w_icge (t := 26) gz_162_19 rfl (fun u17 => ?_) (fun u17 => ?_)
          ·
            refine w_iconst gz_162_26 (by decide) ?_
            refine w_bret gz_162_27 gm_162 (by omega) (by omega) ?_
            show wp l rho (d + 2) 161 6 [(2, 151), (0, x1), (0, x2), (0, x3), (0, x4)] [(0, 0)] h Q
            refine w_ifeq (t := 34) gz_161_6 rfl (fun u18 => ?_) (fun u18 => by exfalso; omega)
            refine w_iconst gz_161_34 (by decide) ?_
            exact w_bret gz_161_35 gm_161 (by omega) (by omega) (k0 )
          ·
            refine w_iconst gz_162_22 (by decide) ?_
            refine w_goto (t := 27) gz_162_23 rfl ?_
            refine w_bret gz_162_27 gm_162 (by omega) (by omega) ?_
            show wp l rho (d + 2) 161 6 [(2, 151), (0, x1), (0, x2), (0, x3), (0, x4)] [(0, 1)] h Q
            refine w_ifeq (t := 34) gz_161_6 rfl (fun u19 => by exfalso; omega) (fun u19 => ?_)
            refine w_iload_n gz_161_9 rfl ?_
            refine w_iconst gz_161_10 (by decide) ?_
            refine w_bipush gz_161_11 (by decide) ?_
            refine w_inS (k := 0) (as := [(0, 19), (0, 0), (0, x3)]) (r := []) (ls0 := [(0, x3), (0, 0), (0, 19)]) gz_161_13 gm_147 rfl rfl rfl rfl rfl rfl ?_
            refine w_iload_n gz_147_0 rfl ?_
            refine w_iload_n gz_147_1 rfl ?_
            refine w_iclt (t := 14) gz_147_2 rfl (fun u20 => ?_) (fun u20 => ?_)
            ·
              refine w_iconst gz_147_14 (by decide) ?_
              refine w_bret gz_147_15 gm_147 (by omega) (by omega) ?_
              show wp l rho (d + 2) 161 16 [(2, 151), (0, x1), (0, x2), (0, x3), (0, x4)] [(0, 0)] h Q
              refine w_ifeq (t := 34) gz_161_16 rfl (fun u21 => ?_) (fun u21 => by exfalso; omega)
              refine w_iconst gz_161_34 (by decide) ?_
              exact w_bret gz_161_35 gm_161 (by omega) (by omega) (k0 )
            ·
              refine w_iload_n gz_147_5 rfl ?_
              refine w_iload_n gz_147_6 rfl ?_
              refine w_icgt (t := 14) gz_147_7 rfl (fun u22 => ?_) (fun u22 => ?_)
              ·
                refine w_iconst gz_147_14 (by decide) ?_
                refine w_bret gz_147_15 gm_147 (by omega) (by omega) ?_
                show wp l rho (d + 2) 161 16 [(2, 151), (0, x1), (0, x2), (0, x3), (0, x4)] [(0, 0)] h Q
                refine w_ifeq (t := 34) gz_161_16 rfl (fun u23 => ?_) (fun u23 => by exfalso; omega)
                refine w_iconst gz_161_34 (by decide) ?_
                exact w_bret gz_161_35 gm_161 (by omega) (by omega) (k0 )
              ·
                refine w_iconst gz_147_10 (by decide) ?_
                refine w_goto (t := 15) gz_147_11 rfl ?_
                refine w_bret gz_147_15 gm_147 (by omega) (by omega) ?_
                show wp l rho (d + 2) 161 16 [(2, 151), (0, x1), (0, x2), (0, x3), (0, x4)] [(0, 1)] h Q
                refine w_ifeq (t := 34) gz_161_16 rfl (fun u24 => by exfalso; omega) (fun u24 => ?_)
                refine w_iload gz_161_19 rfl ?_
                refine w_iload_n gz_161_21 rfl ?_
                refine w_bipush gz_161_22 (by decide) ?_
                refine w_inS (k := 0) (as := [(0, 19), (0, x3), (0, x4)]) (r := []) (ls0 := [(0, x4), (0, x3), (0, 19)]) gz_161_24 gm_147 rfl rfl rfl rfl rfl rfl ?_
                refine w_iload_n gz_147_0 rfl ?_
                refine w_iload_n gz_147_1 rfl ?_
                refine w_iclt (t := 14) gz_147_2 rfl (fun u25 => ?_) (fun u25 => ?_)
                ·
                  refine w_iconst gz_147_14 (by decide) ?_
                  refine w_bret gz_147_15 gm_147 (by omega) (by omega) ?_
                  show wp l rho (d + 2) 161 27 [(2, 151), (0, x1), (0, x2), (0, x3), (0, x4)] [(0, 0)] h Q
                  refine w_ifeq (t := 34) gz_161_27 rfl (fun u26 => ?_) (fun u26 => by exfalso; omega)
                  refine w_iconst gz_161_34 (by decide) ?_
                  exact w_bret gz_161_35 gm_161 (by omega) (by omega) (k0 )
                ·
                  refine w_iload_n gz_147_5 rfl ?_
                  refine w_iload_n gz_147_6 rfl ?_
                  refine w_icgt (t := 14) gz_147_7 rfl (fun u27 => ?_) (fun u27 => ?_)
                  ·
                    refine w_iconst gz_147_14 (by decide) ?_
                    refine w_bret gz_147_15 gm_147 (by omega) (by omega) ?_
                    show wp l rho (d + 2) 161 27 [(2, 151), (0, x1), (0, x2), (0, x3), (0, x4)] [(0, 0)] h Q
                    refine w_ifeq (t := 34) gz_161_27 rfl (fun u28 => ?_) (fun u28 => by exfalso; omega)
                    refine w_iconst gz_161_34 (by decide) ?_
                    exact w_bret gz_161_35 gm_161 (by omega) (by omega) (k0 )
                  ·
                    refine w_iconst gz_147_10 (by decide) ?_
                    refine w_goto (t := 15) gz_147_11 rfl ?_
                    refine w_bret gz_147_15 gm_147 (by omega) (by omega) ?_
                    show wp l rho (d + 2) 161 27 [(2, 151), (0, x1), (0, x2), (0, x3), (0, x4)] [(0, 1)] h Q
                    refine w_ifeq (t := 34) gz_161_27 rfl (fun u29 => by exfalso; omega) (fun u29 => ?_)
                    refine w_iconst gz_161_30 (by decide) ?_
                    refine w_goto (t := 35) gz_161_31 rfl ?_
                    exact w_bret gz_161_35 gm_161 (by omega) (by omega) (k1 (by omega) (by omega) (by omega) (by omega) (by omega) (by omega) (by omega) (by omega))
end MYG0
