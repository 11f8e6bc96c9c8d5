/-! contracts, printed by wip/gen/gen.py -/
section MYG
theorem gz_29_0 : mz_pg 29 0 = some (.iload_n 0, 0, 0, 0) := by decide +kernel
theorem gz_29_1 : mz_pg 29 1 = some (.iconst 4, 0, 0, 0) := by decide +kernel
theorem gz_29_2 : mz_pg 29 2 = some (.imul, 0, 0, 0) := by decide +kernel
theorem gz_29_3 : mz_pg 29 3 = some (.iload_n 1, 0, 0, 0) := by decide +kernel
theorem gz_29_4 : mz_pg 29 4 = some (.iadd, 0, 0, 0) := by decide +kernel
theorem gz_29_5 : mz_pg 29 5 = some (.ireturn, 0, 0, 0) := by decide +kernel
theorem gz_107_0 : mz_pg 107 0 = some (.iconst 0, 0, 0, 0) := by decide +kernel
theorem gz_107_1 : mz_pg 107 1 = some (.istore_n 2, 0, 0, 0) := by decide +kernel
theorem gz_107_2 : mz_pg 107 2 = some (.iload_n 2, 0, 0, 0) := by decide +kernel
theorem gz_107_3 : mz_pg 107 3 = some (.aload_n 0, 0, 0, 0) := by decide +kernel
theorem gz_107_4 : mz_pg 107 4 = some (.getfield 46, 4, 4, 208) := by decide +kernel
theorem gz_107_7 : mz_pg 107 7 = some (.if_icmp .ge 28, 0, 0, 0) := by decide +kernel
theorem gz_107_10 : mz_pg 107 10 = some (.aload_n 0, 0, 0, 0) := by decide +kernel
theorem gz_107_11 : mz_pg 107 11 = some (.getfield 27, 4, 15, 232) := by decide +kernel
theorem gz_107_14 : mz_pg 107 14 = some (.iload_n 2, 0, 0, 0) := by decide +kernel
theorem gz_107_15 : mz_pg 107 15 = some (.iaload, 0, 0, 0) := by decide +kernel
theorem gz_107_16 : mz_pg 107 16 = some (.aload_n 0, 0, 0, 0) := by decide +kernel
theorem gz_107_17 : mz_pg 107 17 = some (.getfield 40, 4, 2, 201) := by decide +kernel
theorem gz_107_20 : mz_pg 107 20 = some (.iload_n 1, 0, 0, 0) := by decide +kernel
theorem gz_107_21 : mz_pg 107 21 = some (.invokestatic 65, 2, 29, 6) := by decide +kernel
theorem gz_107_24 : mz_pg 107 24 = some (.if_icmp .ne 5, 0, 0, 0) := by decide +kernel
theorem gz_107_27 : mz_pg 107 27 = some (.iload_n 2, 0, 0, 0) := by decide +kernel
theorem gz_107_28 : mz_pg 107 28 = some (.ireturn, 0, 0, 0) := by decide +kernel
theorem gz_107_29 : mz_pg 107 29 = some (.iinc 2 1, 0, 0, 0) := by decide +kernel
theorem gz_107_32 : mz_pg 107 32 = some (.goto (-30), 0, 0, 0) := by decide +kernel
theorem gz_107_35 : mz_pg 107 35 = some (.iconst (-1), 0, 0, 0) := by decide +kernel
theorem gz_107_36 : mz_pg 107 36 = some (.ireturn, 0, 0, 0) := by decide +kernel
theorem gm_29 : my_mm 29 2 (some .int) 2 9 := by unfold my_mm; decide +kernel
theorem gm_107 : my_mm 107 3 (some .int) 1 4 := by unfold my_mm; decide +kernel
theorem rd_4 : my_rd 4 = .inr (4, [(0, 0, 1), (0, -1, 5), (0, 0, 2), (0, 0, 4), (0, 0, 8), (0, -2147483648, 2147483647), (0, -2147483648, 2147483647), (0, 0, 1), (0, -2147483648, 2147483647), (0, 0, 6), (2, 32, 0), (2, 33, 0), (2, 34, 0), (2, 35, 0), (2, 36, 0), (2, 37, 0), (2, 38, 0), (2, 39, 0)]) := rfl
theorem rd_37 : my_rd 37 = .inl (0, 8, [(0, -1, 27)]) := rfl
theorem c0_Lens_columnShowing {l : Launch} {rho : Nat → Int32} {d : Nat} {h : my_H} {Q : my_H → my_V → Prop} {x0 x1 : Int} (t0 : my_is 4 x0) (a1 : 0 ≤ x1) (b1 : x1 ≤ 3) (k0 : Q h (0, (-1))) (k1 : ∀ (y : Int), 0 ≤ y → y ≤ 7 → 1 ≤ h x0 ((4 : Nat) : Int) → h x0 ((4 : Nat) : Int) ≤ 8 → Q h (0, y)) : wp l rho (d + 1) 107 0 [(2, x0), (0, x1), (9, 0)] [] h Q := by
  have J2_0 : ∀ (n : Nat) (p2_0 : Int), 0 ≤ p2_0 → p2_0 ≤ 8 → 9 - p2_0 ≤ (n : Int) → wp l rho (d + 1) 107 2 [(2, x0), (0, x1), (0, p2_0)] [] h Q := by
    intro n
    induction n with
    | zero => intro p2_0 q0_2_0 q1_2_0 hm_2_0; exfalso; omega
    | succ n ih_2_0 =>
      intro p2_0 q0_2_0 q1_2_0 hm_2_0
      refine w_iload_n gz_107_2 rfl ?_
      refine w_aload_n gz_107_3 rfl ?_
      refine w_getI gz_107_4 t0 rd_4 rfl (fun v1 ev1 pv1 qv1 => ?_)
      refine w_icge (t := 35) gz_107_7 rfl (fun u2 => ?_) (fun u2 => ?_)
      ·
        refine w_iconst gz_107_35 (by decide) ?_
        exact w_iret gz_107_36 gm_107 (k0 )
      ·
        refine w_aload_n gz_107_10 rfl ?_
        refine w_getR gz_107_11 t0 rd_4 rfl (fun v3 ev3 tv3 => ?_)
        refine w_iload_n gz_107_14 rfl ?_
        refine w_iald gz_107_15 tv3 rd_37 (by omega) (by omega) (fun v4 ev4 pv4 qv4 => ?_)
        refine w_aload_n gz_107_16 rfl ?_
        refine w_getI gz_107_17 t0 rd_4 rfl (fun v5 ev5 pv5 qv5 => ?_)
        refine w_iload_n gz_107_20 rfl ?_
        refine w_inS (k := 0) (as := [(0, x1), (0, v5)]) (r := [(0, v4)]) (ls0 := [(0, v5), (0, x1)]) gz_107_21 gm_29 rfl rfl rfl rfl rfl rfl ?_
        refine w_iload_n gz_29_0 rfl ?_
        refine w_iconst gz_29_1 (by decide) ?_
        refine w_imul gz_29_2 ⟨by omega, by omega⟩ ?_
        refine w_iload_n gz_29_3 rfl ?_
        refine w_iadd gz_29_4 ⟨by omega, by omega⟩ ?_
        refine w_iret gz_29_5 gm_29 ?_
        show wp l rho (d + 1) 107 24 [(2, x0), (0, x1), (0, p2_0)] [(0, ((v5 * 4) + x1)), (0, v4)] h Q
        refine w_icne (t := 29) gz_107_24 rfl (fun u6 => ?_) (fun u6 => ?_)
        ·
          refine w_iinc (ls' := [(2, x0), (0, x1), (0, (p2_0 + 1))]) gz_107_29 rfl gm_107 rfl rfl rfl ⟨by omega, by omega⟩ ?_
          refine w_goto (t := 2) gz_107_32 rfl ?_
          exact ih_2_0 ((p2_0 + 1)) (by omega) (by omega) (by omega)
        ·
          refine w_iload_n gz_107_27 rfl ?_
          have c7 := ev1.symm
          exact w_iret gz_107_28 gm_107 (k1 (p2_0) (by omega) (by omega) (by omega) (by omega))
  refine w_iconst gz_107_0 (by decide) ?_
  refine w_istore_n (ls' := [(2, x0), (0, x1), (0, 0)]) gz_107_1 gm_107 rfl rfl rfl ?_
  exact J2_0 9 (0) (by omega) (by omega) (by omega)
theorem gz_116_0 : mz_pg 116 0 = some (.iconst 0, 0, 0, 0) := by decide +kernel
theorem gz_116_1 : mz_pg 116 1 = some (.istore_n 2, 0, 0, 0) := by decide +kernel
theorem gz_116_2 : mz_pg 116 2 = some (.iload_n 2, 0, 0, 0) := by decide +kernel
theorem gz_116_3 : mz_pg 116 3 = some (.aload_n 0, 0, 0, 0) := by decide +kernel
theorem gz_116_4 : mz_pg 116 4 = some (.getfield 9, 6, 0, 176) := by decide +kernel
theorem gz_116_7 : mz_pg 116 7 = some (.arraylength, 0, 0, 0) := by decide +kernel
theorem gz_116_8 : mz_pg 116 8 = some (.if_icmp .ge 26, 0, 0, 0) := by decide +kernel
theorem gz_116_11 : mz_pg 116 11 = some (.aload_n 0, 0, 0, 0) := by decide +kernel
theorem gz_116_12 : mz_pg 116 12 = some (.getfield 9, 6, 0, 176) := by decide +kernel
theorem gz_116_15 : mz_pg 116 15 = some (.iload_n 2, 0, 0, 0) := by decide +kernel
theorem gz_116_16 : mz_pg 116 16 = some (.iaload, 0, 0, 0) := by decide +kernel
theorem gz_116_17 : mz_pg 116 17 = some (.aload_n 1, 0, 0, 0) := by decide +kernel
theorem gz_116_18 : mz_pg 116 18 = some (.getfield 9, 6, 0, 176) := by decide +kernel
theorem gz_116_21 : mz_pg 116 21 = some (.iload_n 2, 0, 0, 0) := by decide +kernel
theorem gz_116_22 : mz_pg 116 22 = some (.iaload, 0, 0, 0) := by decide +kernel
theorem gz_116_23 : mz_pg 116 23 = some (.if_icmp .eq 5, 0, 0, 0) := by decide +kernel
theorem gz_116_26 : mz_pg 116 26 = some (.iconst 0, 0, 0, 0) := by decide +kernel
theorem gz_116_27 : mz_pg 116 27 = some (.ireturn, 0, 0, 0) := by decide +kernel
theorem gz_116_28 : mz_pg 116 28 = some (.iinc 2 1, 0, 0, 0) := by decide +kernel
theorem gz_116_31 : mz_pg 116 31 = some (.goto (-29), 0, 0, 0) := by decide +kernel
theorem gz_116_34 : mz_pg 116 34 = some (.iconst 1, 0, 0, 0) := by decide +kernel
theorem gz_116_35 : mz_pg 116 35 = some (.ireturn, 0, 0, 0) := by decide +kernel
theorem gm_116 : my_mm 116 3 (some .boolean) 1 6 := by unfold my_mm; decide +kernel
theorem rd_6 : my_rd 6 = .inr (6, [(2, 30, 0), (2, 31, 0)]) := rfl
theorem rd_30 : my_rd 30 = .inl (0, 240, [(0, -1, 19)]) := rfl
theorem c1_Rows_same {l : Launch} {rho : Nat → Int32} {d : Nat} {h : my_H} {Q : my_H → my_V → Prop} {x0 x1 : Int} (t0 : my_is 6 x0) (t1 : my_is 6 x1) (k0 : Q h (0, 0)) (k1 : Q h (0, 1)) : wp l rho d 116 0 [(2, x0), (2, x1), (9, 0)] [] h Q := by
  have J2_0 : ∀ (n : Nat) (p2_0 : Int), 0 ≤ p2_0 → p2_0 ≤ 240 → 241 - p2_0 ≤ (n : Int) → wp l rho d 116 2 [(2, x0), (2, x1), (0, p2_0)] [] h Q := by
    intro n
    induction n with
    | zero => intro p2_0 q0_2_0 q1_2_0 hm_2_0; exfalso; omega
    | succ n ih_2_0 =>
      intro p2_0 q0_2_0 q1_2_0 hm_2_0
      refine w_iload_n gz_116_2 rfl ?_
      refine w_aload_n gz_116_3 rfl ?_
      refine w_getR gz_116_4 t0 rd_6 rfl (fun v1 ev1 tv1 => ?_)
      refine w_alen gz_116_7 tv1 rd_30 (by decide) ?_
      refine w_icge (t := 34) gz_116_8 rfl (fun u2 => ?_) (fun u2 => ?_)
      ·
        refine w_iconst gz_116_34 (by decide) ?_
        exact w_bret gz_116_35 gm_116 (by omega) (by omega) (k1 )
      ·
        refine w_aload_n gz_116_11 rfl ?_
        refine w_getR gz_116_12 t0 rd_6 rfl (fun v3 ev3 tv3 => ?_)
        have zv3 : v1 = v3 := (ev3.trans ev1.symm).symm
        subst zv3
        refine w_iload_n gz_116_15 rfl ?_
        refine w_iald gz_116_16 tv1 rd_30 (by omega) (by omega) (fun v4 ev4 pv4 qv4 => ?_)
        refine w_aload_n gz_116_17 rfl ?_
        refine w_getR gz_116_18 t1 rd_6 rfl (fun v5 ev5 tv5 => ?_)
        refine w_iload_n gz_116_21 rfl ?_
        refine w_iald gz_116_22 tv5 rd_30 (by omega) (by omega) (fun v6 ev6 pv6 qv6 => ?_)
        refine w_iceq (t := 28) gz_116_23 rfl (fun u7 => ?_) (fun u7 => ?_)
        ·
          refine w_iinc (ls' := [(2, x0), (2, x1), (0, (p2_0 + 1))]) gz_116_28 rfl gm_116 rfl rfl rfl ⟨by omega, by omega⟩ ?_
          refine w_goto (t := 2) gz_116_31 rfl ?_
          exact ih_2_0 ((p2_0 + 1)) (by omega) (by omega) (by omega)
        ·
          refine w_iconst gz_116_26 (by decide) ?_
          exact w_bret gz_116_27 gm_116 (by omega) (by omega) (k0 )
  refine w_iconst gz_116_0 (by decide) ?_
  refine w_istore_n (ls' := [(2, x0), (2, x1), (0, 0)]) gz_116_1 gm_116 rfl rfl rfl ?_
  exact J2_0 241 (0) (by omega) (by omega) (by omega)
theorem gz_12_0 : mz_pg 12 0 = some (.iload_n 1, 0, 0, 0) := by decide +kernel
theorem gz_12_1 : mz_pg 12 1 = some (.ifCond .lt 29, 0, 0, 0) := by decide +kernel
theorem gz_12_4 : mz_pg 12 4 = some (.iload_n 1, 0, 0, 0) := by decide +kernel
theorem gz_12_5 : mz_pg 12 5 = some (.iconst 3, 0, 0, 0) := by decide +kernel
theorem gz_12_6 : mz_pg 12 6 = some (.if_icmp .ge 24, 0, 0, 0) := by decide +kernel
theorem gz_12_9 : mz_pg 12 9 = some (.aload_n 0, 0, 0, 0) := by decide +kernel
theorem gz_12_10 : mz_pg 12 10 = some (.getfield 10, 9, 0, 528) := by decide +kernel
theorem gz_12_13 : mz_pg 12 13 = some (.iload_n 1, 0, 0, 0) := by decide +kernel
theorem gz_12_14 : mz_pg 12 14 = some (.invokevirtual 88, 1, 13, 578) := by decide +kernel
theorem gz_12_17 : mz_pg 12 17 = some (.ifCond .ne 13, 0, 0, 0) := by decide +kernel
theorem gz_12_20 : mz_pg 12 20 = some (.iload_n 2, 0, 0, 0) := by decide +kernel
theorem gz_12_21 : mz_pg 12 21 = some (.iconst 1, 0, 0, 0) := by decide +kernel
theorem gz_12_22 : mz_pg 12 22 = some (.if_icmp .lt 8, 0, 0, 0) := by decide +kernel
theorem gz_12_25 : mz_pg 12 25 = some (.iload_n 2, 0, 0, 0) := by decide +kernel
theorem gz_12_26 : mz_pg 12 26 = some (.iconst 4, 0, 0, 0) := by decide +kernel
theorem gz_12_27 : mz_pg 12 27 = some (.if_icmp .le 5, 0, 0, 0) := by decide +kernel
theorem gz_12_30 : mz_pg 12 30 = some (.iconst 0, 0, 0, 0) := by decide +kernel
theorem gz_12_31 : mz_pg 12 31 = some (.ireturn, 0, 0, 0) := by decide +kernel
theorem gz_12_32 : mz_pg 12 32 = some (.aload_n 0, 0, 0, 0) := by decide +kernel
theorem gz_12_33 : mz_pg 12 33 = some (.getfield 10, 9, 0, 528) := by decide +kernel
theorem gz_12_36 : mz_pg 12 36 = some (.getfield 92, 3, 0, 145) := by decide +kernel
theorem gz_12_39 : mz_pg 12 39 = some (.iload_n 1, 0, 0, 0) := by decide +kernel
theorem gz_12_40 : mz_pg 12 40 = some (.iload_n 2, 0, 0, 0) := by decide +kernel
theorem gz_12_41 : mz_pg 12 41 = some (.iastore, 0, 0, 0) := by decide +kernel
theorem gz_12_42 : mz_pg 12 42 = some (.iconst 1, 0, 0, 0) := by decide +kernel
theorem gz_12_43 : mz_pg 12 43 = some (.ireturn, 0, 0, 0) := by decide +kernel
theorem gz_13_0 : mz_pg 13 0 = some (.iload_n 1, 0, 0, 0) := by decide +kernel
theorem gz_13_1 : mz_pg 13 1 = some (.ifCond .lt 21, 0, 0, 0) := by decide +kernel
theorem gz_13_4 : mz_pg 13 4 = some (.iload_n 1, 0, 0, 0) := by decide +kernel
theorem gz_13_5 : mz_pg 13 5 = some (.iconst 3, 0, 0, 0) := by decide +kernel
theorem gz_13_6 : mz_pg 13 6 = some (.if_icmp .ge 16, 0, 0, 0) := by decide +kernel
theorem gz_13_9 : mz_pg 13 9 = some (.aload_n 0, 0, 0, 0) := by decide +kernel
theorem gz_13_10 : mz_pg 13 10 = some (.getfield 9, 3, 0, 144) := by decide +kernel
theorem gz_13_13 : mz_pg 13 13 = some (.iload_n 1, 0, 0, 0) := by decide +kernel
theorem gz_13_14 : mz_pg 13 14 = some (.iaload, 0, 0, 0) := by decide +kernel
theorem gz_13_15 : mz_pg 13 15 = some (.ifCond .le 7, 0, 0, 0) := by decide +kernel
theorem gz_13_18 : mz_pg 13 18 = some (.iconst 1, 0, 0, 0) := by decide +kernel
theorem gz_13_19 : mz_pg 13 19 = some (.goto 4, 0, 0, 0) := by decide +kernel
theorem gz_13_22 : mz_pg 13 22 = some (.iconst 0, 0, 0, 0) := by decide +kernel
theorem gz_13_23 : mz_pg 13 23 = some (.ireturn, 0, 0, 0) := by decide +kernel
theorem gm_12 : my_mm 12 3 (some .boolean) 2 9 := by unfold my_mm; decide +kernel
theorem gm_13 : my_mm 13 2 (some .boolean) 1 3 := by unfold my_mm; decide +kernel
theorem rd_3 : my_rd 3 = .inr (3, [(2, 25, 0), (2, 26, 0), (2, 27, 0), (2, 28, 0), (2, 29, 0)]) := rfl
theorem rd_9 : my_rd 9 = .inr (9, [(2, 3, 0), (2, 6, 0), (2, 6, 0), (0, 0, 1), (2, 20, 0), (2, 21, 0), (2, 22, 0), (2, 5, 0), (2, 23, 0), (2, 2, 0), (2, 1, 0), (2, 0, 0), (2, 24, 0), (2, 6, 0), (2, 6, 0)]) := rfl
theorem rd_25 : my_rd 25 = .inl (0, 3, [(0, 0, 4)]) := rfl
theorem c2_ThroughWindow_wall {l : Launch} {rho : Nat → Int32} {d : Nat} {h : my_H} {Q : my_H → my_V → Prop} {x0 x1 x2 : Int} (t0 : my_is 9 x0) (k0 : ∀ (h' : my_H), my_fr [(25, -1)] h h' → Q h' (0, 0)) (k1 : ∀ (h' : my_H), my_fr [(25, -1)] h h' → 0 ≤ x1 → x1 ≤ 2 → 1 ≤ x2 → x2 ≤ 4 → Q h' (0, 1)) : wp l rho (d + 1) 12 0 [(2, x0), (0, x1), (0, x2)] [] h Q := by
  refine w_iload_n gz_12_0 rfl ?_
  refine w_iflt (t := 30) gz_12_1 rfl (fun u1 => ?_) (fun u1 => ?_)
  ·
    refine w_iconst gz_12_30 (by decide) ?_
    exact w_bret gz_12_31 gm_12 (by omega) (by omega) (k0 h (my_fr.rf))
  ·
    refine w_iload_n gz_12_4 rfl ?_
    refine w_iconst gz_12_5 (by decide) ?_
    refine w_icge (t := 30) gz_12_6 rfl (fun u2 => ?_) (fun u2 => ?_)
    ·
      refine w_iconst gz_12_30 (by decide) ?_
      exact w_bret gz_12_31 gm_12 (by omega) (by omega) (k0 h (my_fr.rf))
    ·
      refine w_aload_n gz_12_9 rfl ?_
      refine w_getR gz_12_10 t0 rd_9 rfl (fun v3 ev3 tv3 => ?_)
      refine w_iload_n gz_12_13 rfl ?_
      refine w_inv (k := 0) (as := [(0, x1)]) (r := []) (x := v3) (ls0 := [(2, v3), (0, x1)]) gz_12_14 gm_13 rfl tv3 rd_3 rfl rfl rfl rfl rfl ?_
      refine w_iload_n gz_13_0 rfl ?_
      refine w_iflt (t := 22) gz_13_1 rfl (fun u4 => by exfalso; omega) (fun u4 => ?_)
      refine w_iload_n gz_13_4 rfl ?_
      refine w_iconst gz_13_5 (by decide) ?_
      refine w_icge (t := 22) gz_13_6 rfl (fun u5 => by exfalso; omega) (fun u5 => ?_)
      refine w_aload_n gz_13_9 rfl ?_
      refine w_getR gz_13_10 tv3 rd_3 rfl (fun v6 ev6 tv6 => ?_)
      refine w_iload_n gz_13_13 rfl ?_
      refine w_iald gz_13_14 tv6 rd_25 (by omega) (by omega) (fun v7 ev7 pv7 qv7 => ?_)
      refine w_ifle (t := 22) gz_13_15 rfl (fun u8 => ?_) (fun u8 => ?_)
      ·
        refine w_iconst gz_13_22 (by decide) ?_
        refine w_bret gz_13_23 gm_13 (by omega) (by omega) ?_
        show wp l rho (d + 1) 12 17 [(2, x0), (0, x1), (0, x2)] [(0, 0)] h Q
        refine w_ifne (t := 30) gz_12_17 rfl (fun u9 => by exfalso; omega) (fun u9 => ?_)
        refine w_iload_n gz_12_20 rfl ?_
        refine w_iconst gz_12_21 (by decide) ?_
        refine w_iclt (t := 30) gz_12_22 rfl (fun u10 => ?_) (fun u10 => ?_)
        ·
          refine w_iconst gz_12_30 (by decide) ?_
          exact w_bret gz_12_31 gm_12 (by omega) (by omega) (k0 h (my_fr.rf))
        ·
          refine w_iload_n gz_12_25 rfl ?_
          refine w_iconst gz_12_26 (by decide) ?_
          refine w_icle (t := 32) gz_12_27 rfl (fun u11 => ?_) (fun u11 => ?_)
          ·
            refine w_aload_n gz_12_32 rfl ?_
            refine w_getR gz_12_33 t0 rd_9 rfl (fun v12 ev12 tv12 => ?_)
            have zv12 : v3 = v12 := (ev12.trans ev3.symm).symm
            subst zv12
            refine w_getR gz_12_36 tv3 rd_3 rfl (fun v13 ev13 tv13 => ?_)
            have zv13 : v6 = v13 := (ev13.trans ev6.symm).symm
            subst zv13
            refine w_iload_n gz_12_39 rfl ?_
            refine w_iload_n gz_12_40 rfl ?_
            refine w_iast gz_12_41 tv6 rd_25 (by omega) (by omega) (by omega) (by omega) (fun h14 fh14 => ?_)
            have gh14 : my_fr [(25, -1)] h h14 := my_fr.up my_fr.rf tv6 fh14 rfl
            refine w_iconst gz_12_42 (by decide) ?_
            exact w_bret gz_12_43 gm_12 (by omega) (by omega) (k1 h14 (gh14) (by omega) (by omega) (by omega) (by omega))
          ·
            refine w_iconst gz_12_30 (by decide) ?_
            exact w_bret gz_12_31 gm_12 (by omega) (by omega) (k0 h (my_fr.rf))
      ·
        refine w_iconst gz_13_18 (by decide) ?_
        refine w_goto (t := 23) gz_13_19 rfl ?_
        refine w_bret gz_13_23 gm_13 (by omega) (by omega) ?_
        show wp l rho (d + 1) 12 17 [(2, x0), (0, x1), (0, x2)] [(0, 1)] h Q
        refine w_ifne (t := 30) gz_12_17 rfl (fun u15 => ?_) (fun u15 => by exfalso; omega)
        refine w_iconst gz_12_30 (by decide) ?_
        exact w_bret gz_12_31 gm_12 (by omega) (by omega) (k0 h (my_fr.rf))
theorem gz_15_0 : mz_pg 15 0 = some (.iload_n 2, 0, 0, 0) := by decide +kernel
theorem gz_15_1 : mz_pg 15 1 = some (.ifCond .lt 30, 0, 0, 0) := by decide +kernel
theorem gz_15_4 : mz_pg 15 4 = some (.iload_n 2, 0, 0, 0) := by decide +kernel
theorem gz_15_5 : mz_pg 15 5 = some (.bipush 20, 0, 0, 0) := by decide +kernel
theorem gz_15_7 : mz_pg 15 7 = some (.if_icmp .ge 24, 0, 0, 0) := by decide +kernel
theorem gz_15_10 : mz_pg 15 10 = some (.aload_n 0, 0, 0, 0) := by decide +kernel
theorem gz_15_11 : mz_pg 15 11 = some (.getfield 9, 6, 0, 176) := by decide +kernel
theorem gz_15_14 : mz_pg 15 14 = some (.iload_n 1, 0, 0, 0) := by decide +kernel
theorem gz_15_15 : mz_pg 15 15 = some (.bipush 20, 0, 0, 0) := by decide +kernel
theorem gz_15_17 : mz_pg 15 17 = some (.imul, 0, 0, 0) := by decide +kernel
theorem gz_15_18 : mz_pg 15 18 = some (.iload_n 2, 0, 0, 0) := by decide +kernel
theorem gz_15_19 : mz_pg 15 19 = some (.iadd, 0, 0, 0) := by decide +kernel
theorem gz_15_20 : mz_pg 15 20 = some (.iconst 4, 0, 0, 0) := by decide +kernel
theorem gz_15_21 : mz_pg 15 21 = some (.imul, 0, 0, 0) := by decide +kernel
theorem gz_15_22 : mz_pg 15 22 = some (.iaload, 0, 0, 0) := by decide +kernel
theorem gz_15_23 : mz_pg 15 23 = some (.iconst (-1), 0, 0, 0) := by decide +kernel
theorem gz_15_24 : mz_pg 15 24 = some (.if_icmp .eq 7, 0, 0, 0) := by decide +kernel
theorem gz_15_27 : mz_pg 15 27 = some (.iconst 1, 0, 0, 0) := by decide +kernel
theorem gz_15_28 : mz_pg 15 28 = some (.goto 4, 0, 0, 0) := by decide +kernel
theorem gz_15_31 : mz_pg 15 31 = some (.iconst 0, 0, 0, 0) := by decide +kernel
theorem gz_15_32 : mz_pg 15 32 = some (.ireturn, 0, 0, 0) := by decide +kernel
theorem gz_121_0 : mz_pg 121 0 = some (.iconst 0, 0, 0, 0) := by decide +kernel
theorem gz_121_1 : mz_pg 121 1 = some (.istore_n 3, 0, 0, 0) := by decide +kernel
theorem gz_121_2 : mz_pg 121 2 = some (.iconst 0, 0, 0, 0) := by decide +kernel
theorem gz_121_3 : mz_pg 121 3 = some (.istore 4, 0, 0, 0) := by decide +kernel
theorem gz_121_5 : mz_pg 121 5 = some (.iconst 0, 0, 0, 0) := by decide +kernel
theorem gz_121_6 : mz_pg 121 6 = some (.istore 5, 0, 0, 0) := by decide +kernel
theorem gz_121_8 : mz_pg 121 8 = some (.iload 5, 0, 0, 0) := by decide +kernel
theorem gz_121_10 : mz_pg 121 10 = some (.bipush 20, 0, 0, 0) := by decide +kernel
theorem gz_121_12 : mz_pg 121 12 = some (.if_icmp .ge 34, 0, 0, 0) := by decide +kernel
theorem gz_121_15 : mz_pg 121 15 = some (.aload_n 0, 0, 0, 0) := by decide +kernel
theorem gz_121_16 : mz_pg 121 16 = some (.iload_n 1, 0, 0, 0) := by decide +kernel
theorem gz_121_17 : mz_pg 121 17 = some (.iload 5, 0, 0, 0) := by decide +kernel
theorem gz_121_19 : mz_pg 121 19 = some (.invokevirtual 28, 1, 15, 1041) := by decide +kernel
theorem gz_121_22 : mz_pg 121 22 = some (.ifCond .eq 18, 0, 0, 0) := by decide +kernel
theorem gz_121_25 : mz_pg 121 25 = some (.iload_n 3, 0, 0, 0) := by decide +kernel
theorem gz_121_26 : mz_pg 121 26 = some (.iload_n 2, 0, 0, 0) := by decide +kernel
theorem gz_121_27 : mz_pg 121 27 = some (.iload 4, 0, 0, 0) := by decide +kernel
theorem gz_121_29 : mz_pg 121 29 = some (.ishr, 0, 0, 0) := by decide +kernel
theorem gz_121_30 : mz_pg 121 30 = some (.iconst 1, 0, 0, 0) := by decide +kernel
theorem gz_121_31 : mz_pg 121 31 = some (.iand, 0, 0, 0) := by decide +kernel
theorem gz_121_32 : mz_pg 121 32 = some (.iload 5, 0, 0, 0) := by decide +kernel
theorem gz_121_34 : mz_pg 121 34 = some (.ishl, 0, 0, 0) := by decide +kernel
theorem gz_121_35 : mz_pg 121 35 = some (.ior, 0, 0, 0) := by decide +kernel
theorem gz_121_36 : mz_pg 121 36 = some (.istore_n 3, 0, 0, 0) := by decide +kernel
theorem gz_121_37 : mz_pg 121 37 = some (.iinc 4 1, 0, 0, 0) := by decide +kernel
theorem gz_121_40 : mz_pg 121 40 = some (.iinc 5 1, 0, 0, 0) := by decide +kernel
theorem gz_121_43 : mz_pg 121 43 = some (.goto (-35), 0, 0, 0) := by decide +kernel
theorem gz_121_46 : mz_pg 121 46 = some (.iload_n 3, 0, 0, 0) := by decide +kernel
theorem gz_121_47 : mz_pg 121 47 = some (.ireturn, 0, 0, 0) := by decide +kernel
theorem gm_15 : my_mm 15 3 (some .boolean) 2 6 := by unfold my_mm; decide +kernel
theorem gm_121 : my_mm 121 6 (some .int) 2 6 := by unfold my_mm; decide +kernel
theorem c3_Rows_keysOf {l : Launch} {rho : Nat → Int32} {d : Nat} {h : my_H} {Q : my_H → my_V → Prop} {x0 x1 x2 : Int} (t0 : my_is 6 x0) (a1 : 0 ≤ x1) (b1 : x1 ≤ 2) (a2 : (-1) ≤ x2) (b2 : x2 ≤ 2147483646) (k0 : ∀ (y : Int), Q h (0, y)) : wp l rho (d + 1) 121 0 [(2, x0), (0, x1), (0, x2), (9, 0), (9, 0), (9, 0)] [] h Q := by
  have J8_0 : ∀ (n : Nat) (p8_0 p8_1 p8_2 : Int), 0 ≤ p8_1 → p8_1 ≤ 20 → 0 ≤ p8_2 → p8_2 ≤ 20 → p8_1 ≤ p8_2 → 21 - p8_2 ≤ (n : Int) → wp l rho (d + 1) 121 8 [(2, x0), (0, x1), (0, x2), (0, p8_0), (0, p8_1), (0, p8_2)] [] h Q := by
    intro n
    induction n with
    | zero => intro p8_0 p8_1 p8_2 q0_8_0 q1_8_0 q2_8_0 q3_8_0 q4_8_0 hm_8_0; exfalso; omega
    | succ n ih_8_0 =>
      intro p8_0 p8_1 p8_2 q0_8_0 q1_8_0 q2_8_0 q3_8_0 q4_8_0 hm_8_0
      have J40_0 : ∀ (p40_0 p40_1 : Int), 0 ≤ p40_1 → p40_1 ≤ 20 → p8_2 ≤ 19 → p8_1 ≤ 19 → p40_1 ≤ (p8_2 + 1) → p40_1 ≤ (p8_1 + 1) → p8_1 ≤ p40_1 → p8_1 ≤ p8_2 → wp l rho (d + 1) 121 40 [(2, x0), (0, x1), (0, x2), (0, p40_0), (0, p40_1), (0, p8_2)] [] h Q := by
        intro p40_0 p40_1 q0_40_0 q1_40_0 q2_40_0 q3_40_0 q4_40_0 q5_40_0 q6_40_0 q7_40_0
        refine w_iinc (ls' := [(2, x0), (0, x1), (0, x2), (0, p40_0), (0, p40_1), (0, (p8_2 + 1))]) gz_121_40 rfl gm_121 rfl rfl rfl ⟨by omega, by omega⟩ ?_
        refine w_goto (t := 8) gz_121_43 rfl ?_
        exact ih_8_0 (p40_0) (p40_1) ((p8_2 + 1)) (by omega) (by omega) (by omega) (by omega) (by omega) (by omega)
      refine w_iload gz_121_8 rfl ?_
      refine w_bipush gz_121_10 (by decide) ?_
      refine w_icge (t := 46) gz_121_12 rfl (fun u1 => ?_) (fun u1 => ?_)
      ·
        refine w_iload_n gz_121_46 rfl ?_
        exact w_iret gz_121_47 gm_121 (k0 (p8_0))
      ·
        refine w_aload_n gz_121_15 rfl ?_
        refine w_iload_n gz_121_16 rfl ?_
        refine w_iload gz_121_17 rfl ?_
        refine w_inv (k := 0) (as := [(0, p8_2), (0, x1)]) (r := []) (x := x0) (ls0 := [(2, x0), (0, x1), (0, p8_2)]) gz_121_19 gm_15 rfl t0 rd_6 rfl rfl rfl rfl rfl ?_
        refine w_iload_n gz_15_0 rfl ?_
        refine w_iflt (t := 31) gz_15_1 rfl (fun u2 => by exfalso; omega) (fun u2 => ?_)
        refine w_iload_n gz_15_4 rfl ?_
        refine w_bipush gz_15_5 (by decide) ?_
        refine w_icge (t := 31) gz_15_7 rfl (fun u3 => by exfalso; omega) (fun u3 => ?_)
        refine w_aload_n gz_15_10 rfl ?_
        refine w_getR gz_15_11 t0 rd_6 rfl (fun v4 ev4 tv4 => ?_)
        refine w_iload_n gz_15_14 rfl ?_
        refine w_bipush gz_15_15 (by decide) ?_
        refine w_imul gz_15_17 ⟨by omega, by omega⟩ ?_
        refine w_iload_n gz_15_18 rfl ?_
        refine w_iadd gz_15_19 ⟨by omega, by omega⟩ ?_
        refine w_iconst gz_15_20 (by decide) ?_
        refine w_imul gz_15_21 ⟨by omega, by omega⟩ ?_
        refine w_iald gz_15_22 tv4 rd_30 (by omega) (by omega) (fun v5 ev5 pv5 qv5 => ?_)
        refine w_iconst gz_15_23 (by decide) ?_
        refine w_iceq (t := 31) gz_15_24 rfl (fun u6 => ?_) (fun u6 => ?_)
        ·
          refine w_iconst gz_15_31 (by decide) ?_
          refine w_bret gz_15_32 gm_15 (by omega) (by omega) ?_
          show wp l rho (d + 1) 121 22 [(2, x0), (0, x1), (0, x2), (0, p8_0), (0, p8_1), (0, p8_2)] [(0, 0)] h Q
          refine w_ifeq (t := 40) gz_121_22 rfl (fun u7 => ?_) (fun u7 => by exfalso; omega)
          exact J40_0 (p8_0) (p8_1) (by omega) (by omega) (by omega) (by omega) (by omega) (by omega) (by omega) (by omega)
        ·
          refine w_iconst gz_15_27 (by decide) ?_
          refine w_goto (t := 32) gz_15_28 rfl ?_
          refine w_bret gz_15_32 gm_15 (by omega) (by omega) ?_
          show wp l rho (d + 1) 121 22 [(2, x0), (0, x1), (0, x2), (0, p8_0), (0, p8_1), (0, p8_2)] [(0, 1)] h Q
          refine w_ifeq (t := 40) gz_121_22 rfl (fun u8 => by exfalso; omega) (fun u8 => ?_)
          refine w_iload_n gz_121_25 rfl ?_
          refine w_iload_n gz_121_26 rfl ?_
          refine w_iload gz_121_27 rfl ?_
          refine w_ianyR gz_121_29 (fun v9 pv9 qv9 => ?_)
          refine w_iconst gz_121_30 (by decide) ?_
          refine w_iandM gz_121_31 (by decide) (fun v10 pv10 qv10 => ?_)
          refine w_iload gz_121_32 rfl ?_
          refine w_ianyL gz_121_34 (fun v11 pv11 qv11 => ?_)
          refine w_ianyO gz_121_35 (fun v12 pv12 qv12 => ?_)
          refine w_istore_n (ls' := [(2, x0), (0, x1), (0, x2), (0, v12), (0, p8_1), (0, p8_2)]) gz_121_36 gm_121 rfl rfl rfl ?_
          refine w_iinc (ls' := [(2, x0), (0, x1), (0, x2), (0, v12), (0, (p8_1 + 1)), (0, p8_2)]) gz_121_37 rfl gm_121 rfl rfl rfl ⟨by omega, by omega⟩ ?_
          exact J40_0 (v12) ((p8_1 + 1)) (by omega) (by omega) (by omega) (by omega) (by omega) (by omega) (by omega) (by omega)
  refine w_iconst gz_121_0 (by decide) ?_
  refine w_istore_n (ls' := [(2, x0), (0, x1), (0, x2), (0, 0), (9, 0), (9, 0)]) gz_121_1 gm_121 rfl rfl rfl ?_
  refine w_iconst gz_121_2 (by decide) ?_
  refine w_istore (ls' := [(2, x0), (0, x1), (0, x2), (0, 0), (0, 0), (9, 0)]) gz_121_3 gm_121 rfl rfl rfl ?_
  refine w_iconst gz_121_5 (by decide) ?_
  refine w_istore (ls' := [(2, x0), (0, x1), (0, x2), (0, 0), (0, 0), (0, 0)]) gz_121_6 gm_121 rfl rfl rfl ?_
  exact J8_0 21 (0) (0) (0) (by omega) (by omega) (by omega) (by omega) (by omega) (by omega)
theorem gz_17_0 : mz_pg 17 0 = some (.iload_n 0, 0, 0, 0) := by decide +kernel
theorem gz_17_1 : mz_pg 17 1 = some (.bipush 20, 0, 0, 0) := by decide +kernel
theorem gz_17_3 : mz_pg 17 3 = some (.imul, 0, 0, 0) := by decide +kernel
theorem gz_17_4 : mz_pg 17 4 = some (.iload_n 1, 0, 0, 0) := by decide +kernel
theorem gz_17_5 : mz_pg 17 5 = some (.iadd, 0, 0, 0) := by decide +kernel
theorem gz_17_6 : mz_pg 17 6 = some (.iconst 4, 0, 0, 0) := by decide +kernel
theorem gz_17_7 : mz_pg 17 7 = some (.imul, 0, 0, 0) := by decide +kernel
theorem gz_17_8 : mz_pg 17 8 = some (.ireturn, 0, 0, 0) := by decide +kernel
theorem gz_78_0 : mz_pg 78 0 = some (.iload_n 0, 0, 0, 0) := by decide +kernel
theorem gz_78_1 : mz_pg 78 1 = some (.ifCond .ne 16, 0, 0, 0) := by decide +kernel
theorem gz_78_4 : mz_pg 78 4 = some (.iload_n 1, 0, 0, 0) := by decide +kernel
theorem gz_78_5 : mz_pg 78 5 = some (.iload_n 2, 0, 0, 0) := by decide +kernel
theorem gz_78_6 : mz_pg 78 6 = some (.if_icmp .ge 7, 0, 0, 0) := by decide +kernel
theorem gz_78_9 : mz_pg 78 9 = some (.iconst 1, 0, 0, 0) := by decide +kernel
theorem gz_78_10 : mz_pg 78 10 = some (.goto 35, 0, 0, 0) := by decide +kernel
theorem gz_78_13 : mz_pg 78 13 = some (.iconst 0, 0, 0, 0) := by decide +kernel
theorem gz_78_14 : mz_pg 78 14 = some (.goto 31, 0, 0, 0) := by decide +kernel
theorem gz_78_17 : mz_pg 78 17 = some (.iload_n 0, 0, 0, 0) := by decide +kernel
theorem gz_78_18 : mz_pg 78 18 = some (.iconst 1, 0, 0, 0) := by decide +kernel
theorem gz_78_19 : mz_pg 78 19 = some (.if_icmp .ne 16, 0, 0, 0) := by decide +kernel
theorem gz_78_22 : mz_pg 78 22 = some (.iload_n 1, 0, 0, 0) := by decide +kernel
theorem gz_78_23 : mz_pg 78 23 = some (.iload_n 2, 0, 0, 0) := by decide +kernel
theorem gz_78_24 : mz_pg 78 24 = some (.if_icmp .ne 7, 0, 0, 0) := by decide +kernel
theorem gz_78_27 : mz_pg 78 27 = some (.iconst 1, 0, 0, 0) := by decide +kernel
theorem gz_78_28 : mz_pg 78 28 = some (.goto 17, 0, 0, 0) := by decide +kernel
theorem gz_78_31 : mz_pg 78 31 = some (.iconst 0, 0, 0, 0) := by decide +kernel
theorem gz_78_32 : mz_pg 78 32 = some (.goto 13, 0, 0, 0) := by decide +kernel
theorem gz_78_35 : mz_pg 78 35 = some (.iload_n 1, 0, 0, 0) := by decide +kernel
theorem gz_78_36 : mz_pg 78 36 = some (.iload_n 2, 0, 0, 0) := by decide +kernel
theorem gz_78_37 : mz_pg 78 37 = some (.if_icmp .le 7, 0, 0, 0) := by decide +kernel
theorem gz_78_40 : mz_pg 78 40 = some (.iconst 1, 0, 0, 0) := by decide +kernel
theorem gz_78_41 : mz_pg 78 41 = some (.goto 4, 0, 0, 0) := by decide +kernel
theorem gz_78_44 : mz_pg 78 44 = some (.iconst 0, 0, 0, 0) := by decide +kernel
theorem gz_78_45 : mz_pg 78 45 = some (.ireturn, 0, 0, 0) := by decide +kernel
theorem gz_125_0 : mz_pg 125 0 = some (.iconst 0, 0, 0, 0) := by decide +kernel
theorem gz_125_1 : mz_pg 125 1 = some (.istore 5, 0, 0, 0) := by decide +kernel
theorem gz_125_3 : mz_pg 125 3 = some (.iconst 0, 0, 0, 0) := by decide +kernel
theorem gz_125_4 : mz_pg 125 4 = some (.istore 6, 0, 0, 0) := by decide +kernel
theorem gz_125_6 : mz_pg 125 6 = some (.iload 6, 0, 0, 0) := by decide +kernel
theorem gz_125_8 : mz_pg 125 8 = some (.bipush 20, 0, 0, 0) := by decide +kernel
theorem gz_125_10 : mz_pg 125 10 = some (.if_icmp .ge 55, 0, 0, 0) := by decide +kernel
theorem gz_125_13 : mz_pg 125 13 = some (.iload_n 1, 0, 0, 0) := by decide +kernel
theorem gz_125_14 : mz_pg 125 14 = some (.iload 6, 0, 0, 0) := by decide +kernel
theorem gz_125_16 : mz_pg 125 16 = some (.invokestatic 52, 2, 17, 14) := by decide +kernel
theorem gz_125_19 : mz_pg 125 19 = some (.istore 7, 0, 0, 0) := by decide +kernel
theorem gz_125_21 : mz_pg 125 21 = some (.aload_n 0, 0, 0, 0) := by decide +kernel
theorem gz_125_22 : mz_pg 125 22 = some (.getfield 56, 6, 0, 177) := by decide +kernel
theorem gz_125_25 : mz_pg 125 25 = some (.iload 7, 0, 0, 0) := by decide +kernel
theorem gz_125_27 : mz_pg 125 27 = some (.iaload, 0, 0, 0) := by decide +kernel
theorem gz_125_28 : mz_pg 125 28 = some (.iconst (-1), 0, 0, 0) := by decide +kernel
theorem gz_125_29 : mz_pg 125 29 = some (.if_icmp .eq 30, 0, 0, 0) := by decide +kernel
theorem gz_125_32 : mz_pg 125 32 = some (.iload_n 3, 0, 0, 0) := by decide +kernel
theorem gz_125_33 : mz_pg 125 33 = some (.aload_n 0, 0, 0, 0) := by decide +kernel
theorem gz_125_34 : mz_pg 125 34 = some (.getfield 56, 6, 0, 177) := by decide +kernel
theorem gz_125_37 : mz_pg 125 37 = some (.iload 7, 0, 0, 0) := by decide +kernel
theorem gz_125_39 : mz_pg 125 39 = some (.iload_n 2, 0, 0, 0) := by decide +kernel
theorem gz_125_40 : mz_pg 125 40 = some (.iadd, 0, 0, 0) := by decide +kernel
theorem gz_125_41 : mz_pg 125 41 = some (.iaload, 0, 0, 0) := by decide +kernel
theorem gz_125_42 : mz_pg 125 42 = some (.iload 4, 0, 0, 0) := by decide +kernel
theorem gz_125_44 : mz_pg 125 44 = some (.invokestatic 61, 2, 78, 15) := by decide +kernel
theorem gz_125_47 : mz_pg 125 47 = some (.ifCond .eq 12, 0, 0, 0) := by decide +kernel
theorem gz_125_50 : mz_pg 125 50 = some (.iload 5, 0, 0, 0) := by decide +kernel
theorem gz_125_52 : mz_pg 125 52 = some (.iconst 1, 0, 0, 0) := by decide +kernel
theorem gz_125_53 : mz_pg 125 53 = some (.iload 6, 0, 0, 0) := by decide +kernel
theorem gz_125_55 : mz_pg 125 55 = some (.ishl, 0, 0, 0) := by decide +kernel
theorem gz_125_56 : mz_pg 125 56 = some (.ior, 0, 0, 0) := by decide +kernel
theorem gz_125_57 : mz_pg 125 57 = some (.istore 5, 0, 0, 0) := by decide +kernel
theorem gz_125_59 : mz_pg 125 59 = some (.iinc 6 1, 0, 0, 0) := by decide +kernel
theorem gz_125_62 : mz_pg 125 62 = some (.goto (-56), 0, 0, 0) := by decide +kernel
theorem gz_125_65 : mz_pg 125 65 = some (.iload 5, 0, 0, 0) := by decide +kernel
theorem gz_125_67 : mz_pg 125 67 = some (.ireturn, 0, 0, 0) := by decide +kernel
theorem gm_17 : my_mm 17 2 (some .int) 2 9 := by unfold my_mm; decide +kernel
theorem gm_78 : my_mm 78 3 (some .boolean) 3 9 := by unfold my_mm; decide +kernel
theorem gm_125 : my_mm 125 8 (some .int) 5 1 := by unfold my_mm; decide +kernel
theorem c4_Cutter_keysLeft {l : Launch} {rho : Nat → Int32} {d : Nat} {h : my_H} {Q : my_H → my_V → Prop} {x0 x1 x2 x3 x4 : Int} (t0 : my_is 6 x0) (a1 : 0 ≤ x1) (b1 : x1 ≤ 2) (a2 : 0 ≤ x2) (b2 : x2 ≤ 3) (a3 : 0 ≤ x3) (b3 : x3 ≤ 2) (a4 : 0 ≤ x4) (b4 : x4 ≤ 20) (k0 : x2 ≤ 0 → x3 ≤ 0 → x4 ≤ 0 → Q h (0, 0)) (k1 : ∀ (y : Int), Q h (0, y)) : wp l rho (d + 1) 125 0 [(2, x0), (0, x1), (0, x2), (0, x3), (0, x4), (9, 0), (9, 0), (9, 0)] [] h Q := by
  have J6_0 : ∀ (n : Nat) (p6_0 p6_1 p6_2 : Int), 0 ≤ p6_0 → p6_0 ≤ 2 → 0 ≤ p6_2 → p6_2 ≤ 20 → p6_0 ≤ x3 → x3 ≤ p6_0 → 21 - p6_2 ≤ (n : Int) → wp l rho (d + 1) 125 6 [(2, x0), (0, x1), (0, x2), (0, p6_0), (0, x4), (0, p6_1), (0, p6_2), (9, 0)] [] h Q := by
    intro n
    induction n with
    | zero => intro p6_0 p6_1 p6_2 q0_6_0 q1_6_0 q2_6_0 q3_6_0 q4_6_0 q5_6_0 hm_6_0; exfalso; omega
    | succ n ih_6_0 =>
      intro p6_0 p6_1 p6_2 q0_6_0 q1_6_0 q2_6_0 q3_6_0 q4_6_0 q5_6_0 hm_6_0
      have J59_0 : ∀ (p59_0 p59_1 p59_2 : Int), 0 ≤ p59_0 → p59_0 ≤ 2 → p6_2 ≤ 19 → 0 ≤ p59_2 → p59_2 ≤ 236 → p59_0 ≤ p6_0 → p59_0 ≤ x3 → p6_0 ≤ p59_0 → p6_0 ≤ x3 → x3 ≤ p59_0 → x3 ≤ p6_0 → wp l rho (d + 1) 125 59 [(2, x0), (0, x1), (0, x2), (0, p59_0), (0, x4), (0, p59_1), (0, p6_2), (0, p59_2)] [] h Q := by
        intro p59_0 p59_1 p59_2 q0_59_0 q1_59_0 q2_59_0 q3_59_0 q4_59_0 q5_59_0 q6_59_0 q7_59_0 q8_59_0 q9_59_0 q10_59_0
        refine w_iinc (ls' := [(2, x0), (0, x1), (0, x2), (0, p59_0), (0, x4), (0, p59_1), (0, (p6_2 + 1)), (0, p59_2)]) gz_125_59 rfl gm_125 rfl rfl rfl ⟨by omega, by omega⟩ ?_
        refine w_goto (t := 6) gz_125_62 rfl ?_
        refine w_weak (ls' := [(2, x0), (0, x1), (0, x2), (0, p59_0), (0, x4), (0, p59_1), (0, (p6_2 + 1)), (9, 0)]) (wk_e (wk_e (wk_e (wk_e (wk_e (wk_e (wk_e (wk_9 wk_n)))))))) ?_
        exact ih_6_0 (p59_0) (p59_1) ((p6_2 + 1)) (by omega) (by omega) (by omega) (by omega) (by omega) (by omega) (by omega)
      refine w_iload gz_125_6 rfl ?_
      refine w_bipush gz_125_8 (by decide) ?_
      refine w_icge (t := 65) gz_125_10 rfl (fun u1 => ?_) (fun u1 => ?_)
      ·
        refine w_iload gz_125_65 rfl ?_
        exact w_iret gz_125_67 gm_125 (k1 (p6_1))
      ·
        refine w_iload_n gz_125_13 rfl ?_
        refine w_iload gz_125_14 rfl ?_
        refine w_inS (k := 0) (as := [(0, p6_2), (0, x1)]) (r := []) (ls0 := [(0, x1), (0, p6_2)]) gz_125_16 gm_17 rfl rfl rfl rfl rfl rfl ?_
        refine w_iload_n gz_17_0 rfl ?_
        refine w_bipush gz_17_1 (by decide) ?_
        refine w_imul gz_17_3 ⟨by omega, by omega⟩ ?_
        refine w_iload_n gz_17_4 rfl ?_
        refine w_iadd gz_17_5 ⟨by omega, by omega⟩ ?_
        refine w_iconst gz_17_6 (by decide) ?_
        refine w_imul gz_17_7 ⟨by omega, by omega⟩ ?_
        refine w_iret gz_17_8 gm_17 ?_
        show wp l rho (d + 1) 125 19 [(2, x0), (0, x1), (0, x2), (0, p6_0), (0, x4), (0, p6_1), (0, p6_2), (9, 0)] [(0, (((x1 * 20) + p6_2) * 4))] h Q
        refine w_istore (ls' := [(2, x0), (0, x1), (0, x2), (0, p6_0), (0, x4), (0, p6_1), (0, p6_2), (0, (((x1 * 20) + p6_2) * 4))]) gz_125_19 gm_125 rfl rfl rfl ?_
        refine w_aload_n gz_125_21 rfl ?_
        refine w_getR gz_125_22 t0 rd_6 rfl (fun v2 ev2 tv2 => ?_)
        refine w_iload gz_125_25 rfl ?_
        refine w_iald gz_125_27 tv2 rd_30 (by omega) (by omega) (fun v3 ev3 pv3 qv3 => ?_)
        refine w_iconst gz_125_28 (by decide) ?_
        refine w_iceq (t := 59) gz_125_29 rfl (fun u4 => ?_) (fun u4 => ?_)
        ·
          exact J59_0 (p6_0) (p6_1) ((((x1 * 20) + p6_2) * 4)) (by omega) (by omega) (by omega) (by omega) (by omega) (by omega) (by omega) (by omega) (by omega) (by omega) (by omega)
        ·
          refine w_iload_n gz_125_32 rfl ?_
          refine w_aload_n gz_125_33 rfl ?_
          refine w_getR gz_125_34 t0 rd_6 rfl (fun v5 ev5 tv5 => ?_)
          have zv5 : v2 = v5 := (ev5.trans ev2.symm).symm
          subst zv5
          refine w_iload gz_125_37 rfl ?_
          refine w_iload_n gz_125_39 rfl ?_
          refine w_iadd gz_125_40 ⟨by omega, by omega⟩ ?_
          refine w_iald gz_125_41 tv2 rd_30 (by omega) (by omega) (fun v6 ev6 pv6 qv6 => ?_)
          refine w_iload gz_125_42 rfl ?_
          refine w_inS (k := 0) (as := [(0, x4), (0, v6), (0, p6_0)]) (r := []) (ls0 := [(0, p6_0), (0, v6), (0, x4)]) gz_125_44 gm_78 rfl rfl rfl rfl rfl rfl ?_
          refine w_iload_n gz_78_0 rfl ?_
          refine w_ifne (t := 17) gz_78_1 rfl (fun u7 => ?_) (fun u7 => ?_)
          ·
            refine w_iload_n gz_78_17 rfl ?_
            refine w_iconst gz_78_18 (by decide) ?_
            refine w_icne (t := 35) gz_78_19 rfl (fun u8 => ?_) (fun u8 => ?_)
            ·
              refine w_iload_n gz_78_35 rfl ?_
              refine w_iload_n gz_78_36 rfl ?_
              refine w_icle (t := 44) gz_78_37 rfl (fun u9 => ?_) (fun u9 => ?_)
              ·
                refine w_iconst gz_78_44 (by decide) ?_
                refine w_bret gz_78_45 gm_78 (by omega) (by omega) ?_
                show wp l rho (d + 1) 125 47 [(2, x0), (0, x1), (0, x2), (0, p6_0), (0, x4), (0, p6_1), (0, p6_2), (0, (((x1 * 20) + p6_2) * 4))] [(0, 0)] h Q
                refine w_ifeq (t := 59) gz_125_47 rfl (fun u10 => ?_) (fun u10 => by exfalso; omega)
                exact J59_0 (p6_0) (p6_1) ((((x1 * 20) + p6_2) * 4)) (by omega) (by omega) (by omega) (by omega) (by omega) (by omega) (by omega) (by omega) (by omega) (by omega) (by omega)
              ·
                refine w_iconst gz_78_40 (by decide) ?_
                refine w_goto (t := 45) gz_78_41 rfl ?_
                refine w_bret gz_78_45 gm_78 (by omega) (by omega) ?_
                show wp l rho (d + 1) 125 47 [(2, x0), (0, x1), (0, x2), (0, p6_0), (0, x4), (0, p6_1), (0, p6_2), (0, (((x1 * 20) + p6_2) * 4))] [(0, 1)] h Q
                refine w_ifeq (t := 59) gz_125_47 rfl (fun u11 => by exfalso; omega) (fun u11 => ?_)
                refine w_iload gz_125_50 rfl ?_
                refine w_iconst gz_125_52 (by decide) ?_
                refine w_iload gz_125_53 rfl ?_
                refine w_ianyL gz_125_55 (fun v12 pv12 qv12 => ?_)
                refine w_ianyO gz_125_56 (fun v13 pv13 qv13 => ?_)
                refine w_istore (ls' := [(2, x0), (0, x1), (0, x2), (0, p6_0), (0, x4), (0, v13), (0, p6_2), (0, (((x1 * 20) + p6_2) * 4))]) gz_125_57 gm_125 rfl rfl rfl ?_
                exact J59_0 (p6_0) (v13) ((((x1 * 20) + p6_2) * 4)) (by omega) (by omega) (by omega) (by omega) (by omega) (by omega) (by omega) (by omega) (by omega) (by omega) (by omega)
            ·
              refine w_iload_n gz_78_22 rfl ?_
              refine w_iload_n gz_78_23 rfl ?_
              refine w_icne (t := 31) gz_78_24 rfl (fun u14 => ?_) (fun u14 => ?_)
              ·
                refine w_iconst gz_78_31 (by decide) ?_
                refine w_goto (t := 45) gz_78_32 rfl ?_
                refine w_bret gz_78_45 gm_78 (by omega) (by omega) ?_
                show wp l rho (d + 1) 125 47 [(2, x0), (0, x1), (0, x2), (0, p6_0), (0, x4), (0, p6_1), (0, p6_2), (0, (((x1 * 20) + p6_2) * 4))] [(0, 0)] h Q
                refine w_ifeq (t := 59) gz_125_47 rfl (fun u15 => ?_) (fun u15 => by exfalso; omega)
                exact J59_0 (p6_0) (p6_1) ((((x1 * 20) + p6_2) * 4)) (by omega) (by omega) (by omega) (by omega) (by omega) (by omega) (by omega) (by omega) (by omega) (by omega) (by omega)
              ·
                refine w_iconst gz_78_27 (by decide) ?_
                refine w_goto (t := 45) gz_78_28 rfl ?_
                refine w_bret gz_78_45 gm_78 (by omega) (by omega) ?_
                show wp l rho (d + 1) 125 47 [(2, x0), (0, x1), (0, x2), (0, p6_0), (0, x4), (0, p6_1), (0, p6_2), (0, (((x1 * 20) + p6_2) * 4))] [(0, 1)] h Q
                refine w_ifeq (t := 59) gz_125_47 rfl (fun u16 => by exfalso; omega) (fun u16 => ?_)
                refine w_iload gz_125_50 rfl ?_
                refine w_iconst gz_125_52 (by decide) ?_
                refine w_iload gz_125_53 rfl ?_
                refine w_ianyL gz_125_55 (fun v17 pv17 qv17 => ?_)
                refine w_ianyO gz_125_56 (fun v18 pv18 qv18 => ?_)
                refine w_istore (ls' := [(2, x0), (0, x1), (0, x2), (0, p6_0), (0, x4), (0, v18), (0, p6_2), (0, (((x1 * 20) + p6_2) * 4))]) gz_125_57 gm_125 rfl rfl rfl ?_
                exact J59_0 (p6_0) (v18) ((((x1 * 20) + p6_2) * 4)) (by omega) (by omega) (by omega) (by omega) (by omega) (by omega) (by omega) (by omega) (by omega) (by omega) (by omega)
          ·
            refine w_iload_n gz_78_4 rfl ?_
            refine w_iload_n gz_78_5 rfl ?_
            refine w_icge (t := 13) gz_78_6 rfl (fun u19 => ?_) (fun u19 => ?_)
            ·
              refine w_iconst gz_78_13 (by decide) ?_
              refine w_goto (t := 45) gz_78_14 rfl ?_
              refine w_bret gz_78_45 gm_78 (by omega) (by omega) ?_
              show wp l rho (d + 1) 125 47 [(2, x0), (0, x1), (0, x2), (0, p6_0), (0, x4), (0, p6_1), (0, p6_2), (0, (((x1 * 20) + p6_2) * 4))] [(0, 0)] h Q
              refine w_ifeq (t := 59) gz_125_47 rfl (fun u20 => ?_) (fun u20 => by exfalso; omega)
              exact J59_0 (p6_0) (p6_1) ((((x1 * 20) + p6_2) * 4)) (by omega) (by omega) (by omega) (by omega) (by omega) (by omega) (by omega) (by omega) (by omega) (by omega) (by omega)
            ·
              refine w_iconst gz_78_9 (by decide) ?_
              refine w_goto (t := 45) gz_78_10 rfl ?_
              refine w_bret gz_78_45 gm_78 (by omega) (by omega) ?_
              show wp l rho (d + 1) 125 47 [(2, x0), (0, x1), (0, x2), (0, p6_0), (0, x4), (0, p6_1), (0, p6_2), (0, (((x1 * 20) + p6_2) * 4))] [(0, 1)] h Q
              refine w_ifeq (t := 59) gz_125_47 rfl (fun u21 => by exfalso; omega) (fun u21 => ?_)
              refine w_iload gz_125_50 rfl ?_
              refine w_iconst gz_125_52 (by decide) ?_
              refine w_iload gz_125_53 rfl ?_
              refine w_ianyL gz_125_55 (fun v22 pv22 qv22 => ?_)
              refine w_ianyO gz_125_56 (fun v23 pv23 qv23 => ?_)
              refine w_istore (ls' := [(2, x0), (0, x1), (0, x2), (0, p6_0), (0, x4), (0, v23), (0, p6_2), (0, (((x1 * 20) + p6_2) * 4))]) gz_125_57 gm_125 rfl rfl rfl ?_
              exact J59_0 (p6_0) (v23) ((((x1 * 20) + p6_2) * 4)) (by omega) (by omega) (by omega) (by omega) (by omega) (by omega) (by omega) (by omega) (by omega) (by omega) (by omega)
  refine w_iconst gz_125_0 (by decide) ?_
  refine w_istore (ls' := [(2, x0), (0, x1), (0, x2), (0, x3), (0, x4), (0, 0), (9, 0), (9, 0)]) gz_125_1 gm_125 rfl rfl rfl ?_
  refine w_iconst gz_125_3 (by decide) ?_
  refine w_istore (ls' := [(2, x0), (0, x1), (0, x2), (0, x3), (0, x4), (0, 0), (0, 0), (9, 0)]) gz_125_4 gm_125 rfl rfl rfl ?_
  exact J6_0 21 (x3) (0) (0) (by omega) (by omega) (by omega) (by omega) (by omega) (by omega) (by omega)
theorem gz_66_0 : mz_pg 66 0 = some (.iload_n 1, 0, 0, 0) := by decide +kernel
theorem gz_66_1 : mz_pg 66 1 = some (.ifCond .lt 25, 0, 0, 0) := by decide +kernel
theorem gz_66_4 : mz_pg 66 4 = some (.iload_n 1, 0, 0, 0) := by decide +kernel
theorem gz_66_5 : mz_pg 66 5 = some (.bipush 6, 0, 0, 0) := by decide +kernel
theorem gz_66_7 : mz_pg 66 7 = some (.if_icmp .ge 19, 0, 0, 0) := by decide +kernel
theorem gz_66_10 : mz_pg 66 10 = some (.aload_n 0, 0, 0, 0) := by decide +kernel
theorem gz_66_11 : mz_pg 66 11 = some (.getfield 52, 2, 1, 391) := by decide +kernel
theorem gz_66_14 : mz_pg 66 14 = some (.iload_n 1, 0, 0, 0) := by decide +kernel
theorem gz_66_15 : mz_pg 66 15 = some (.aaload, 0, 0, 0) := by decide +kernel
theorem gz_66_16 : mz_pg 66 16 = some (.getfield 59, 4, 0, 195) := by decide +kernel
theorem gz_66_19 : mz_pg 66 19 = some (.ifCond .eq 7, 0, 0, 0) := by decide +kernel
theorem gz_66_22 : mz_pg 66 22 = some (.iconst 1, 0, 0, 0) := by decide +kernel
theorem gz_66_23 : mz_pg 66 23 = some (.goto 4, 0, 0, 0) := by decide +kernel
theorem gz_66_26 : mz_pg 66 26 = some (.iconst 0, 0, 0, 0) := by decide +kernel
theorem gz_66_27 : mz_pg 66 27 = some (.ireturn, 0, 0, 0) := by decide +kernel
theorem gz_127_0 : mz_pg 127 0 = some (.iload_n 1, 0, 0, 0) := by decide +kernel
theorem gz_127_1 : mz_pg 127 1 = some (.ifCond .lt 8, 0, 0, 0) := by decide +kernel
theorem gz_127_4 : mz_pg 127 4 = some (.iload_n 1, 0, 0, 0) := by decide +kernel
theorem gz_127_5 : mz_pg 127 5 = some (.iconst 3, 0, 0, 0) := by decide +kernel
theorem gz_127_6 : mz_pg 127 6 = some (.if_icmp .lt 5, 0, 0, 0) := by decide +kernel
theorem gz_127_9 : mz_pg 127 9 = some (.iconst 0, 0, 0, 0) := by decide +kernel
theorem gz_127_10 : mz_pg 127 10 = some (.ireturn, 0, 0, 0) := by decide +kernel
theorem gz_127_11 : mz_pg 127 11 = some (.iload_n 2, 0, 0, 0) := by decide +kernel
theorem gz_127_12 : mz_pg 127 12 = some (.iconst (-1), 0, 0, 0) := by decide +kernel
theorem gz_127_13 : mz_pg 127 13 = some (.if_icmp .ne 15, 0, 0, 0) := by decide +kernel
theorem gz_127_16 : mz_pg 127 16 = some (.aload_n 0, 0, 0, 0) := by decide +kernel
theorem gz_127_17 : mz_pg 127 17 = some (.getfield 75, 9, 11, 539) := by decide +kernel
theorem gz_127_20 : mz_pg 127 20 = some (.getfield 263, 0, 0, 490) := by decide +kernel
theorem gz_127_23 : mz_pg 127 23 = some (.iload_n 1, 0, 0, 0) := by decide +kernel
theorem gz_127_24 : mz_pg 127 24 = some (.iconst (-1), 0, 0, 0) := by decide +kernel
theorem gz_127_25 : mz_pg 127 25 = some (.iastore, 0, 0, 0) := by decide +kernel
theorem gz_127_26 : mz_pg 127 26 = some (.iconst 1, 0, 0, 0) := by decide +kernel
theorem gz_127_27 : mz_pg 127 27 = some (.ireturn, 0, 0, 0) := by decide +kernel
theorem gz_127_28 : mz_pg 127 28 = some (.aload_n 0, 0, 0, 0) := by decide +kernel
theorem gz_127_29 : mz_pg 127 29 = some (.getfield 59, 9, 9, 537) := by decide +kernel
theorem gz_127_32 : mz_pg 127 32 = some (.iload_n 2, 0, 0, 0) := by decide +kernel
theorem gz_127_33 : mz_pg 127 33 = some (.invokevirtual 266, 1, 66, 1068) := by decide +kernel
theorem gz_127_36 : mz_pg 127 36 = some (.ifCond .eq 26, 0, 0, 0) := by decide +kernel
theorem gz_127_39 : mz_pg 127 39 = some (.iload_n 3, 0, 0, 0) := by decide +kernel
theorem gz_127_40 : mz_pg 127 40 = some (.ifCond .lt 22, 0, 0, 0) := by decide +kernel
theorem gz_127_43 : mz_pg 127 43 = some (.iload_n 3, 0, 0, 0) := by decide +kernel
theorem gz_127_44 : mz_pg 127 44 = some (.bipush 80, 0, 0, 0) := by decide +kernel
theorem gz_127_46 : mz_pg 127 46 = some (.if_icmp .ge 16, 0, 0, 0) := by decide +kernel
theorem gz_127_49 : mz_pg 127 49 = some (.iload 4, 0, 0, 0) := by decide +kernel
theorem gz_127_51 : mz_pg 127 51 = some (.ifCond .lt 11, 0, 0, 0) := by decide +kernel
theorem gz_127_54 : mz_pg 127 54 = some (.iload 4, 0, 0, 0) := by decide +kernel
theorem gz_127_56 : mz_pg 127 56 = some (.sipush 200, 0, 0, 0) := by decide +kernel
theorem gz_127_59 : mz_pg 127 59 = some (.if_icmp .lt 5, 0, 0, 0) := by decide +kernel
theorem gz_127_62 : mz_pg 127 62 = some (.iconst 0, 0, 0, 0) := by decide +kernel
theorem gz_127_63 : mz_pg 127 63 = some (.ireturn, 0, 0, 0) := by decide +kernel
theorem gz_127_64 : mz_pg 127 64 = some (.aload_n 0, 0, 0, 0) := by decide +kernel
theorem gz_127_65 : mz_pg 127 65 = some (.getfield 75, 9, 11, 539) := by decide +kernel
theorem gz_127_68 : mz_pg 127 68 = some (.getfield 263, 0, 0, 490) := by decide +kernel
theorem gz_127_71 : mz_pg 127 71 = some (.iload_n 1, 0, 0, 0) := by decide +kernel
theorem gz_127_72 : mz_pg 127 72 = some (.iload_n 2, 0, 0, 0) := by decide +kernel
theorem gz_127_73 : mz_pg 127 73 = some (.iastore, 0, 0, 0) := by decide +kernel
theorem gz_127_74 : mz_pg 127 74 = some (.aload_n 0, 0, 0, 0) := by decide +kernel
theorem gz_127_75 : mz_pg 127 75 = some (.getfield 75, 9, 11, 539) := by decide +kernel
theorem gz_127_78 : mz_pg 127 78 = some (.getfield 269, 0, 1, 492) := by decide +kernel
theorem gz_127_81 : mz_pg 127 81 = some (.iload_n 1, 0, 0, 0) := by decide +kernel
theorem gz_127_82 : mz_pg 127 82 = some (.iload_n 3, 0, 0, 0) := by decide +kernel
theorem gz_127_83 : mz_pg 127 83 = some (.iastore, 0, 0, 0) := by decide +kernel
theorem gz_127_84 : mz_pg 127 84 = some (.aload_n 0, 0, 0, 0) := by decide +kernel
theorem gz_127_85 : mz_pg 127 85 = some (.getfield 75, 9, 11, 539) := by decide +kernel
theorem gz_127_88 : mz_pg 127 88 = some (.getfield 272, 0, 2, 494) := by decide +kernel
theorem gz_127_91 : mz_pg 127 91 = some (.iload_n 1, 0, 0, 0) := by decide +kernel
theorem gz_127_92 : mz_pg 127 92 = some (.iload 4, 0, 0, 0) := by decide +kernel
theorem gz_127_94 : mz_pg 127 94 = some (.iastore, 0, 0, 0) := by decide +kernel
theorem gz_127_95 : mz_pg 127 95 = some (.iconst 1, 0, 0, 0) := by decide +kernel
theorem gz_127_96 : mz_pg 127 96 = some (.ireturn, 0, 0, 0) := by decide +kernel
theorem gm_66 : my_mm 66 2 (some .boolean) 1 2 := by unfold my_mm; decide +kernel
theorem gm_127 : my_mm 127 5 (some .boolean) 4 9 := by unfold my_mm; decide +kernel
theorem rd_0 : my_rd 0 = .inr (0, [(2, 46, 0), (2, 47, 0), (2, 48, 0), (2, 49, 0), (0, 0, 3), (2, 50, 0), (0, 0, 6), (0, 0, 6), (0, -2147483648, 2147483647), (0, -2147483648, 2147483647)]) := rfl
theorem rd_2 : my_rd 2 = .inr (2, [(2, 3, 0), (2, 22, 0), (2, 23, 0), (2, 6, 0), (2, 8, 0), (2, 8, 0), (2, 8, 0), (2, 41, 0), (2, 7, 0), (2, 7, 0), (2, 7, 0), (0, -2147483648, 2147483647), (0, -2147483648, 2147483647), (0, 0, 1), (0, 0, 1), (0, 0, 2), (0, -2147483648, 2147483647)]) := rfl
theorem rd_22 : my_rd 22 = .inl (5, 6, [(2, 4, 0)]) := rfl
theorem rd_46 : my_rd 46 = .inl (0, 3, [(0, -1, 5)]) := rfl
theorem rd_47 : my_rd 47 = .inl (0, 3, [(0, 0, 79)]) := rfl
theorem rd_48 : my_rd 48 = .inl (0, 3, [(0, 0, 199)]) := rfl
theorem c5_ThroughWindow_clerk {l : Launch} {rho : Nat → Int32} {d : Nat} {h : my_H} {Q : my_H → my_V → Prop} {x0 x1 x2 x3 x4 : Int} (t0 : my_is 9 x0) (k0 : ∀ (h' : my_H), my_fr [(46, -1), (47, -1), (48, -1)] h h' → Q h' (0, 0)) (k1 : ∀ (h' : my_H), my_fr [(46, -1), (47, -1), (48, -1)] h h' → 0 ≤ x1 → x1 ≤ 2 → (-1) ≤ x2 → x2 ≤ 5 → Q h' (0, 1)) : wp l rho (d + 1) 127 0 [(2, x0), (0, x1), (0, x2), (0, x3), (0, x4)] [] h Q := by
  refine w_iload_n gz_127_0 rfl ?_
  refine w_iflt (t := 9) gz_127_1 rfl (fun u1 => ?_) (fun u1 => ?_)
  ·
    refine w_iconst gz_127_9 (by decide) ?_
    exact w_bret gz_127_10 gm_127 (by omega) (by omega) (k0 h (my_fr.rf))
  ·
    refine w_iload_n gz_127_4 rfl ?_
    refine w_iconst gz_127_5 (by decide) ?_
    refine w_iclt (t := 11) gz_127_6 rfl (fun u2 => ?_) (fun u2 => ?_)
    ·
      refine w_iload_n gz_127_11 rfl ?_
      refine w_iconst gz_127_12 (by decide) ?_
      refine w_icne (t := 28) gz_127_13 rfl (fun u3 => ?_) (fun u3 => ?_)
      ·
        refine w_aload_n gz_127_28 rfl ?_
        refine w_getR gz_127_29 t0 rd_9 rfl (fun v4 ev4 tv4 => ?_)
        refine w_iload_n gz_127_32 rfl ?_
        refine w_inv (k := 0) (as := [(0, x2)]) (r := []) (x := v4) (ls0 := [(2, v4), (0, x2)]) gz_127_33 gm_66 rfl tv4 rd_2 rfl rfl rfl rfl rfl ?_
        refine w_iload_n gz_66_0 rfl ?_
        refine w_iflt (t := 26) gz_66_1 rfl (fun u5 => ?_) (fun u5 => ?_)
        ·
          refine w_iconst gz_66_26 (by decide) ?_
          refine w_bret gz_66_27 gm_66 (by omega) (by omega) ?_
          show wp l rho (d + 1) 127 36 [(2, x0), (0, x1), (0, x2), (0, x3), (0, x4)] [(0, 0)] h Q
          refine w_ifeq (t := 62) gz_127_36 rfl (fun u6 => ?_) (fun u6 => by exfalso; omega)
          refine w_iconst gz_127_62 (by decide) ?_
          exact w_bret gz_127_63 gm_127 (by omega) (by omega) (k0 h (my_fr.rf))
        ·
          refine w_iload_n gz_66_4 rfl ?_
          refine w_bipush gz_66_5 (by decide) ?_
          refine w_icge (t := 26) gz_66_7 rfl (fun u7 => ?_) (fun u7 => ?_)
          ·
            refine w_iconst gz_66_26 (by decide) ?_
            refine w_bret gz_66_27 gm_66 (by omega) (by omega) ?_
            show wp l rho (d + 1) 127 36 [(2, x0), (0, x1), (0, x2), (0, x3), (0, x4)] [(0, 0)] h Q
            refine w_ifeq (t := 62) gz_127_36 rfl (fun u8 => ?_) (fun u8 => by exfalso; omega)
            refine w_iconst gz_127_62 (by decide) ?_
            exact w_bret gz_127_63 gm_127 (by omega) (by omega) (k0 h (my_fr.rf))
          ·
            refine w_aload_n gz_66_10 rfl ?_
            refine w_getR gz_66_11 tv4 rd_2 rfl (fun v9 ev9 tv9 => ?_)
            refine w_iload_n gz_66_14 rfl ?_
            refine w_aald gz_66_15 tv9 rd_22 rfl (by omega) (by omega) (fun v10 ev10 tv10 => ?_)
            refine w_getI gz_66_16 tv10 rd_4 rfl (fun v11 ev11 pv11 qv11 => ?_)
            refine w_ifeq (t := 26) gz_66_19 rfl (fun u12 => ?_) (fun u12 => ?_)
            ·
              refine w_iconst gz_66_26 (by decide) ?_
              refine w_bret gz_66_27 gm_66 (by omega) (by omega) ?_
              show wp l rho (d + 1) 127 36 [(2, x0), (0, x1), (0, x2), (0, x3), (0, x4)] [(0, 0)] h Q
              refine w_ifeq (t := 62) gz_127_36 rfl (fun u13 => ?_) (fun u13 => by exfalso; omega)
              refine w_iconst gz_127_62 (by decide) ?_
              exact w_bret gz_127_63 gm_127 (by omega) (by omega) (k0 h (my_fr.rf))
            ·
              refine w_iconst gz_66_22 (by decide) ?_
              refine w_goto (t := 27) gz_66_23 rfl ?_
              refine w_bret gz_66_27 gm_66 (by omega) (by omega) ?_
              show wp l rho (d + 1) 127 36 [(2, x0), (0, x1), (0, x2), (0, x3), (0, x4)] [(0, 1)] h Q
              refine w_ifeq (t := 62) gz_127_36 rfl (fun u14 => by exfalso; omega) (fun u14 => ?_)
              refine w_iload_n gz_127_39 rfl ?_
              refine w_iflt (t := 62) gz_127_40 rfl (fun u15 => ?_) (fun u15 => ?_)
              ·
                refine w_iconst gz_127_62 (by decide) ?_
                exact w_bret gz_127_63 gm_127 (by omega) (by omega) (k0 h (my_fr.rf))
              ·
                refine w_iload_n gz_127_43 rfl ?_
                refine w_bipush gz_127_44 (by decide) ?_
                refine w_icge (t := 62) gz_127_46 rfl (fun u16 => ?_) (fun u16 => ?_)
                ·
                  refine w_iconst gz_127_62 (by decide) ?_
                  exact w_bret gz_127_63 gm_127 (by omega) (by omega) (k0 h (my_fr.rf))
                ·
                  refine w_iload gz_127_49 rfl ?_
                  refine w_iflt (t := 62) gz_127_51 rfl (fun u17 => ?_) (fun u17 => ?_)
                  ·
                    refine w_iconst gz_127_62 (by decide) ?_
                    exact w_bret gz_127_63 gm_127 (by omega) (by omega) (k0 h (my_fr.rf))
                  ·
                    refine w_iload gz_127_54 rfl ?_
                    refine w_sipush gz_127_56 (by decide) ?_
                    refine w_iclt (t := 64) gz_127_59 rfl (fun u18 => ?_) (fun u18 => ?_)
                    ·
                      refine w_aload_n gz_127_64 rfl ?_
                      refine w_getR gz_127_65 t0 rd_9 rfl (fun v19 ev19 tv19 => ?_)
                      refine w_getR gz_127_68 tv19 rd_0 rfl (fun v20 ev20 tv20 => ?_)
                      refine w_iload_n gz_127_71 rfl ?_
                      refine w_iload_n gz_127_72 rfl ?_
                      refine w_iast gz_127_73 tv20 rd_46 (by omega) (by omega) (by omega) (by omega) (fun h21 fh21 => ?_)
                      have gh21 : my_fr [(46, -1), (47, -1), (48, -1)] h h21 := my_fr.up my_fr.rf tv20 fh21 rfl
                      refine w_aload_n gz_127_74 rfl ?_
                      refine w_getR gz_127_75 t0 rd_9 rfl (fun v22 ev22 tv22 => ?_)
                      have zv22 : v19 = v22 := (ev22.trans ((my_up_role fh21 t0 tv20 rfl).trans ev19.symm)).symm
                      subst zv22
                      refine w_getR gz_127_78 tv19 rd_0 rfl (fun v23 ev23 tv23 => ?_)
                      refine w_iload_n gz_127_81 rfl ?_
                      refine w_iload_n gz_127_82 rfl ?_
                      refine w_iast gz_127_83 tv23 rd_47 (by omega) (by omega) (by omega) (by omega) (fun h24 fh24 => ?_)
                      have gh24 : my_fr [(46, -1), (47, -1), (48, -1)] h h24 := my_fr.up gh21 tv23 fh24 rfl
                      refine w_aload_n gz_127_84 rfl ?_
                      refine w_getR gz_127_85 t0 rd_9 rfl (fun v25 ev25 tv25 => ?_)
                      have zv25 : v19 = v25 := (ev25.trans ((my_up_role fh24 t0 tv23 rfl).trans ((my_up_role fh21 t0 tv20 rfl).trans ev19.symm))).symm
                      subst zv25
                      refine w_getR gz_127_88 tv19 rd_0 rfl (fun v26 ev26 tv26 => ?_)
                      refine w_iload_n gz_127_91 rfl ?_
                      refine w_iload gz_127_92 rfl ?_
                      refine w_iast gz_127_94 tv26 rd_48 (by omega) (by omega) (by omega) (by omega) (fun h27 fh27 => ?_)
                      have gh27 : my_fr [(46, -1), (47, -1), (48, -1)] h h27 := my_fr.up gh24 tv26 fh27 rfl
                      refine w_iconst gz_127_95 (by decide) ?_
                      exact w_bret gz_127_96 gm_127 (by omega) (by omega) (k1 h27 (gh27) (by omega) (by omega) (by omega) (by omega))
                    ·
                      refine w_iconst gz_127_62 (by decide) ?_
                      exact w_bret gz_127_63 gm_127 (by omega) (by omega) (k0 h (my_fr.rf))
      ·
        refine w_aload_n gz_127_16 rfl ?_
        refine w_getR gz_127_17 t0 rd_9 rfl (fun v28 ev28 tv28 => ?_)
        refine w_getR gz_127_20 tv28 rd_0 rfl (fun v29 ev29 tv29 => ?_)
        refine w_iload_n gz_127_23 rfl ?_
        refine w_iconst gz_127_24 (by decide) ?_
        refine w_iast gz_127_25 tv29 rd_46 (by omega) (by omega) (by omega) (by omega) (fun h30 fh30 => ?_)
        have gh30 : my_fr [(46, -1), (47, -1), (48, -1)] h h30 := my_fr.up my_fr.rf tv29 fh30 rfl
        refine w_iconst gz_127_26 (by decide) ?_
        exact w_bret gz_127_27 gm_127 (by omega) (by omega) (k1 h30 (gh30) (by omega) (by omega) (by omega) (by omega))
    ·
      refine w_iconst gz_127_9 (by decide) ?_
      exact w_bret gz_127_10 gm_127 (by omega) (by omega) (k0 h (my_fr.rf))
theorem gz_129_0 : mz_pg 129 0 = some (.aload_n 0, 0, 0, 0) := by decide +kernel
theorem gz_129_1 : mz_pg 129 1 = some (.iconst 0, 0, 0, 0) := by decide +kernel
theorem gz_129_2 : mz_pg 129 2 = some (.putfield 31, 0, 4, 496) := by decide +kernel
theorem gz_129_5 : mz_pg 129 5 = some (.iconst 0, 0, 0, 0) := by decide +kernel
theorem gz_129_6 : mz_pg 129 6 = some (.istore_n 1, 0, 0, 0) := by decide +kernel
theorem gz_129_7 : mz_pg 129 7 = some (.iload_n 1, 0, 0, 0) := by decide +kernel
theorem gz_129_8 : mz_pg 129 8 = some (.iconst 3, 0, 0, 0) := by decide +kernel
theorem gz_129_9 : mz_pg 129 9 = some (.if_icmp .ge 36, 0, 0, 0) := by decide +kernel
theorem gz_129_12 : mz_pg 129 12 = some (.aload_n 0, 0, 0, 0) := by decide +kernel
theorem gz_129_13 : mz_pg 129 13 = some (.getfield 9, 0, 0, 489) := by decide +kernel
theorem gz_129_16 : mz_pg 129 16 = some (.iload_n 1, 0, 0, 0) := by decide +kernel
theorem gz_129_17 : mz_pg 129 17 = some (.iaload, 0, 0, 0) := by decide +kernel
theorem gz_129_18 : mz_pg 129 18 = some (.iconst (-1), 0, 0, 0) := by decide +kernel
theorem gz_129_19 : mz_pg 129 19 = some (.if_icmp .eq 20, 0, 0, 0) := by decide +kernel
theorem gz_129_22 : mz_pg 129 22 = some (.aload_n 0, 0, 0, 0) := by decide +kernel
theorem gz_129_23 : mz_pg 129 23 = some (.getfield 21, 0, 3, 495) := by decide +kernel
theorem gz_129_26 : mz_pg 129 26 = some (.aload_n 0, 0, 0, 0) := by decide +kernel
theorem gz_129_27 : mz_pg 129 27 = some (.dup, 0, 0, 0) := by decide +kernel
theorem gz_129_28 : mz_pg 129 28 = some (.getfield 31, 0, 4, 496) := by decide +kernel
theorem gz_129_31 : mz_pg 129 31 = some (.dup_x1, 0, 0, 0) := by decide +kernel
theorem gz_129_32 : mz_pg 129 32 = some (.iconst 1, 0, 0, 0) := by decide +kernel
theorem gz_129_33 : mz_pg 129 33 = some (.iadd, 0, 0, 0) := by decide +kernel
theorem gz_129_34 : mz_pg 129 34 = some (.putfield 31, 0, 4, 496) := by decide +kernel
theorem gz_129_37 : mz_pg 129 37 = some (.iload_n 1, 0, 0, 0) := by decide +kernel
theorem gz_129_38 : mz_pg 129 38 = some (.iastore, 0, 0, 0) := by decide +kernel
theorem gz_129_39 : mz_pg 129 39 = some (.iinc 1 1, 0, 0, 0) := by decide +kernel
theorem gz_129_42 : mz_pg 129 42 = some (.goto (-35), 0, 0, 0) := by decide +kernel
theorem gz_129_45 : mz_pg 129 45 = some (.aload_n 0, 0, 0, 0) := by decide +kernel
theorem gz_129_46 : mz_pg 129 46 = some (.aload_n 0, 0, 0, 0) := by decide +kernel
theorem gz_129_47 : mz_pg 129 47 = some (.getfield 31, 0, 4, 496) := by decide +kernel
theorem gz_129_50 : mz_pg 129 50 = some (.iconst 3, 0, 0, 0) := by decide +kernel
theorem gz_129_51 : mz_pg 129 51 = some (.if_icmp .ne 8, 0, 0, 0) := by decide +kernel
theorem gz_129_54 : mz_pg 129 54 = some (.bipush 6, 0, 0, 0) := by decide +kernel
theorem gz_129_56 : mz_pg 129 56 = some (.goto 16, 0, 0, 0) := by decide +kernel
theorem gz_129_59 : mz_pg 129 59 = some (.aload_n 0, 0, 0, 0) := by decide +kernel
theorem gz_129_60 : mz_pg 129 60 = some (.getfield 31, 0, 4, 496) := by decide +kernel
theorem gz_129_63 : mz_pg 129 63 = some (.iconst 2, 0, 0, 0) := by decide +kernel
theorem gz_129_64 : mz_pg 129 64 = some (.if_icmp .ne 7, 0, 0, 0) := by decide +kernel
theorem gz_129_67 : mz_pg 129 67 = some (.iconst 2, 0, 0, 0) := by decide +kernel
theorem gz_129_68 : mz_pg 129 68 = some (.goto 4, 0, 0, 0) := by decide +kernel
theorem gz_129_71 : mz_pg 129 71 = some (.iconst 1, 0, 0, 0) := by decide +kernel
theorem gz_129_72 : mz_pg 129 72 = some (.putfield 35, 0, 7, 501) := by decide +kernel
theorem gz_129_75 : mz_pg 129 75 = some (.aload_n 0, 0, 0, 0) := by decide +kernel
theorem gz_129_76 : mz_pg 129 76 = some (.iconst 0, 0, 0, 0) := by decide +kernel
theorem gz_129_77 : mz_pg 129 77 = some (.putfield 38, 0, 6, 499) := by decide +kernel
theorem gz_129_80 : mz_pg 129 80 = some (.aload_n 0, 0, 0, 0) := by decide +kernel
theorem gz_129_81 : mz_pg 129 81 = some (.iconst 0, 0, 0, 0) := by decide +kernel
theorem gz_129_82 : mz_pg 129 82 = some (.putfield 41, 0, 8, 503) := by decide +kernel
theorem gz_129_85 : mz_pg 129 85 = some (.aload_n 0, 0, 0, 0) := by decide +kernel
theorem gz_129_86 : mz_pg 129 86 = some (.iconst 0, 0, 0, 0) := by decide +kernel
theorem gz_129_87 : mz_pg 129 87 = some (.putfield 44, 0, 9, 505) := by decide +kernel
theorem gz_129_90 : mz_pg 129 90 = some (.return_, 0, 0, 0) := by decide +kernel
theorem gm_129 : my_mm 129 2 none 0 0 := by unfold my_mm; decide +kernel
theorem rd_49 : my_rd 49 = .inl (0, 3, [(0, 0, 2)]) := rfl
theorem c6_Clerks_beginNight {l : Launch} {rho : Nat → Int32} {d : Nat} {h : my_H} {Q : my_H → my_V → Prop} {x0 : Int} (t0 : my_is 0 x0) (k0 : ∀ (h' : my_H), my_fr [(0, 4), (0, 6), (0, 7), (0, 8), (0, 9), (49, -1)] h h' → 0 ≤ h' x0 ((4 : Nat) : Int) → h' x0 ((4 : Nat) : Int) ≤ 3 → h' x0 ((6 : Nat) : Int) = 0 → 1 ≤ h' x0 ((7 : Nat) : Int) → h' x0 ((7 : Nat) : Int) ≤ 6 → h' x0 ((8 : Nat) : Int) = 0 → h' x0 ((9 : Nat) : Int) = 0 → Q h' (9, 0)) : wp l rho d 129 0 [(2, x0), (9, 0)] [] h Q := by
  have J72_1 : ∀ (p72_0 p72_1 : Int) (h72_1 : my_H), my_fr [(0, 4), (0, 6), (0, 7), (0, 8), (0, 9), (49, -1)] h h72_1 → 2 ≤ p72_0 → p72_0 ≤ 6 → 2 ≤ p72_1 → p72_1 ≤ 3 → p72_0 ≤ (p72_1 + 3) → p72_1 ≤ p72_0 → h72_1 x0 ((4 : Nat) : Int) = p72_1 → wp l rho d 129 72 [(2, x0), (0, 3)] [(0, p72_0), (2, x0)] h72_1 Q := by
    intro p72_0 p72_1 h72_1 gh_72_1 q0_72_1 q1_72_1 q2_72_1 q3_72_1 q4_72_1 q5_72_1 c4_72_1
    refine w_putI gz_129_72 t0 rd_0 rfl (by omega) (by omega) rfl (fun h1 fh1 => ?_)
    have gh1 : my_fr [(0, 4), (0, 6), (0, 7), (0, 8), (0, 9), (49, -1)] h h1 := my_fr.up gh_72_1 t0 fh1 rfl
    refine w_aload_n gz_129_75 rfl ?_
    refine w_iconst gz_129_76 (by decide) ?_
    refine w_putI gz_129_77 t0 rd_0 rfl (by omega) (by omega) rfl (fun h2 fh2 => ?_)
    have gh2 : my_fr [(0, 4), (0, 6), (0, 7), (0, 8), (0, 9), (49, -1)] h h2 := my_fr.up gh1 t0 fh2 rfl
    refine w_aload_n gz_129_80 rfl ?_
    refine w_iconst gz_129_81 (by decide) ?_
    refine w_putA gz_129_82 t0 rd_0 rfl rfl (fun h3 fh3 => ?_)
    have gh3 : my_fr [(0, 4), (0, 6), (0, 7), (0, 8), (0, 9), (49, -1)] h h3 := my_fr.up gh2 t0 fh3 rfl
    refine w_aload_n gz_129_85 rfl ?_
    refine w_iconst gz_129_86 (by decide) ?_
    refine w_putA gz_129_87 t0 rd_0 rfl rfl (fun h4 fh4 => ?_)
    have gh4 : my_fr [(0, 4), (0, 6), (0, 7), (0, 8), (0, 9), (49, -1)] h h4 := my_fr.up gh3 t0 fh4 rfl
    have c5 := ((my_up_fld fh4 (by decide)).trans ((my_up_fld fh3 (by decide)).trans ((my_up_fld fh2 (by decide)).trans ((my_up_fld fh1 (by decide)).trans c4_72_1))))
    have c6 := ((my_up_fld fh4 (by decide)).trans ((my_up_fld fh3 (by decide)).trans (my_up_self fh2)))
    have c7 := ((my_up_fld fh4 (by decide)).trans ((my_up_fld fh3 (by decide)).trans ((my_up_fld fh2 (by decide)).trans (my_up_self fh1))))
    have c8 := ((my_up_fld fh4 (by decide)).trans (my_up_self fh3))
    have c9 := (my_up_self fh4)
    exact w_vret gz_129_90 gm_129 (k0 h4 (gh4) (by omega) (by omega) (by omega) (by omega) (by omega) (by omega) (by omega))
  have J7_0 : ∀ (n : Nat) (p7_0 p7_1 : Int) (h7_0 : my_H), my_fr [(0, 4), (0, 6), (0, 7), (0, 8), (0, 9), (49, -1)] h h7_0 → 0 ≤ p7_0 → p7_0 ≤ 3 → 0 ≤ p7_1 → p7_1 ≤ 3 → p7_1 ≤ p7_0 → h7_0 x0 ((4 : Nat) : Int) = p7_1 → 4 - p7_0 ≤ (n : Int) → wp l rho d 129 7 [(2, x0), (0, p7_0)] [] h7_0 Q := by
    intro n
    induction n with
    | zero => intro p7_0 p7_1 h7_0 gh_7_0 q0_7_0 q1_7_0 q2_7_0 q3_7_0 q4_7_0 c4_7_0 hm_7_0; exfalso; omega
    | succ n ih_7_0 =>
      intro p7_0 p7_1 h7_0 gh_7_0 q0_7_0 q1_7_0 q2_7_0 q3_7_0 q4_7_0 c4_7_0 hm_7_0
      have J39_0 : ∀ (p39_0 : Int) (h39_0 : my_H), my_fr [(0, 4), (0, 6), (0, 7), (0, 8), (0, 9), (49, -1)] h h39_0 → p7_0 ≤ 2 → 0 ≤ p39_0 → p39_0 ≤ 3 → p7_1 ≤ 2 → p39_0 ≤ (p7_0 + 1) → p39_0 ≤ (p7_1 + 1) → p7_1 ≤ p39_0 → p7_1 ≤ p7_0 → h39_0 x0 ((4 : Nat) : Int) = p39_0 → wp l rho d 129 39 [(2, x0), (0, p7_0)] [] h39_0 Q := by
        intro p39_0 h39_0 gh_39_0 q0_39_0 q1_39_0 q2_39_0 q3_39_0 q4_39_0 q5_39_0 q6_39_0 q7_39_0 c4_39_0
        refine w_iinc (ls' := [(2, x0), (0, (p7_0 + 1))]) gz_129_39 rfl gm_129 rfl rfl rfl ⟨by omega, by omega⟩ ?_
        refine w_goto (t := 7) gz_129_42 rfl ?_
        exact ih_7_0 ((p7_0 + 1)) (p39_0) h39_0 (gh_39_0) (by omega) (by omega) (by omega) (by omega) (by omega) (c4_39_0.trans (by omega)) (by omega)
      refine w_iload_n gz_129_7 rfl ?_
      refine w_iconst gz_129_8 (by decide) ?_
      refine w_icge (t := 45) gz_129_9 rfl (fun u10 => ?_) (fun u10 => ?_)
      ·
        refine w_aload_n gz_129_45 rfl ?_
        refine w_aload_n gz_129_46 rfl ?_
        refine w_getI gz_129_47 t0 rd_0 rfl (fun v11 ev11 pv11 qv11 => ?_)
        have zv11 := ev11.trans c4_7_0
        refine w_iconst gz_129_50 (by decide) ?_
        refine w_icne (t := 59) gz_129_51 rfl (fun u12 => ?_) (fun u12 => ?_)
        ·
          refine w_aload_n gz_129_59 rfl ?_
          refine w_getI gz_129_60 t0 rd_0 rfl (fun v13 ev13 pv13 qv13 => ?_)
          have zv13 := ev13.trans ev11.symm
          refine w_iconst gz_129_63 (by decide) ?_
          refine w_icne (t := 71) gz_129_64 rfl (fun u14 => ?_) (fun u14 => ?_)
          ·
            refine w_iconst gz_129_71 (by decide) ?_
            refine w_putI gz_129_72 t0 rd_0 rfl (by omega) (by omega) rfl (fun h15 fh15 => ?_)
            have gh15 : my_fr [(0, 4), (0, 6), (0, 7), (0, 8), (0, 9), (49, -1)] h h15 := my_fr.up gh_7_0 t0 fh15 rfl
            refine w_aload_n gz_129_75 rfl ?_
            refine w_iconst gz_129_76 (by decide) ?_
            refine w_putI gz_129_77 t0 rd_0 rfl (by omega) (by omega) rfl (fun h16 fh16 => ?_)
            have gh16 : my_fr [(0, 4), (0, 6), (0, 7), (0, 8), (0, 9), (49, -1)] h h16 := my_fr.up gh15 t0 fh16 rfl
            refine w_aload_n gz_129_80 rfl ?_
            refine w_iconst gz_129_81 (by decide) ?_
            refine w_putA gz_129_82 t0 rd_0 rfl rfl (fun h17 fh17 => ?_)
            have gh17 : my_fr [(0, 4), (0, 6), (0, 7), (0, 8), (0, 9), (49, -1)] h h17 := my_fr.up gh16 t0 fh17 rfl
            refine w_aload_n gz_129_85 rfl ?_
            refine w_iconst gz_129_86 (by decide) ?_
            refine w_putA gz_129_87 t0 rd_0 rfl rfl (fun h18 fh18 => ?_)
            have gh18 : my_fr [(0, 4), (0, 6), (0, 7), (0, 8), (0, 9), (49, -1)] h h18 := my_fr.up gh17 t0 fh18 rfl
            have c19 := ((my_up_fld fh18 (by decide)).trans ((my_up_fld fh17 (by decide)).trans ((my_up_fld fh16 (by decide)).trans ((my_up_fld fh15 (by decide)).trans ev13.symm))))
            have c20 := ((my_up_fld fh18 (by decide)).trans ((my_up_fld fh17 (by decide)).trans (my_up_self fh16)))
            have c21 := ((my_up_fld fh18 (by decide)).trans ((my_up_fld fh17 (by decide)).trans ((my_up_fld fh16 (by decide)).trans (my_up_self fh15))))
            have c22 := ((my_up_fld fh18 (by decide)).trans (my_up_self fh17))
            have c23 := (my_up_self fh18)
            exact w_vret gz_129_90 gm_129 (k0 h18 (gh18) (by omega) (by omega) (by omega) (by omega) (by omega) (by omega) (by omega))
          ·
            refine w_iconst gz_129_67 (by decide) ?_
            refine w_goto (t := 72) gz_129_68 rfl ?_
            rw [show (p7_0 : Int) = 3 from by omega]
            exact J72_1 (2) (v13) h7_0 (gh_7_0) (by omega) (by omega) (by omega) (by omega) (by omega) (by omega) (ev13.symm.trans (by omega))
        ·
          refine w_bipush gz_129_54 (by decide) ?_
          refine w_goto (t := 72) gz_129_56 rfl ?_
          rw [show (p7_0 : Int) = 3 from by omega]
          exact J72_1 (6) (v11) h7_0 (gh_7_0) (by omega) (by omega) (by omega) (by omega) (by omega) (by omega) (ev11.symm.trans (by omega))
      ·
        refine w_aload_n gz_129_12 rfl ?_
        refine w_getR gz_129_13 t0 rd_0 rfl (fun v24 ev24 tv24 => ?_)
        refine w_iload_n gz_129_16 rfl ?_
        refine w_iald gz_129_17 tv24 rd_46 (by omega) (by omega) (fun v25 ev25 pv25 qv25 => ?_)
        refine w_iconst gz_129_18 (by decide) ?_
        refine w_iceq (t := 39) gz_129_19 rfl (fun u26 => ?_) (fun u26 => ?_)
        ·
          exact J39_0 (p7_1) h7_0 (gh_7_0) (by omega) (by omega) (by omega) (by omega) (by omega) (by omega) (by omega) (by omega) (c4_7_0.trans (by omega))
        ·
          refine w_aload_n gz_129_22 rfl ?_
          refine w_getR gz_129_23 t0 rd_0 rfl (fun v27 ev27 tv27 => ?_)
          refine w_aload_n gz_129_26 rfl ?_
          refine w_dup gz_129_27 rfl ?_
          refine w_getI gz_129_28 t0 rd_0 rfl (fun v28 ev28 pv28 qv28 => ?_)
          have zv28 := ev28.trans c4_7_0
          refine w_dupx gz_129_31 rfl rfl ?_
          refine w_iconst gz_129_32 (by decide) ?_
          refine w_iadd gz_129_33 ⟨by omega, by omega⟩ ?_
          refine w_putI gz_129_34 t0 rd_0 rfl (by omega) (by omega) rfl (fun h29 fh29 => ?_)
          have gh29 : my_fr [(0, 4), (0, 6), (0, 7), (0, 8), (0, 9), (49, -1)] h h29 := my_fr.up gh_7_0 t0 fh29 rfl
          refine w_iload_n gz_129_37 rfl ?_
          refine w_iast gz_129_38 tv27 rd_49 (by omega) (by omega) (by omega) (by omega) (fun h30 fh30 => ?_)
          have gh30 : my_fr [(0, 4), (0, 6), (0, 7), (0, 8), (0, 9), (49, -1)] h h30 := my_fr.up gh29 tv27 fh30 rfl
          exact J39_0 ((v28 + 1)) h30 (gh30) (by omega) (by omega) (by omega) (by omega) (by omega) (by omega) (by omega) (by omega) (((my_up_role fh30 t0 tv27 rfl).trans (my_up_self fh29)).trans (by omega))
  refine w_aload_n gz_129_0 rfl ?_
  refine w_iconst gz_129_1 (by decide) ?_
  refine w_putI gz_129_2 t0 rd_0 rfl (by omega) (by omega) rfl (fun h31 fh31 => ?_)
  have gh31 : my_fr [(0, 4), (0, 6), (0, 7), (0, 8), (0, 9), (49, -1)] h h31 := my_fr.up my_fr.rf t0 fh31 rfl
  refine w_iconst gz_129_5 (by decide) ?_
  refine w_istore_n (ls' := [(2, x0), (0, 0)]) gz_129_6 gm_129 rfl rfl rfl ?_
  exact J7_0 4 (0) (0) h31 (gh31) (by omega) (by omega) (by omega) (by omega) (by omega) ((my_up_self fh31).trans (by omega)) (by omega)
theorem gz_126_0 : mz_pg 126 0 = some (.iload_n 0, 0, 0, 0) := by decide +kernel
theorem gz_126_1 : mz_pg 126 1 = some (.bipush 20, 0, 0, 0) := by decide +kernel
theorem gz_126_3 : mz_pg 126 3 = some (.if_icmp .ge 7, 0, 0, 0) := by decide +kernel
theorem gz_126_6 : mz_pg 126 6 = some (.iconst 1, 0, 0, 0) := by decide +kernel
theorem gz_126_7 : mz_pg 126 7 = some (.goto 6, 0, 0, 0) := by decide +kernel
theorem gz_126_10 : mz_pg 126 10 = some (.sipush 180, 0, 0, 0) := by decide +kernel
theorem gz_126_13 : mz_pg 126 13 = some (.ireturn, 0, 0, 0) := by decide +kernel
theorem gz_136_0 : mz_pg 136 0 = some (.aload_n 0, 0, 0, 0) := by decide +kernel
theorem gz_136_1 : mz_pg 136 1 = some (.iconst 0, 0, 0, 0) := by decide +kernel
theorem gz_136_2 : mz_pg 136 2 = some (.putfield 26, 1, 3, 458) := by decide +kernel
theorem gz_136_5 : mz_pg 136 5 = some (.aload_n 0, 0, 0, 0) := by decide +kernel
theorem gz_136_6 : mz_pg 136 6 = some (.iconst (-1), 0, 0, 0) := by decide +kernel
theorem gz_136_7 : mz_pg 136 7 = some (.putfield 30, 1, 4, 460) := by decide +kernel
theorem gz_136_10 : mz_pg 136 10 = some (.aload_n 0, 0, 0, 0) := by decide +kernel
theorem gz_136_11 : mz_pg 136 11 = some (.iconst (-1), 0, 0, 0) := by decide +kernel
theorem gz_136_12 : mz_pg 136 12 = some (.putfield 33, 1, 5, 462) := by decide +kernel
theorem gz_136_15 : mz_pg 136 15 = some (.aload_n 0, 0, 0, 0) := by decide +kernel
theorem gz_136_16 : mz_pg 136 16 = some (.iconst (-1), 0, 0, 0) := by decide +kernel
theorem gz_136_17 : mz_pg 136 17 = some (.putfield 36, 1, 6, 464) := by decide +kernel
theorem gz_136_20 : mz_pg 136 20 = some (.iconst 0, 0, 0, 0) := by decide +kernel
theorem gz_136_21 : mz_pg 136 21 = some (.istore 4, 0, 0, 0) := by decide +kernel
theorem gz_136_23 : mz_pg 136 23 = some (.iload 4, 0, 0, 0) := by decide +kernel
theorem gz_136_25 : mz_pg 136 25 = some (.aload_n 0, 0, 0, 0) := by decide +kernel
theorem gz_136_26 : mz_pg 136 26 = some (.getfield 22, 1, 0, 455) := by decide +kernel
theorem gz_136_29 : mz_pg 136 29 = some (.getfield 39, 3, 0, 146) := by decide +kernel
theorem gz_136_32 : mz_pg 136 32 = some (.iload_n 2, 0, 0, 0) := by decide +kernel
theorem gz_136_33 : mz_pg 136 33 = some (.iaload, 0, 0, 0) := by decide +kernel
theorem gz_136_34 : mz_pg 136 34 = some (.if_icmp .ge 94, 0, 0, 0) := by decide +kernel
theorem gz_136_37 : mz_pg 136 37 = some (.iconst 0, 0, 0, 0) := by decide +kernel
theorem gz_136_38 : mz_pg 136 38 = some (.istore 5, 0, 0, 0) := by decide +kernel
theorem gz_136_40 : mz_pg 136 40 = some (.iload 5, 0, 0, 0) := by decide +kernel
theorem gz_136_42 : mz_pg 136 42 = some (.iconst 2, 0, 0, 0) := by decide +kernel
theorem gz_136_43 : mz_pg 136 43 = some (.if_icmp .gt 79, 0, 0, 0) := by decide +kernel
theorem gz_136_46 : mz_pg 136 46 = some (.iconst 0, 0, 0, 0) := by decide +kernel
theorem gz_136_47 : mz_pg 136 47 = some (.istore 6, 0, 0, 0) := by decide +kernel
theorem gz_136_49 : mz_pg 136 49 = some (.iload 6, 0, 0, 0) := by decide +kernel
theorem gz_136_51 : mz_pg 136 51 = some (.bipush 20, 0, 0, 0) := by decide +kernel
theorem gz_136_53 : mz_pg 136 53 = some (.if_icmp .gt 63, 0, 0, 0) := by decide +kernel
theorem gz_136_56 : mz_pg 136 56 = some (.aload_n 1, 0, 0, 0) := by decide +kernel
theorem gz_136_57 : mz_pg 136 57 = some (.iload_n 2, 0, 0, 0) := by decide +kernel
theorem gz_136_58 : mz_pg 136 58 = some (.iload 4, 0, 0, 0) := by decide +kernel
theorem gz_136_60 : mz_pg 136 60 = some (.iload 5, 0, 0, 0) := by decide +kernel
theorem gz_136_62 : mz_pg 136 62 = some (.iload 6, 0, 0, 0) := by decide +kernel
theorem gz_136_64 : mz_pg 136 64 = some (.invokestatic 44, 1, 125, 1058) := by decide +kernel
theorem gz_136_67 : mz_pg 136 67 = some (.iload_n 3, 0, 0, 0) := by decide +kernel
theorem gz_136_68 : mz_pg 136 68 = some (.if_icmp .ne 42, 0, 0, 0) := by decide +kernel
theorem gz_136_71 : mz_pg 136 71 = some (.aload_n 0, 0, 0, 0) := by decide +kernel
theorem gz_136_72 : mz_pg 136 72 = some (.getfield 26, 1, 3, 458) := by decide +kernel
theorem gz_136_75 : mz_pg 136 75 = some (.ifCond .ne 21, 0, 0, 0) := by decide +kernel
theorem gz_136_78 : mz_pg 136 78 = some (.aload_n 0, 0, 0, 0) := by decide +kernel
theorem gz_136_79 : mz_pg 136 79 = some (.iload 4, 0, 0, 0) := by decide +kernel
theorem gz_136_81 : mz_pg 136 81 = some (.putfield 30, 1, 4, 460) := by decide +kernel
theorem gz_136_84 : mz_pg 136 84 = some (.aload_n 0, 0, 0, 0) := by decide +kernel
theorem gz_136_85 : mz_pg 136 85 = some (.iload 5, 0, 0, 0) := by decide +kernel
theorem gz_136_87 : mz_pg 136 87 = some (.putfield 33, 1, 5, 462) := by decide +kernel
theorem gz_136_90 : mz_pg 136 90 = some (.aload_n 0, 0, 0, 0) := by decide +kernel
theorem gz_136_91 : mz_pg 136 91 = some (.iload 6, 0, 0, 0) := by decide +kernel
theorem gz_136_93 : mz_pg 136 93 = some (.putfield 36, 1, 6, 464) := by decide +kernel
theorem gz_136_96 : mz_pg 136 96 = some (.aload_n 0, 0, 0, 0) := by decide +kernel
theorem gz_136_97 : mz_pg 136 97 = some (.dup, 0, 0, 0) := by decide +kernel
theorem gz_136_98 : mz_pg 136 98 = some (.getfield 26, 1, 3, 458) := by decide +kernel
theorem gz_136_101 : mz_pg 136 101 = some (.iload 6, 0, 0, 0) := by decide +kernel
theorem gz_136_103 : mz_pg 136 103 = some (.invokestatic 48, 1, 126, 1061) := by decide +kernel
theorem gz_136_106 : mz_pg 136 106 = some (.iadd, 0, 0, 0) := by decide +kernel
theorem gz_136_107 : mz_pg 136 107 = some (.putfield 26, 1, 3, 458) := by decide +kernel
theorem gz_136_110 : mz_pg 136 110 = some (.iinc 6 1, 0, 0, 0) := by decide +kernel
theorem gz_136_113 : mz_pg 136 113 = some (.goto (-64), 0, 0, 0) := by decide +kernel
theorem gz_136_116 : mz_pg 136 116 = some (.iinc 5 1, 0, 0, 0) := by decide +kernel
theorem gz_136_119 : mz_pg 136 119 = some (.goto (-79), 0, 0, 0) := by decide +kernel
theorem gz_136_122 : mz_pg 136 122 = some (.iinc 4 1, 0, 0, 0) := by decide +kernel
theorem gz_136_125 : mz_pg 136 125 = some (.goto (-102), 0, 0, 0) := by decide +kernel
theorem gz_136_128 : mz_pg 136 128 = some (.return_, 0, 0, 0) := by decide +kernel
theorem gm_126 : my_mm 126 1 (some .int) 1 1 := by unfold my_mm; decide +kernel
theorem gm_136 : my_mm 136 7 none 3 1 := by unfold my_mm; decide +kernel
theorem rd_1 : my_rd 1 = .inr (1, [(2, 3, 0), (2, 8, 0), (2, 45, 0), (0, -2147483648, 2147483647), (0, -2147483648, 2147483647), (0, -2147483648, 2147483647), (0, -2147483648, 2147483647)]) := rfl
theorem c7_Cutter_findCuts {l : Launch} {rho : Nat → Int32} {d : Nat} {h : my_H} {Q : my_H → my_V → Prop} {x0 x1 x2 x3 : Int} (t0 : my_is 1 x0) (t1 : my_is 6 x1) (a2 : 0 ≤ x2) (b2 : x2 ≤ 2) (k0 : ∀ (h' : my_H), my_fr [(1, 3), (1, 4), (1, 5), (1, 6)] h h' → (-1) ≤ h' x0 ((4 : Nat) : Int) → h' x0 ((4 : Nat) : Int) ≤ 3 → (-1) ≤ h' x0 ((5 : Nat) : Int) → h' x0 ((5 : Nat) : Int) ≤ 2 → (-1) ≤ h' x0 ((6 : Nat) : Int) → h' x0 ((6 : Nat) : Int) ≤ 20 → Q h' (9, 0)) : wp l rho (d + 2) 136 0 [(2, x0), (2, x1), (0, x2), (0, x3), (9, 0), (9, 0), (9, 0)] [] h Q := by
  have J23_0 : ∀ (n : Nat) (p23_0 p23_1 p23_2 p23_3 p23_4 : Int) (h23_0 : my_H), my_fr [(1, 3), (1, 4), (1, 5), (1, 6)] h h23_0 → 0 ≤ p23_0 → p23_0 ≤ 4 → (-1) ≤ p23_2 → p23_2 ≤ 3 → (-1) ≤ p23_3 → p23_3 ≤ 2 → (-1) ≤ p23_4 → p23_4 ≤ 20 → p23_2 ≤ (p23_0 - 1) → p23_2 ≤ (p23_3 + 3) → p23_3 ≤ (p23_0 + 1) → p23_3 ≤ (p23_2 + 2) → h23_0 x0 ((3 : Nat) : Int) = p23_1 → h23_0 x0 ((4 : Nat) : Int) = p23_2 → h23_0 x0 ((5 : Nat) : Int) = p23_3 → h23_0 x0 ((6 : Nat) : Int) = p23_4 → 5 - p23_0 ≤ (n : Int) → wp l rho (d + 2) 136 23 [(2, x0), (2, x1), (0, x2), (0, x3), (0, p23_0), (9, 0), (9, 0)] [] h23_0 Q := by
    intro n
    induction n with
    | zero => intro p23_0 p23_1 p23_2 p23_3 p23_4 h23_0 gh_23_0 q0_23_0 q1_23_0 q2_23_0 q3_23_0 q4_23_0 q5_23_0 q6_23_0 q7_23_0 q8_23_0 q9_23_0 q10_23_0 q11_23_0 c3_23_0 c4_23_0 c5_23_0 c6_23_0 hm_23_0; exfalso; omega
    | succ n ih_23_0 =>
      intro p23_0 p23_1 p23_2 p23_3 p23_4 h23_0 gh_23_0 q0_23_0 q1_23_0 q2_23_0 q3_23_0 q4_23_0 q5_23_0 q6_23_0 q7_23_0 q8_23_0 q9_23_0 q10_23_0 q11_23_0 c3_23_0 c4_23_0 c5_23_0 c6_23_0 hm_23_0
      have J40_0 : ∀ (n : Nat) (p40_0 p40_1 p40_2 p40_3 p40_4 : Int) (h40_0 : my_H), my_fr [(1, 3), (1, 4), (1, 5), (1, 6)] h h40_0 → p23_0 ≤ 3 → 0 ≤ p40_0 → p40_0 ≤ 3 → (-1) ≤ p40_2 → p40_2 ≤ 3 → (-1) ≤ p40_3 → p40_3 ≤ 2 → (-1) ≤ p40_4 → p40_4 ≤ 20 → p23_2 ≤ 2 → p40_2 ≤ (p40_0 + 2) → p40_2 ≤ (p40_3 + 3) → p40_2 ≤ (p40_4 + 3) → p40_2 ≤ p23_0 → p40_3 ≤ (p40_2 + 2) → p23_2 ≤ p40_2 → p23_2 ≤ (p23_0 - 1) → p23_3 ≤ (p40_2 + 2) → p23_3 ≤ (p40_3 + 2) → p23_3 ≤ (p23_0 + 1) → p23_3 ≤ (p23_2 + 2) → h40_0 x0 ((3 : Nat) : Int) = p40_1 → h40_0 x0 ((4 : Nat) : Int) = p40_2 → h40_0 x0 ((5 : Nat) : Int) = p40_3 → h40_0 x0 ((6 : Nat) : Int) = p40_4 → 4 - p40_0 ≤ (n : Int) → wp l rho (d + 2) 136 40 [(2, x0), (2, x1), (0, x2), (0, x3), (0, p23_0), (0, p40_0), (9, 0)] [] h40_0 Q := by
        intro n
        induction n with
        | zero => intro p40_0 p40_1 p40_2 p40_3 p40_4 h40_0 gh_40_0 q0_40_0 q1_40_0 q2_40_0 q3_40_0 q4_40_0 q5_40_0 q6_40_0 q7_40_0 q8_40_0 q9_40_0 q10_40_0 q11_40_0 q12_40_0 q13_40_0 q14_40_0 q15_40_0 q16_40_0 q17_40_0 q18_40_0 q19_40_0 q20_40_0 c3_40_0 c4_40_0 c5_40_0 c6_40_0 hm_40_0; exfalso; omega
        | succ n ih_40_0 =>
          intro p40_0 p40_1 p40_2 p40_3 p40_4 h40_0 gh_40_0 q0_40_0 q1_40_0 q2_40_0 q3_40_0 q4_40_0 q5_40_0 q6_40_0 q7_40_0 q8_40_0 q9_40_0 q10_40_0 q11_40_0 q12_40_0 q13_40_0 q14_40_0 q15_40_0 q16_40_0 q17_40_0 q18_40_0 q19_40_0 q20_40_0 c3_40_0 c4_40_0 c5_40_0 c6_40_0 hm_40_0
          have J49_0 : ∀ (n : Nat) (p49_0 p49_1 p49_2 p49_3 p49_4 : Int) (h49_0 : my_H), my_fr [(1, 3), (1, 4), (1, 5), (1, 6)] h h49_0 → p40_0 ≤ 2 → 0 ≤ p49_0 → p49_0 ≤ 21 → (-1) ≤ p49_2 → p49_2 ≤ 3 → (-1) ≤ p49_3 → p49_3 ≤ 2 → (-1) ≤ p49_4 → p49_4 ≤ 20 → p49_2 ≤ (p49_3 + 3) → p49_2 ≤ (p49_4 + 3) → p49_2 ≤ p23_0 → p49_3 ≤ (p49_2 + 2) → p40_2 ≤ p49_2 → p40_2 ≤ (p49_3 + 3) → p40_2 ≤ (p49_4 + 3) → p40_2 ≤ p23_0 → p40_2 ≤ (p40_0 + 2) → p40_2 ≤ (p40_3 + 3) → p40_2 ≤ (p40_4 + 3) → p40_3 ≤ (p49_2 + 2) → p40_3 ≤ (p49_3 + 2) → p40_3 ≤ (p40_2 + 2) → p23_2 ≤ p49_2 → p23_2 ≤ (p23_0 - 1) → p23_2 ≤ p40_2 → p23_3 ≤ (p49_2 + 2) → p23_3 ≤ (p49_3 + 2) → p23_3 ≤ (p23_0 + 1) → p23_3 ≤ (p40_2 + 2) → p23_3 ≤ (p40_3 + 2) → p23_3 ≤ (p23_2 + 2) → h49_0 x0 ((3 : Nat) : Int) = p49_1 → h49_0 x0 ((4 : Nat) : Int) = p49_2 → h49_0 x0 ((5 : Nat) : Int) = p49_3 → h49_0 x0 ((6 : Nat) : Int) = p49_4 → 22 - p49_0 ≤ (n : Int) → wp l rho (d + 2) 136 49 [(2, x0), (2, x1), (0, x2), (0, x3), (0, p23_0), (0, p40_0), (0, p49_0)] [] h49_0 Q := by
            intro n
            induction n with
            | zero => intro p49_0 p49_1 p49_2 p49_3 p49_4 h49_0 gh_49_0 q0_49_0 q1_49_0 q2_49_0 q3_49_0 q4_49_0 q5_49_0 q6_49_0 q7_49_0 q8_49_0 q9_49_0 q10_49_0 q11_49_0 q12_49_0 q13_49_0 q14_49_0 q15_49_0 q16_49_0 q17_49_0 q18_49_0 q19_49_0 q20_49_0 q21_49_0 q22_49_0 q23_49_0 q24_49_0 q25_49_0 q26_49_0 q27_49_0 q28_49_0 q29_49_0 q30_49_0 q31_49_0 c3_49_0 c4_49_0 c5_49_0 c6_49_0 hm_49_0; exfalso; omega
            | succ n ih_49_0 =>
              intro p49_0 p49_1 p49_2 p49_3 p49_4 h49_0 gh_49_0 q0_49_0 q1_49_0 q2_49_0 q3_49_0 q4_49_0 q5_49_0 q6_49_0 q7_49_0 q8_49_0 q9_49_0 q10_49_0 q11_49_0 q12_49_0 q13_49_0 q14_49_0 q15_49_0 q16_49_0 q17_49_0 q18_49_0 q19_49_0 q20_49_0 q21_49_0 q22_49_0 q23_49_0 q24_49_0 q25_49_0 q26_49_0 q27_49_0 q28_49_0 q29_49_0 q30_49_0 q31_49_0 c3_49_0 c4_49_0 c5_49_0 c6_49_0 hm_49_0
              have J110_0 : ∀ (p110_0 p110_1 p110_2 p110_3 : Int) (h110_0 : my_H), my_fr [(1, 3), (1, 4), (1, 5), (1, 6)] h h110_0 → p49_0 ≤ 20 → (-1) ≤ p110_1 → p110_1 ≤ 3 → (-1) ≤ p110_2 → p110_2 ≤ 2 → (-1) ≤ p110_3 → p110_3 ≤ 20 → p110_1 ≤ (p110_2 + 3) → p110_1 ≤ (p110_3 + 3) → p110_1 ≤ p23_0 → p110_2 ≤ (p110_1 + 2) → p49_2 ≤ p110_1 → p49_2 ≤ (p110_2 + 3) → p49_2 ≤ (p110_3 + 3) → p49_2 ≤ p23_0 → p49_2 ≤ (p49_3 + 3) → p49_2 ≤ (p49_4 + 3) → p49_3 ≤ (p110_1 + 2) → p49_3 ≤ (p110_2 + 2) → p49_3 ≤ (p49_2 + 2) → p40_2 ≤ p110_1 → p40_2 ≤ (p110_2 + 3) → p40_2 ≤ (p110_3 + 3) → p40_2 ≤ p23_0 → p40_2 ≤ (p40_0 + 2) → p40_2 ≤ p49_2 → p40_2 ≤ (p49_3 + 3) → p40_2 ≤ (p49_4 + 3) → p40_2 ≤ (p40_3 + 3) → p40_2 ≤ (p40_4 + 3) → p40_3 ≤ (p110_1 + 2) → p40_3 ≤ (p110_2 + 2) → p40_3 ≤ (p49_2 + 2) → p40_3 ≤ (p49_3 + 2) → p40_3 ≤ (p40_2 + 2) → p23_2 ≤ p110_1 → p23_2 ≤ (p23_0 - 1) → p23_2 ≤ p49_2 → p23_2 ≤ p40_2 → p23_3 ≤ (p110_1 + 2) → p23_3 ≤ (p110_2 + 2) → p23_3 ≤ (p23_0 + 1) → p23_3 ≤ (p49_2 + 2) → p23_3 ≤ (p49_3 + 2) → p23_3 ≤ (p40_2 + 2) → p23_3 ≤ (p40_3 + 2) → p23_3 ≤ (p23_2 + 2) → h110_0 x0 ((3 : Nat) : Int) = p110_0 → h110_0 x0 ((4 : Nat) : Int) = p110_1 → h110_0 x0 ((5 : Nat) : Int) = p110_2 → h110_0 x0 ((6 : Nat) : Int) = p110_3 → wp l rho (d + 2) 136 110 [(2, x0), (2, x1), (0, x2), (0, x3), (0, p23_0), (0, p40_0), (0, p49_0)] [] h110_0 Q := by
                intro p110_0 p110_1 p110_2 p110_3 h110_0 gh_110_0 q0_110_0 q1_110_0 q2_110_0 q3_110_0 q4_110_0 q5_110_0 q6_110_0 q7_110_0 q8_110_0 q9_110_0 q10_110_0 q11_110_0 q12_110_0 q13_110_0 q14_110_0 q15_110_0 q16_110_0 q17_110_0 q18_110_0 q19_110_0 q20_110_0 q21_110_0 q22_110_0 q23_110_0 q24_110_0 q25_110_0 q26_110_0 q27_110_0 q28_110_0 q29_110_0 q30_110_0 q31_110_0 q32_110_0 q33_110_0 q34_110_0 q35_110_0 q36_110_0 q37_110_0 q38_110_0 q39_110_0 q40_110_0 q41_110_0 q42_110_0 q43_110_0 q44_110_0 q45_110_0 q46_110_0 c3_110_0 c4_110_0 c5_110_0 c6_110_0
                refine w_iinc (ls' := [(2, x0), (2, x1), (0, x2), (0, x3), (0, p23_0), (0, p40_0), (0, (p49_0 + 1))]) gz_136_110 rfl gm_136 rfl rfl rfl ⟨by omega, by omega⟩ ?_
                refine w_goto (t := 49) gz_136_113 rfl ?_
                exact ih_49_0 ((p49_0 + 1)) (p110_0) (p110_1) (p110_2) (p110_3) h110_0 (gh_110_0) (by omega) (by omega) (by omega) (by omega) (by omega) (by omega) (by omega) (by omega) (by omega) (by omega) (by omega) (by omega) (by omega) (by omega) (by omega) (by omega) (by omega) (by omega) (by omega) (by omega) (by omega) (by omega) (by omega) (by omega) (by omega) (by omega) (by omega) (by omega) (by omega) (by omega) (by omega) (by omega) (c3_110_0.trans (by omega)) (c4_110_0.trans (by omega)) (c5_110_0.trans (by omega)) (c6_110_0.trans (by omega)) (by omega)
              have J96_0 : ∀ (p96_0 p96_1 p96_2 p96_3 : Int) (h96_0 : my_H), my_fr [(1, 3), (1, 4), (1, 5), (1, 6)] h h96_0 → p49_0 ≤ 20 → (-1) ≤ p96_1 → p96_1 ≤ 3 → (-1) ≤ p96_2 → p96_2 ≤ 2 → (-1) ≤ p96_3 → p96_3 ≤ 20 → p96_1 ≤ (p96_2 + 3) → p96_1 ≤ (p96_3 + 3) → p96_1 ≤ p23_0 → p96_2 ≤ (p96_1 + 2) → p96_0 ≤ p49_1 → p49_2 ≤ p96_1 → p49_2 ≤ (p96_2 + 3) → p49_2 ≤ (p96_3 + 3) → p49_2 ≤ p23_0 → p49_2 ≤ (p49_3 + 3) → p49_2 ≤ (p49_4 + 3) → p49_3 ≤ (p96_1 + 2) → p49_3 ≤ (p96_2 + 2) → p49_3 ≤ (p49_2 + 2) → p49_1 ≤ p96_0 → p40_2 ≤ p96_1 → p40_2 ≤ (p96_2 + 3) → p40_2 ≤ (p96_3 + 3) → p40_2 ≤ p23_0 → p40_2 ≤ (p40_0 + 2) → p40_2 ≤ p49_2 → p40_2 ≤ (p49_3 + 3) → p40_2 ≤ (p49_4 + 3) → p40_2 ≤ (p40_3 + 3) → p40_2 ≤ (p40_4 + 3) → p40_3 ≤ (p96_1 + 2) → p40_3 ≤ (p96_2 + 2) → p40_3 ≤ (p49_2 + 2) → p40_3 ≤ (p49_3 + 2) → p40_3 ≤ (p40_2 + 2) → p23_2 ≤ p96_1 → p23_2 ≤ (p23_0 - 1) → p23_2 ≤ p49_2 → p23_2 ≤ p40_2 → p23_3 ≤ (p96_1 + 2) → p23_3 ≤ (p96_2 + 2) → p23_3 ≤ (p23_0 + 1) → p23_3 ≤ (p49_2 + 2) → p23_3 ≤ (p49_3 + 2) → p23_3 ≤ (p40_2 + 2) → p23_3 ≤ (p40_3 + 2) → p23_3 ≤ (p23_2 + 2) → h96_0 x0 ((3 : Nat) : Int) = p96_0 → h96_0 x0 ((4 : Nat) : Int) = p96_1 → h96_0 x0 ((5 : Nat) : Int) = p96_2 → h96_0 x0 ((6 : Nat) : Int) = p96_3 → wp l rho (d + 2) 136 96 [(2, x0), (2, x1), (0, x2), (0, x3), (0, p23_0), (0, p40_0), (0, p49_0)] [] h96_0 Q := by
                intro p96_0 p96_1 p96_2 p96_3 h96_0 gh_96_0 q0_96_0 q1_96_0 q2_96_0 q3_96_0 q4_96_0 q5_96_0 q6_96_0 q7_96_0 q8_96_0 q9_96_0 q10_96_0 q11_96_0 q12_96_0 q13_96_0 q14_96_0 q15_96_0 q16_96_0 q17_96_0 q18_96_0 q19_96_0 q20_96_0 q21_96_0 q22_96_0 q23_96_0 q24_96_0 q25_96_0 q26_96_0 q27_96_0 q28_96_0 q29_96_0 q30_96_0 q31_96_0 q32_96_0 q33_96_0 q34_96_0 q35_96_0 q36_96_0 q37_96_0 q38_96_0 q39_96_0 q40_96_0 q41_96_0 q42_96_0 q43_96_0 q44_96_0 q45_96_0 q46_96_0 q47_96_0 q48_96_0 c3_96_0 c4_96_0 c5_96_0 c6_96_0
                refine w_aload_n gz_136_96 rfl ?_
                refine w_dup gz_136_97 rfl ?_
                refine w_getI gz_136_98 t0 rd_1 rfl (fun v1 ev1 pv1 qv1 => ?_)
                have zv1 := ev1.trans c3_96_0
                refine w_iload gz_136_101 rfl ?_
                refine w_inS (k := 0) (as := [(0, p49_0)]) (r := [(0, v1), (2, x0)]) (ls0 := [(0, p49_0)]) gz_136_103 gm_126 rfl rfl rfl rfl rfl rfl ?_
                refine w_iload_n gz_126_0 rfl ?_
                refine w_bipush gz_126_1 (by decide) ?_
                refine w_icge (t := 10) gz_126_3 rfl (fun u2 => ?_) (fun u2 => ?_)
                ·
                  refine w_sipush gz_126_10 (by decide) ?_
                  refine w_iret gz_126_13 gm_126 ?_
                  show wp l rho (d + 2) 136 106 [(2, x0), (2, x1), (0, x2), (0, x3), (0, p23_0), (0, p40_0), (0, p49_0)] [(0, 180), (0, v1), (2, x0)] h96_0 Q
                  refine w_ianyA gz_136_106 (fun v3 pv3 qv3 => ?_)
                  refine w_putA gz_136_107 t0 rd_1 rfl rfl (fun h4 fh4 => ?_)
                  have gh4 : my_fr [(1, 3), (1, 4), (1, 5), (1, 6)] h h4 := my_fr.up gh_96_0 t0 fh4 rfl
                  exact J110_0 (v3) (p96_1) (p96_2) (p96_3) h4 (gh4) (by omega) (by omega) (by omega) (by omega) (by omega) (by omega) (by omega) (by omega) (by omega) (by omega) (by omega) (by omega) (by omega) (by omega) (by omega) (by omega) (by omega) (by omega) (by omega) (by omega) (by omega) (by omega) (by omega) (by omega) (by omega) (by omega) (by omega) (by omega) (by omega) (by omega) (by omega) (by omega) (by omega) (by omega) (by omega) (by omega) (by omega) (by omega) (by omega) (by omega) (by omega) (by omega) (by omega) (by omega) (by omega) (by omega) (by omega) ((my_up_self fh4).trans (by omega)) (((my_up_fld fh4 (by decide)).trans c4_96_0).trans (by omega)) (((my_up_fld fh4 (by decide)).trans c5_96_0).trans (by omega)) (((my_up_fld fh4 (by decide)).trans c6_96_0).trans (by omega))
                ·
                  refine w_iconst gz_126_6 (by decide) ?_
                  refine w_goto (t := 13) gz_126_7 rfl ?_
                  refine w_iret gz_126_13 gm_126 ?_
                  show wp l rho (d + 2) 136 106 [(2, x0), (2, x1), (0, x2), (0, x3), (0, p23_0), (0, p40_0), (0, p49_0)] [(0, 1), (0, v1), (2, x0)] h96_0 Q
                  refine w_ianyA gz_136_106 (fun v5 pv5 qv5 => ?_)
                  refine w_putA gz_136_107 t0 rd_1 rfl rfl (fun h6 fh6 => ?_)
                  have gh6 : my_fr [(1, 3), (1, 4), (1, 5), (1, 6)] h h6 := my_fr.up gh_96_0 t0 fh6 rfl
                  exact J110_0 (v5) (p96_1) (p96_2) (p96_3) h6 (gh6) (by omega) (by omega) (by omega) (by omega) (by omega) (by omega) (by omega) (by omega) (by omega) (by omega) (by omega) (by omega) (by omega) (by omega) (by omega) (by omega) (by omega) (by omega) (by omega) (by omega) (by omega) (by omega) (by omega) (by omega) (by omega) (by omega) (by omega) (by omega) (by omega) (by omega) (by omega) (by omega) (by omega) (by omega) (by omega) (by omega) (by omega) (by omega) (by omega) (by omega) (by omega) (by omega) (by omega) (by omega) (by omega) (by omega) (by omega) ((my_up_self fh6).trans (by omega)) (((my_up_fld fh6 (by decide)).trans c4_96_0).trans (by omega)) (((my_up_fld fh6 (by decide)).trans c5_96_0).trans (by omega)) (((my_up_fld fh6 (by decide)).trans c6_96_0).trans (by omega))
              refine w_iload gz_136_49 rfl ?_
              refine w_bipush gz_136_51 (by decide) ?_
              refine w_icgt (t := 116) gz_136_53 rfl (fun u7 => ?_) (fun u7 => ?_)
              ·
                refine w_iinc (ls' := [(2, x0), (2, x1), (0, x2), (0, x3), (0, p23_0), (0, (p40_0 + 1)), (0, p49_0)]) gz_136_116 rfl gm_136 rfl rfl rfl ⟨by omega, by omega⟩ ?_
                refine w_goto (t := 40) gz_136_119 rfl ?_
                refine w_weak (ls' := [(2, x0), (2, x1), (0, x2), (0, x3), (0, p23_0), (0, (p40_0 + 1)), (9, 0)]) (wk_e (wk_e (wk_e (wk_e (wk_e (wk_e (wk_9 wk_n))))))) ?_
                exact ih_40_0 ((p40_0 + 1)) (p49_1) (p49_2) (p49_3) (p49_4) h49_0 (gh_49_0) (by omega) (by omega) (by omega) (by omega) (by omega) (by omega) (by omega) (by omega) (by omega) (by omega) (by omega) (by omega) (by omega) (by omega) (by omega) (by omega) (by omega) (by omega) (by omega) (by omega) (by omega) (c3_49_0.trans (by omega)) (c4_49_0.trans (by omega)) (c5_49_0.trans (by omega)) (c6_49_0.trans (by omega)) (by omega)
              ·
                refine w_aload_n gz_136_56 rfl ?_
                refine w_iload_n gz_136_57 rfl ?_
                refine w_iload gz_136_58 rfl ?_
                refine w_iload gz_136_60 rfl ?_
                refine w_iload gz_136_62 rfl ?_
                refine w_inS (k := 3) (as := [(0, p49_0), (0, p40_0), (0, p23_0), (0, x2), (2, x1)]) (r := []) (ls0 := [(2, x1), (0, x2), (0, p23_0), (0, p40_0), (0, p49_0), (9, 0), (9, 0), (9, 0)]) gz_136_64 gm_125 rfl rfl rfl rfl rfl rfl (c4_Cutter_keysLeft (d := d) (x0 := x1) (x1 := x2) (x2 := p23_0) (x3 := p40_0) (x4 := p49_0) t1 (by omega) (by omega) (by omega) (by omega) (by omega) (by omega) (by omega) (by omega) (fun w8 w9 w10 => ?_) (fun v11 => ?_))
                ·
                  show wp l rho (d + 2) 136 67 [(2, x0), (2, x1), (0, x2), (0, x3), (0, p23_0), (0, p40_0), (0, p49_0)] [(0, 0)] h49_0 Q
                  refine w_iload_n gz_136_67 rfl ?_
                  refine w_icne (t := 110) gz_136_68 rfl (fun u12 => ?_) (fun u12 => ?_)
                  ·
                    exact J110_0 (p49_1) (p49_2) (p49_3) (p49_4) h49_0 (gh_49_0) (by omega) (by omega) (by omega) (by omega) (by omega) (by omega) (by omega) (by omega) (by omega) (by omega) (by omega) (by omega) (by omega) (by omega) (by omega) (by omega) (by omega) (by omega) (by omega) (by omega) (by omega) (by omega) (by omega) (by omega) (by omega) (by omega) (by omega) (by omega) (by omega) (by omega) (by omega) (by omega) (by omega) (by omega) (by omega) (by omega) (by omega) (by omega) (by omega) (by omega) (by omega) (by omega) (by omega) (by omega) (by omega) (by omega) (by omega) (c3_49_0.trans (by omega)) (c4_49_0.trans (by omega)) (c5_49_0.trans (by omega)) (c6_49_0.trans (by omega))
                  ·
                    refine w_aload_n gz_136_71 rfl ?_
                    refine w_getI gz_136_72 t0 rd_1 rfl (fun v13 ev13 pv13 qv13 => ?_)
                    have zv13 := ev13.trans c3_49_0
                    refine w_ifne (t := 96) gz_136_75 rfl (fun u14 => ?_) (fun u14 => ?_)
                    ·
                      exact J96_0 (v13) (p49_2) (p49_3) (p49_4) h49_0 (gh_49_0) (by omega) (by omega) (by omega) (by omega) (by omega) (by omega) (by omega) (by omega) (by omega) (by omega) (by omega) (by omega) (by omega) (by omega) (by omega) (by omega) (by omega) (by omega) (by omega) (by omega) (by omega) (by omega) (by omega) (by omega) (by omega) (by omega) (by omega) (by omega) (by omega) (by omega) (by omega) (by omega) (by omega) (by omega) (by omega) (by omega) (by omega) (by omega) (by omega) (by omega) (by omega) (by omega) (by omega) (by omega) (by omega) (by omega) (by omega) (by omega) (by omega) (ev13.symm.trans (by omega)) (c4_49_0.trans (by omega)) (c5_49_0.trans (by omega)) (c6_49_0.trans (by omega))
                    ·
                      refine w_aload_n gz_136_78 rfl ?_
                      refine w_iload gz_136_79 rfl ?_
                      refine w_putA gz_136_81 t0 rd_1 rfl rfl (fun h15 fh15 => ?_)
                      have gh15 : my_fr [(1, 3), (1, 4), (1, 5), (1, 6)] h h15 := my_fr.up gh_49_0 t0 fh15 rfl
                      refine w_aload_n gz_136_84 rfl ?_
                      refine w_iload gz_136_85 rfl ?_
                      refine w_putA gz_136_87 t0 rd_1 rfl rfl (fun h16 fh16 => ?_)
                      have gh16 : my_fr [(1, 3), (1, 4), (1, 5), (1, 6)] h h16 := my_fr.up gh15 t0 fh16 rfl
                      refine w_aload_n gz_136_90 rfl ?_
                      refine w_iload gz_136_91 rfl ?_
                      refine w_putA gz_136_93 t0 rd_1 rfl rfl (fun h17 fh17 => ?_)
                      have gh17 : my_fr [(1, 3), (1, 4), (1, 5), (1, 6)] h h17 := my_fr.up gh16 t0 fh17 rfl
                      exact J96_0 (v13) (p23_0) (p40_0) (p49_0) h17 (gh17) (by omega) (by omega) (by omega) (by omega) (by omega) (by omega) (by omega) (by omega) (by omega) (by omega) (by omega) (by omega) (by omega) (by omega) (by omega) (by omega) (by omega) (by omega) (by omega) (by omega) (by omega) (by omega) (by omega) (by omega) (by omega) (by omega) (by omega) (by omega) (by omega) (by omega) (by omega) (by omega) (by omega) (by omega) (by omega) (by omega) (by omega) (by omega) (by omega) (by omega) (by omega) (by omega) (by omega) (by omega) (by omega) (by omega) (by omega) (by omega) (by omega) (((my_up_fld fh17 (by decide)).trans ((my_up_fld fh16 (by decide)).trans ((my_up_fld fh15 (by decide)).trans ev13.symm))).trans (by omega)) (((my_up_fld fh17 (by decide)).trans ((my_up_fld fh16 (by decide)).trans (my_up_self fh15))).trans (by omega)) (((my_up_fld fh17 (by decide)).trans (my_up_self fh16)).trans (by omega)) ((my_up_self fh17).trans (by omega))
                ·
                  show wp l rho (d + 2) 136 67 [(2, x0), (2, x1), (0, x2), (0, x3), (0, p23_0), (0, p40_0), (0, p49_0)] [(0, v11)] h49_0 Q
                  refine w_iload_n gz_136_67 rfl ?_
                  refine w_icne (t := 110) gz_136_68 rfl (fun u18 => ?_) (fun u18 => ?_)
                  ·
                    exact J110_0 (p49_1) (p49_2) (p49_3) (p49_4) h49_0 (gh_49_0) (by omega) (by omega) (by omega) (by omega) (by omega) (by omega) (by omega) (by omega) (by omega) (by omega) (by omega) (by omega) (by omega) (by omega) (by omega) (by omega) (by omega) (by omega) (by omega) (by omega) (by omega) (by omega) (by omega) (by omega) (by omega) (by omega) (by omega) (by omega) (by omega) (by omega) (by omega) (by omega) (by omega) (by omega) (by omega) (by omega) (by omega) (by omega) (by omega) (by omega) (by omega) (by omega) (by omega) (by omega) (by omega) (by omega) (by omega) (c3_49_0.trans (by omega)) (c4_49_0.trans (by omega)) (c5_49_0.trans (by omega)) (c6_49_0.trans (by omega))
                  ·
                    refine w_aload_n gz_136_71 rfl ?_
                    refine w_getI gz_136_72 t0 rd_1 rfl (fun v19 ev19 pv19 qv19 => ?_)
                    have zv19 := ev19.trans c3_49_0
                    refine w_ifne (t := 96) gz_136_75 rfl (fun u20 => ?_) (fun u20 => ?_)
                    ·
                      exact J96_0 (v19) (p49_2) (p49_3) (p49_4) h49_0 (gh_49_0) (by omega) (by omega) (by omega) (by omega) (by omega) (by omega) (by omega) (by omega) (by omega) (by omega) (by omega) (by omega) (by omega) (by omega) (by omega) (by omega) (by omega) (by omega) (by omega) (by omega) (by omega) (by omega) (by omega) (by omega) (by omega) (by omega) (by omega) (by omega) (by omega) (by omega) (by omega) (by omega) (by omega) (by omega) (by omega) (by omega) (by omega) (by omega) (by omega) (by omega) (by omega) (by omega) (by omega) (by omega) (by omega) (by omega) (by omega) (by omega) (by omega) (ev19.symm.trans (by omega)) (c4_49_0.trans (by omega)) (c5_49_0.trans (by omega)) (c6_49_0.trans (by omega))
                    ·
                      refine w_aload_n gz_136_78 rfl ?_
                      refine w_iload gz_136_79 rfl ?_
                      refine w_putA gz_136_81 t0 rd_1 rfl rfl (fun h21 fh21 => ?_)
                      have gh21 : my_fr [(1, 3), (1, 4), (1, 5), (1, 6)] h h21 := my_fr.up gh_49_0 t0 fh21 rfl
                      refine w_aload_n gz_136_84 rfl ?_
                      refine w_iload gz_136_85 rfl ?_
                      refine w_putA gz_136_87 t0 rd_1 rfl rfl (fun h22 fh22 => ?_)
                      have gh22 : my_fr [(1, 3), (1, 4), (1, 5), (1, 6)] h h22 := my_fr.up gh21 t0 fh22 rfl
                      refine w_aload_n gz_136_90 rfl ?_
                      refine w_iload gz_136_91 rfl ?_
                      refine w_putA gz_136_93 t0 rd_1 rfl rfl (fun h23 fh23 => ?_)
                      have gh23 : my_fr [(1, 3), (1, 4), (1, 5), (1, 6)] h h23 := my_fr.up gh22 t0 fh23 rfl
                      exact J96_0 (v19) (p23_0) (p40_0) (p49_0) h23 (gh23) (by omega) (by omega) (by omega) (by omega) (by omega) (by omega) (by omega) (by omega) (by omega) (by omega) (by omega) (by omega) (by omega) (by omega) (by omega) (by omega) (by omega) (by omega) (by omega) (by omega) (by omega) (by omega) (by omega) (by omega) (by omega) (by omega) (by omega) (by omega) (by omega) (by omega) (by omega) (by omega) (by omega) (by omega) (by omega) (by omega) (by omega) (by omega) (by omega) (by omega) (by omega) (by omega) (by omega) (by omega) (by omega) (by omega) (by omega) (by omega) (by omega) (((my_up_fld fh23 (by decide)).trans ((my_up_fld fh22 (by decide)).trans ((my_up_fld fh21 (by decide)).trans ev19.symm))).trans (by omega)) (((my_up_fld fh23 (by decide)).trans ((my_up_fld fh22 (by decide)).trans (my_up_self fh21))).trans (by omega)) (((my_up_fld fh23 (by decide)).trans (my_up_self fh22)).trans (by omega)) ((my_up_self fh23).trans (by omega))
          refine w_iload gz_136_40 rfl ?_
          refine w_iconst gz_136_42 (by decide) ?_
          refine w_icgt (t := 122) gz_136_43 rfl (fun u24 => ?_) (fun u24 => ?_)
          ·
            refine w_iinc (ls' := [(2, x0), (2, x1), (0, x2), (0, x3), (0, (p23_0 + 1)), (0, p40_0), (9, 0)]) gz_136_122 rfl gm_136 rfl rfl rfl ⟨by omega, by omega⟩ ?_
            refine w_goto (t := 23) gz_136_125 rfl ?_
            refine w_weak (ls' := [(2, x0), (2, x1), (0, x2), (0, x3), (0, (p23_0 + 1)), (9, 0), (9, 0)]) (wk_e (wk_e (wk_e (wk_e (wk_e (wk_9 (wk_9 wk_n))))))) ?_
            exact ih_23_0 ((p23_0 + 1)) (p40_1) (p40_2) (p40_3) (p40_4) h40_0 (gh_40_0) (by omega) (by omega) (by omega) (by omega) (by omega) (by omega) (by omega) (by omega) (by omega) (by omega) (by omega) (by omega) (c3_40_0.trans (by omega)) (c4_40_0.trans (by omega)) (c5_40_0.trans (by omega)) (c6_40_0.trans (by omega)) (by omega)
          ·
            refine w_iconst gz_136_46 (by decide) ?_
            refine w_istore (ls' := [(2, x0), (2, x1), (0, x2), (0, x3), (0, p23_0), (0, p40_0), (0, 0)]) gz_136_47 gm_136 rfl rfl rfl ?_
            exact J49_0 22 (0) (p40_1) (p40_2) (p40_3) (p40_4) h40_0 (gh_40_0) (by omega) (by omega) (by omega) (by omega) (by omega) (by omega) (by omega) (by omega) (by omega) (by omega) (by omega) (by omega) (by omega) (by omega) (by omega) (by omega) (by omega) (by omega) (by omega) (by omega) (by omega) (by omega) (by omega) (by omega) (by omega) (by omega) (by omega) (by omega) (by omega) (by omega) (by omega) (by omega) (c3_40_0.trans (by omega)) (c4_40_0.trans (by omega)) (c5_40_0.trans (by omega)) (c6_40_0.trans (by omega)) (by omega)
      refine w_iload gz_136_23 rfl ?_
      refine w_aload_n gz_136_25 rfl ?_
      refine w_getR gz_136_26 t0 rd_1 rfl (fun v25 ev25 tv25 => ?_)
      refine w_getR gz_136_29 tv25 rd_3 rfl (fun v26 ev26 tv26 => ?_)
      refine w_iload_n gz_136_32 rfl ?_
      refine w_iald gz_136_33 tv26 rd_25 (by omega) (by omega) (fun v27 ev27 pv27 qv27 => ?_)
      refine w_icge (t := 128) gz_136_34 rfl (fun u28 => ?_) (fun u28 => ?_)
      ·
        have c29 := c4_23_0
        have c30 := c5_23_0
        have c31 := c6_23_0
        exact w_vret gz_136_128 gm_136 (k0 h23_0 (gh_23_0) (by omega) (by omega) (by omega) (by omega) (by omega) (by omega))
      ·
        refine w_iconst gz_136_37 (by decide) ?_
        refine w_istore (ls' := [(2, x0), (2, x1), (0, x2), (0, x3), (0, p23_0), (0, 0), (9, 0)]) gz_136_38 gm_136 rfl rfl rfl ?_
        exact J40_0 4 (0) (p23_1) (p23_2) (p23_3) (p23_4) h23_0 (gh_23_0) (by omega) (by omega) (by omega) (by omega) (by omega) (by omega) (by omega) (by omega) (by omega) (by omega) (by omega) (by omega) (by omega) (by omega) (by omega) (by omega) (by omega) (by omega) (by omega) (by omega) (by omega) (c3_23_0.trans (by omega)) (c4_23_0.trans (by omega)) (c5_23_0.trans (by omega)) (c6_23_0.trans (by omega)) (by omega)
  refine w_aload_n gz_136_0 rfl ?_
  refine w_iconst gz_136_1 (by decide) ?_
  refine w_putA gz_136_2 t0 rd_1 rfl rfl (fun h32 fh32 => ?_)
  have gh32 : my_fr [(1, 3), (1, 4), (1, 5), (1, 6)] h h32 := my_fr.up my_fr.rf t0 fh32 rfl
  refine w_aload_n gz_136_5 rfl ?_
  refine w_iconst gz_136_6 (by decide) ?_
  refine w_putA gz_136_7 t0 rd_1 rfl rfl (fun h33 fh33 => ?_)
  have gh33 : my_fr [(1, 3), (1, 4), (1, 5), (1, 6)] h h33 := my_fr.up gh32 t0 fh33 rfl
  refine w_aload_n gz_136_10 rfl ?_
  refine w_iconst gz_136_11 (by decide) ?_
  refine w_putA gz_136_12 t0 rd_1 rfl rfl (fun h34 fh34 => ?_)
  have gh34 : my_fr [(1, 3), (1, 4), (1, 5), (1, 6)] h h34 := my_fr.up gh33 t0 fh34 rfl
  refine w_aload_n gz_136_15 rfl ?_
  refine w_iconst gz_136_16 (by decide) ?_
  refine w_putA gz_136_17 t0 rd_1 rfl rfl (fun h35 fh35 => ?_)
  have gh35 : my_fr [(1, 3), (1, 4), (1, 5), (1, 6)] h h35 := my_fr.up gh34 t0 fh35 rfl
  refine w_iconst gz_136_20 (by decide) ?_
  refine w_istore (ls' := [(2, x0), (2, x1), (0, x2), (0, x3), (0, 0), (9, 0), (9, 0)]) gz_136_21 gm_136 rfl rfl rfl ?_
  exact J23_0 5 (0) (0) ((-1)) ((-1)) ((-1)) h35 (gh35) (by omega) (by omega) (by omega) (by omega) (by omega) (by omega) (by omega) (by omega) (by omega) (by omega) (by omega) (by omega) (((my_up_fld fh35 (by decide)).trans ((my_up_fld fh34 (by decide)).trans ((my_up_fld fh33 (by decide)).trans (my_up_self fh32)))).trans (by omega)) (((my_up_fld fh35 (by decide)).trans ((my_up_fld fh34 (by decide)).trans (my_up_self fh33))).trans (by omega)) (((my_up_fld fh35 (by decide)).trans (my_up_self fh34)).trans (by omega)) ((my_up_self fh35).trans (by omega)) (by omega)
theorem gz_140_0 : mz_pg 140 0 = some (.iconst 0, 0, 0, 0) := by decide +kernel
theorem gz_140_1 : mz_pg 140 1 = some (.istore_n 1, 0, 0, 0) := by decide +kernel
theorem gz_140_2 : mz_pg 140 2 = some (.iconst 0, 0, 0, 0) := by decide +kernel
theorem gz_140_3 : mz_pg 140 3 = some (.istore_n 2, 0, 0, 0) := by decide +kernel
theorem gz_140_4 : mz_pg 140 4 = some (.iload_n 2, 0, 0, 0) := by decide +kernel
theorem gz_140_5 : mz_pg 140 5 = some (.bipush 6, 0, 0, 0) := by decide +kernel
theorem gz_140_7 : mz_pg 140 7 = some (.if_icmp .ge 24, 0, 0, 0) := by decide +kernel
theorem gz_140_10 : mz_pg 140 10 = some (.aload_n 0, 0, 0, 0) := by decide +kernel
theorem gz_140_11 : mz_pg 140 11 = some (.getfield 36, 9, 6, 534) := by decide +kernel
theorem gz_140_14 : mz_pg 140 14 = some (.iload_n 2, 0, 0, 0) := by decide +kernel
theorem gz_140_15 : mz_pg 140 15 = some (.aaload, 0, 0, 0) := by decide +kernel
theorem gz_140_16 : mz_pg 140 16 = some (.getfield 337, 4, 0, 197) := by decide +kernel
theorem gz_140_19 : mz_pg 140 19 = some (.ifCond .eq 6, 0, 0, 0) := by decide +kernel
theorem gz_140_22 : mz_pg 140 22 = some (.iinc 1 1, 0, 0, 0) := by decide +kernel
theorem gz_140_25 : mz_pg 140 25 = some (.iinc 2 1, 0, 0, 0) := by decide +kernel
theorem gz_140_28 : mz_pg 140 28 = some (.goto (-24), 0, 0, 0) := by decide +kernel
theorem gz_140_31 : mz_pg 140 31 = some (.iload_n 1, 0, 0, 0) := by decide +kernel
theorem gz_140_32 : mz_pg 140 32 = some (.ireturn, 0, 0, 0) := by decide +kernel
theorem gm_140 : my_mm 140 3 (some .int) 0 9 := by unfold my_mm; decide +kernel
theorem c8_ThroughWindow_countTold {l : Launch} {rho : Nat → Int32} {d : Nat} {h : my_H} {Q : my_H → my_V → Prop} {x0 : Int} (t0 : my_is 9 x0) (k0 : ∀ (y : Int), 0 ≤ y → y ≤ 6 → Q h (0, y)) : wp l rho d 140 0 [(2, x0), (9, 0), (9, 0)] [] h Q := by
  have J4_0 : ∀ (n : Nat) (p4_0 p4_1 : Int), 0 ≤ p4_0 → p4_0 ≤ 6 → 0 ≤ p4_1 → p4_1 ≤ 6 → p4_0 ≤ p4_1 → 7 - p4_1 ≤ (n : Int) → wp l rho d 140 4 [(2, x0), (0, p4_0), (0, p4_1)] [] h Q := by
    intro n
    induction n with
    | zero => intro p4_0 p4_1 q0_4_0 q1_4_0 q2_4_0 q3_4_0 q4_4_0 hm_4_0; exfalso; omega
    | succ n ih_4_0 =>
      intro p4_0 p4_1 q0_4_0 q1_4_0 q2_4_0 q3_4_0 q4_4_0 hm_4_0
      have J25_0 : ∀ (p25_0 : Int), 0 ≤ p25_0 → p25_0 ≤ 6 → p4_1 ≤ 5 → p4_0 ≤ 5 → p25_0 ≤ (p4_1 + 1) → p25_0 ≤ (p4_0 + 1) → p4_0 ≤ p25_0 → p4_0 ≤ p4_1 → wp l rho d 140 25 [(2, x0), (0, p25_0), (0, p4_1)] [] h Q := by
        intro p25_0 q0_25_0 q1_25_0 q2_25_0 q3_25_0 q4_25_0 q5_25_0 q6_25_0 q7_25_0
        refine w_iinc (ls' := [(2, x0), (0, p25_0), (0, (p4_1 + 1))]) gz_140_25 rfl gm_140 rfl rfl rfl ⟨by omega, by omega⟩ ?_
        refine w_goto (t := 4) gz_140_28 rfl ?_
        exact ih_4_0 (p25_0) ((p4_1 + 1)) (by omega) (by omega) (by omega) (by omega) (by omega) (by omega)
      refine w_iload_n gz_140_4 rfl ?_
      refine w_bipush gz_140_5 (by decide) ?_
      refine w_icge (t := 31) gz_140_7 rfl (fun u1 => ?_) (fun u1 => ?_)
      ·
        refine w_iload_n gz_140_31 rfl ?_
        exact w_iret gz_140_32 gm_140 (k0 (p4_0) (by omega) (by omega))
      ·
        refine w_aload_n gz_140_10 rfl ?_
        refine w_getR gz_140_11 t0 rd_9 rfl (fun v2 ev2 tv2 => ?_)
        refine w_iload_n gz_140_14 rfl ?_
        refine w_aald gz_140_15 tv2 rd_22 rfl (by omega) (by omega) (fun v3 ev3 tv3 => ?_)
        refine w_getI gz_140_16 tv3 rd_4 rfl (fun v4 ev4 pv4 qv4 => ?_)
        refine w_ifeq (t := 25) gz_140_19 rfl (fun u5 => ?_) (fun u5 => ?_)
        ·
          exact J25_0 (p4_0) (by omega) (by omega) (by omega) (by omega) (by omega) (by omega) (by omega) (by omega)
        ·
          refine w_iinc (ls' := [(2, x0), (0, (p4_0 + 1)), (0, p4_1)]) gz_140_22 rfl gm_140 rfl rfl rfl ⟨by omega, by omega⟩ ?_
          exact J25_0 ((p4_0 + 1)) (by omega) (by omega) (by omega) (by omega) (by omega) (by omega) (by omega) (by omega)
  refine w_iconst gz_140_0 (by decide) ?_
  refine w_istore_n (ls' := [(2, x0), (0, 0), (9, 0)]) gz_140_1 gm_140 rfl rfl rfl ?_
  refine w_iconst gz_140_2 (by decide) ?_
  refine w_istore_n (ls' := [(2, x0), (0, 0), (0, 0)]) gz_140_3 gm_140 rfl rfl rfl ?_
  exact J4_0 7 (0) (0) (by omega) (by omega) (by omega) (by omega) (by omega) (by omega)
theorem gz_141_0 : mz_pg 141 0 = some (.iconst 0, 0, 0, 0) := by decide +kernel
theorem gz_141_1 : mz_pg 141 1 = some (.istore_n 1, 0, 0, 0) := by decide +kernel
theorem gz_141_2 : mz_pg 141 2 = some (.iconst 0, 0, 0, 0) := by decide +kernel
theorem gz_141_3 : mz_pg 141 3 = some (.istore_n 2, 0, 0, 0) := by decide +kernel
theorem gz_141_4 : mz_pg 141 4 = some (.iload_n 2, 0, 0, 0) := by decide +kernel
theorem gz_141_5 : mz_pg 141 5 = some (.aload_n 0, 0, 0, 0) := by decide +kernel
theorem gz_141_6 : mz_pg 141 6 = some (.getfield 9, 6, 0, 176) := by decide +kernel
theorem gz_141_9 : mz_pg 141 9 = some (.arraylength, 0, 0, 0) := by decide +kernel
theorem gz_141_10 : mz_pg 141 10 = some (.if_icmp .ge 28, 0, 0, 0) := by decide +kernel
theorem gz_141_13 : mz_pg 141 13 = some (.aload_n 0, 0, 0, 0) := by decide +kernel
theorem gz_141_14 : mz_pg 141 14 = some (.getfield 9, 6, 0, 176) := by decide +kernel
theorem gz_141_17 : mz_pg 141 17 = some (.iload_n 2, 0, 0, 0) := by decide +kernel
theorem gz_141_18 : mz_pg 141 18 = some (.iaload, 0, 0, 0) := by decide +kernel
theorem gz_141_19 : mz_pg 141 19 = some (.iconst (-1), 0, 0, 0) := by decide +kernel
theorem gz_141_20 : mz_pg 141 20 = some (.if_icmp .eq 12, 0, 0, 0) := by decide +kernel
theorem gz_141_23 : mz_pg 141 23 = some (.iload_n 1, 0, 0, 0) := by decide +kernel
theorem gz_141_24 : mz_pg 141 24 = some (.aload_n 0, 0, 0, 0) := by decide +kernel
theorem gz_141_25 : mz_pg 141 25 = some (.getfield 9, 6, 0, 176) := by decide +kernel
theorem gz_141_28 : mz_pg 141 28 = some (.iload_n 2, 0, 0, 0) := by decide +kernel
theorem gz_141_29 : mz_pg 141 29 = some (.iaload, 0, 0, 0) := by decide +kernel
theorem gz_141_30 : mz_pg 141 30 = some (.iadd, 0, 0, 0) := by decide +kernel
theorem gz_141_31 : mz_pg 141 31 = some (.istore_n 1, 0, 0, 0) := by decide +kernel
theorem gz_141_32 : mz_pg 141 32 = some (.iinc 2 1, 0, 0, 0) := by decide +kernel
theorem gz_141_35 : mz_pg 141 35 = some (.goto (-31), 0, 0, 0) := by decide +kernel
theorem gz_141_38 : mz_pg 141 38 = some (.iload_n 1, 0, 0, 0) := by decide +kernel
theorem gz_141_39 : mz_pg 141 39 = some (.ireturn, 0, 0, 0) := by decide +kernel
theorem gm_141 : my_mm 141 3 (some .int) 0 6 := by unfold my_mm; decide +kernel
theorem c9_Rows_sumOfValues {l : Launch} {rho : Nat → Int32} {d : Nat} {h : my_H} {Q : my_H → my_V → Prop} {x0 : Int} (t0 : my_is 6 x0) (k0 : ∀ (y : Int), Q h (0, y)) : wp l rho d 141 0 [(2, x0), (9, 0), (9, 0)] [] h Q := by
  have J4_0 : ∀ (n : Nat) (p4_0 p4_1 : Int), 0 ≤ p4_1 → p4_1 ≤ 240 → 241 - p4_1 ≤ (n : Int) → wp l rho d 141 4 [(2, x0), (0, p4_0), (0, p4_1)] [] h Q := by
    intro n
    induction n with
    | zero => intro p4_0 p4_1 q0_4_0 q1_4_0 hm_4_0; exfalso; omega
    | succ n ih_4_0 =>
      intro p4_0 p4_1 q0_4_0 q1_4_0 hm_4_0
      have J32_0 : ∀ (p32_0 : Int), p4_1 ≤ 239 → wp l rho d 141 32 [(2, x0), (0, p32_0), (0, p4_1)] [] h Q := by
        intro p32_0 q0_32_0
        refine w_iinc (ls' := [(2, x0), (0, p32_0), (0, (p4_1 + 1))]) gz_141_32 rfl gm_141 rfl rfl rfl ⟨by omega, by omega⟩ ?_
        refine w_goto (t := 4) gz_141_35 rfl ?_
        exact ih_4_0 (p32_0) ((p4_1 + 1)) (by omega) (by omega) (by omega)
      refine w_iload_n gz_141_4 rfl ?_
      refine w_aload_n gz_141_5 rfl ?_
      refine w_getR gz_141_6 t0 rd_6 rfl (fun v1 ev1 tv1 => ?_)
      refine w_alen gz_141_9 tv1 rd_30 (by decide) ?_
      refine w_icge (t := 38) gz_141_10 rfl (fun u2 => ?_) (fun u2 => ?_)
      ·
        refine w_iload_n gz_141_38 rfl ?_
        exact w_iret gz_141_39 gm_141 (k0 (p4_0))
      ·
        refine w_aload_n gz_141_13 rfl ?_
        refine w_getR gz_141_14 t0 rd_6 rfl (fun v3 ev3 tv3 => ?_)
        have zv3 : v1 = v3 := (ev3.trans ev1.symm).symm
        subst zv3
        refine w_iload_n gz_141_17 rfl ?_
        refine w_iald gz_141_18 tv1 rd_30 (by omega) (by omega) (fun v4 ev4 pv4 qv4 => ?_)
        refine w_iconst gz_141_19 (by decide) ?_
        refine w_iceq (t := 32) gz_141_20 rfl (fun u5 => ?_) (fun u5 => ?_)
        ·
          exact J32_0 (p4_0) (by omega)
        ·
          refine w_iload_n gz_141_23 rfl ?_
          refine w_aload_n gz_141_24 rfl ?_
          refine w_getR gz_141_25 t0 rd_6 rfl (fun v6 ev6 tv6 => ?_)
          have zv6 : v1 = v6 := (ev6.trans ev1.symm).symm
          subst zv6
          refine w_iload_n gz_141_28 rfl ?_
          refine w_iald gz_141_29 tv1 rd_30 (by omega) (by omega) (fun v7 ev7 pv7 qv7 => ?_)
          have zv7 := ev7.trans ev4.symm
          refine w_ianyA gz_141_30 (fun v8 pv8 qv8 => ?_)
          refine w_istore_n (ls' := [(2, x0), (0, v8), (0, p4_1)]) gz_141_31 gm_141 rfl rfl rfl ?_
          exact J32_0 (v8) (by omega)
  refine w_iconst gz_141_0 (by decide) ?_
  refine w_istore_n (ls' := [(2, x0), (0, 0), (9, 0)]) gz_141_1 gm_141 rfl rfl rfl ?_
  refine w_iconst gz_141_2 (by decide) ?_
  refine w_istore_n (ls' := [(2, x0), (0, 0), (0, 0)]) gz_141_3 gm_141 rfl rfl rfl ?_
  exact J4_0 241 (0) (0) (by omega) (by omega) (by omega)
theorem gz_144_0 : mz_pg 144 0 = some (.bipush 56, 0, 0, 0) := by decide +kernel
theorem gz_144_2 : mz_pg 144 2 = some (.istore_n 3, 0, 0, 0) := by decide +kernel
theorem gz_144_3 : mz_pg 144 3 = some (.iload_n 3, 0, 0, 0) := by decide +kernel
theorem gz_144_4 : mz_pg 144 4 = some (.ifCond .lt 71, 0, 0, 0) := by decide +kernel
theorem gz_144_7 : mz_pg 144 7 = some (.lload_n 1, 0, 0, 0) := by decide +kernel
theorem gz_144_8 : mz_pg 144 8 = some (.iload_n 3, 0, 0, 0) := by decide +kernel
theorem gz_144_9 : mz_pg 144 9 = some (.lshr, 0, 0, 0) := by decide +kernel
theorem gz_144_10 : mz_pg 144 10 = some (.l2i, 0, 0, 0) := by decide +kernel
theorem gz_144_11 : mz_pg 144 11 = some (.sipush 255, 0, 0, 0) := by decide +kernel
theorem gz_144_14 : mz_pg 144 14 = some (.iand, 0, 0, 0) := by decide +kernel
theorem gz_144_15 : mz_pg 144 15 = some (.istore 4, 0, 0, 0) := by decide +kernel
theorem gz_144_17 : mz_pg 144 17 = some (.iload 4, 0, 0, 0) := by decide +kernel
theorem gz_144_19 : mz_pg 144 19 = some (.bipush 10, 0, 0, 0) := by decide +kernel
theorem gz_144_21 : mz_pg 144 21 = some (.if_icmp .eq 17, 0, 0, 0) := by decide +kernel
theorem gz_144_24 : mz_pg 144 24 = some (.iload 4, 0, 0, 0) := by decide +kernel
theorem gz_144_26 : mz_pg 144 26 = some (.bipush 32, 0, 0, 0) := by decide +kernel
theorem gz_144_28 : mz_pg 144 28 = some (.if_icmp .lt 41, 0, 0, 0) := by decide +kernel
theorem gz_144_31 : mz_pg 144 31 = some (.iload 4, 0, 0, 0) := by decide +kernel
theorem gz_144_33 : mz_pg 144 33 = some (.bipush 126, 0, 0, 0) := by decide +kernel
theorem gz_144_35 : mz_pg 144 35 = some (.if_icmp .gt 34, 0, 0, 0) := by decide +kernel
theorem gz_144_38 : mz_pg 144 38 = some (.aload_n 0, 0, 0, 0) := by decide +kernel
theorem gz_144_39 : mz_pg 144 39 = some (.getfield 11, 10, 2, 1215) := by decide +kernel
theorem gz_144_42 : mz_pg 144 42 = some (.sipush 1000, 0, 0, 0) := by decide +kernel
theorem gz_144_45 : mz_pg 144 45 = some (.if_icmp .ge 24, 0, 0, 0) := by decide +kernel
theorem gz_144_48 : mz_pg 144 48 = some (.aload_n 0, 0, 0, 0) := by decide +kernel
theorem gz_144_49 : mz_pg 144 49 = some (.getfield 14, 10, 1, 1214) := by decide +kernel
theorem gz_144_52 : mz_pg 144 52 = some (.aload_n 0, 0, 0, 0) := by decide +kernel
theorem gz_144_53 : mz_pg 144 53 = some (.getfield 11, 10, 2, 1215) := by decide +kernel
theorem gz_144_56 : mz_pg 144 56 = some (.iload 4, 0, 0, 0) := by decide +kernel
theorem gz_144_58 : mz_pg 144 58 = some (.iastore, 0, 0, 0) := by decide +kernel
theorem gz_144_59 : mz_pg 144 59 = some (.aload_n 0, 0, 0, 0) := by decide +kernel
theorem gz_144_60 : mz_pg 144 60 = some (.dup, 0, 0, 0) := by decide +kernel
theorem gz_144_61 : mz_pg 144 61 = some (.getfield 11, 10, 2, 1215) := by decide +kernel
theorem gz_144_64 : mz_pg 144 64 = some (.iconst 1, 0, 0, 0) := by decide +kernel
theorem gz_144_65 : mz_pg 144 65 = some (.iadd, 0, 0, 0) := by decide +kernel
theorem gz_144_66 : mz_pg 144 66 = some (.putfield 11, 10, 2, 1215) := by decide +kernel
theorem gz_144_69 : mz_pg 144 69 = some (.iinc 3 (-8), 0, 0, 0) := by decide +kernel
theorem gz_144_72 : mz_pg 144 72 = some (.goto (-69), 0, 0, 0) := by decide +kernel
theorem gz_144_75 : mz_pg 144 75 = some (.return_, 0, 0, 0) := by decide +kernel
theorem gm_144 : my_mm 144 5 none 1 10 := by unfold my_mm; decide +kernel
theorem rd_10 : my_rd 10 = .inr (10, [(0, 0, 1), (2, 51, 0), (0, 0, 1000), (0, 0, 1000), (2, 52, 0), (2, 53, 0), (2, 54, 0), (0, 0, 1001), (0, 0, 16005), (2, 55, 0), (2, 56, 0), (2, 57, 0), (2, 58, 0), (2, 59, 0), (2, 60, 0), (2, 61, 0), (2, 62, 0), (2, 63, 0), (2, 64, 0), (2, 65, 0), (2, 66, 0), (2, 67, 0), (2, 68, 0), (2, 69, 0), (2, 70, 0), (2, 71, 0), (2, 72, 0), (0, 0, 8), (2, 73, 0), (2, 74, 0), (2, 75, 0), (2, 76, 0), (0, 0, 6), (0, 0, 2), (2, 77, 0), (2, 78, 0), (2, 79, 0), (0, 0, 10), (2, 80, 0), (2, 81, 0), (2, 82, 0), (2, 83, 0), (2, 84, 0), (2, 85, 0), (2, 86, 0), (2, 87, 0), (0, 0, 11), (2, 88, 0), (0, 0, 1800), (2, 89, 0), (2, 90, 0), (2, 91, 0), (2, 92, 0), (2, 93, 0), (2, 94, 0), (0, 0, 1), (2, 95, 0), (2, 96, 0), (2, 97, 0), (2, 98, 0), (2, 99, 0), (2, 100, 0), (0, -2147483648, 2147483647), (0, 0, 6), (0, -2147483648, 2147483647), (0, -2147483648, 2147483647), (2, 101, 0)]) := rfl
theorem rd_51 : my_rd 51 = .inl (0, 1000, [(0, 0, 126)]) := rfl
theorem c10_Model_lay {l : Launch} {rho : Nat → Int32} {d : Nat} {h : my_H} {Q : my_H → my_V → Prop} {x0 x1 : Int} (t0 : my_is 10 x0) (k0 : ∀ (h' : my_H), my_fr [(10, 2), (51, -1)] h h' → Q h' (9, 0)) : wp l rho d 144 0 [(2, x0), (1, x1), (9, 0), (9, 0), (9, 0)] [] h Q := by
  have J3_0 : ∀ (n : Nat) (z3_l1 p3_0 : Int) (h3_0 : my_H), my_fr [(10, 2), (51, -1)] h h3_0 → (-8) ≤ p3_0 → p3_0 ≤ 56 → p3_0 - (-9) ≤ (n : Int) → wp l rho d 144 3 [(2, x0), (1, z3_l1), (9, 0), (0, p3_0), (9, 0)] [] h3_0 Q := by
    intro n
    induction n with
    | zero => intro z3_l1 p3_0 h3_0 gh_3_0 q0_3_0 q1_3_0 hm_3_0; exfalso; omega
    | succ n ih_3_0 =>
      intro z3_l1 p3_0 h3_0 gh_3_0 q0_3_0 q1_3_0 hm_3_0
      have J69_0 : ∀ (z69_l1 p69_0 : Int) (h69_0 : my_H), my_fr [(10, 2), (51, -1)] h h69_0 → 0 ≤ p3_0 → 0 ≤ p69_0 → p69_0 ≤ 255 → wp l rho d 144 69 [(2, x0), (1, z69_l1), (9, 0), (0, p3_0), (0, p69_0)] [] h69_0 Q := by
        intro z69_l1 p69_0 h69_0 gh_69_0 q0_69_0 q1_69_0 q2_69_0
        refine w_iinc (ls' := [(2, x0), (1, z69_l1), (9, 0), (0, (p3_0 + (-8))), (0, p69_0)]) gz_144_69 rfl gm_144 rfl rfl rfl ⟨by omega, by omega⟩ ?_
        refine w_goto (t := 3) gz_144_72 rfl ?_
        refine w_weak (ls' := [(2, x0), (1, z69_l1), (9, 0), (0, (p3_0 + (-8))), (9, 0)]) (wk_e (wk_e (wk_9 (wk_e (wk_9 wk_n))))) ?_
        exact ih_3_0 (z69_l1) ((p3_0 + (-8))) h69_0 (gh_69_0) (by omega) (by omega) (by omega)
      have J38_0 : ∀ (z38_l1 p38_0 : Int) (h38_0 : my_H), my_fr [(10, 2), (51, -1)] h h38_0 → 0 ≤ p3_0 → 10 ≤ p38_0 → p38_0 ≤ 126 → wp l rho d 144 38 [(2, x0), (1, z38_l1), (9, 0), (0, p3_0), (0, p38_0)] [] h38_0 Q := by
        intro z38_l1 p38_0 h38_0 gh_38_0 q0_38_0 q1_38_0 q2_38_0
        refine w_aload_n gz_144_38 rfl ?_
        refine w_getI gz_144_39 t0 rd_10 rfl (fun v1 ev1 pv1 qv1 => ?_)
        refine w_sipush gz_144_42 (by decide) ?_
        refine w_icge (t := 69) gz_144_45 rfl (fun u2 => ?_) (fun u2 => ?_)
        ·
          exact J69_0 (z38_l1) (p38_0) h38_0 (gh_38_0) (by omega) (by omega) (by omega)
        ·
          refine w_aload_n gz_144_48 rfl ?_
          refine w_getR gz_144_49 t0 rd_10 rfl (fun v3 ev3 tv3 => ?_)
          refine w_aload_n gz_144_52 rfl ?_
          refine w_getI gz_144_53 t0 rd_10 rfl (fun v4 ev4 pv4 qv4 => ?_)
          have zv4 := ev4.trans ev1.symm
          refine w_iload gz_144_56 rfl ?_
          refine w_iast gz_144_58 tv3 rd_51 (by omega) (by omega) (by omega) (by omega) (fun h5 fh5 => ?_)
          have gh5 : my_fr [(10, 2), (51, -1)] h h5 := my_fr.up gh_38_0 tv3 fh5 rfl
          refine w_aload_n gz_144_59 rfl ?_
          refine w_dup gz_144_60 rfl ?_
          refine w_getI gz_144_61 t0 rd_10 rfl (fun v6 ev6 pv6 qv6 => ?_)
          have zv6 := ev6.trans ((my_up_role fh5 t0 tv3 rfl).trans ev4.symm)
          refine w_iconst gz_144_64 (by decide) ?_
          refine w_iadd gz_144_65 ⟨by omega, by omega⟩ ?_
          refine w_putI gz_144_66 t0 rd_10 rfl (by omega) (by omega) rfl (fun h7 fh7 => ?_)
          have gh7 : my_fr [(10, 2), (51, -1)] h h7 := my_fr.up gh5 t0 fh7 rfl
          exact J69_0 (z38_l1) (p38_0) h7 (gh7) (by omega) (by omega) (by omega)
      refine w_iload_n gz_144_3 rfl ?_
      refine w_iflt (t := 75) gz_144_4 rfl (fun u8 => ?_) (fun u8 => ?_)
      ·
        exact w_vret gz_144_75 gm_144 (k0 h3_0 (gh_3_0))
      ·
        refine w_lload_n gz_144_7 rfl ?_
        refine w_iload_n gz_144_8 rfl ?_
        refine w_jshf gz_144_9 (fun _ => rfl) rfl (fun v9 pv9 => ?_)
        refine w_l2i gz_144_10 (fun v10 pv10 qv10 => ?_)
        refine w_sipush gz_144_11 (by decide) ?_
        refine w_iandM gz_144_14 (by decide) (fun v11 pv11 qv11 => ?_)
        refine w_istore (ls' := [(2, x0), (1, z3_l1), (9, 0), (0, p3_0), (0, v11)]) gz_144_15 gm_144 rfl rfl rfl ?_
        refine w_iload gz_144_17 rfl ?_
        refine w_bipush gz_144_19 (by decide) ?_
        refine w_iceq (t := 38) gz_144_21 rfl (fun u12 => ?_) (fun u12 => ?_)
        ·
          exact J38_0 (z3_l1) (v11) h3_0 (gh_3_0) (by omega) (by omega) (by omega)
        ·
          refine w_iload gz_144_24 rfl ?_
          refine w_bipush gz_144_26 (by decide) ?_
          refine w_iclt (t := 69) gz_144_28 rfl (fun u13 => ?_) (fun u13 => ?_)
          ·
            exact J69_0 (z3_l1) (v11) h3_0 (gh_3_0) (by omega) (by omega) (by omega)
          ·
            refine w_iload gz_144_31 rfl ?_
            refine w_bipush gz_144_33 (by decide) ?_
            refine w_icgt (t := 69) gz_144_35 rfl (fun u14 => ?_) (fun u14 => ?_)
            ·
              exact J69_0 (z3_l1) (v11) h3_0 (gh_3_0) (by omega) (by omega) (by omega)
            ·
              exact J38_0 (z3_l1) (v11) h3_0 (gh_3_0) (by omega) (by omega) (by omega)
  refine w_bipush gz_144_0 (by decide) ?_
  refine w_istore_n (ls' := [(2, x0), (1, x1), (9, 0), (0, 56), (9, 0)]) gz_144_2 gm_144 rfl rfl rfl ?_
  exact J3_0 65 (x1) (56) h (my_fr.rf) (by omega) (by omega) (by omega)
theorem gz_146_0 : mz_pg 146 0 = some (.aload_n 0, 0, 0, 0) := by decide +kernel
theorem gz_146_1 : mz_pg 146 1 = some (.iconst 0, 0, 0, 0) := by decide +kernel
theorem gz_146_2 : mz_pg 146 2 = some (.putfield 1, 10, 0, 1213) := by decide +kernel
theorem gz_146_5 : mz_pg 146 5 = some (.iload_n 1, 0, 0, 0) := by decide +kernel
theorem gz_146_6 : mz_pg 146 6 = some (.iconst 0, 0, 0, 0) := by decide +kernel
theorem gz_146_7 : mz_pg 146 7 = some (.iconst 2, 0, 0, 0) := by decide +kernel
theorem gz_146_8 : mz_pg 146 8 = some (.invokestatic 250, 1, 147, 1419) := by decide +kernel
theorem gz_146_11 : mz_pg 146 11 = some (.ifCond .eq 21, 0, 0, 0) := by decide +kernel
theorem gz_146_14 : mz_pg 146 14 = some (.iload_n 2, 0, 0, 0) := by decide +kernel
theorem gz_146_15 : mz_pg 146 15 = some (.iconst 1, 0, 0, 0) := by decide +kernel
theorem gz_146_16 : mz_pg 146 16 = some (.iconst 4, 0, 0, 0) := by decide +kernel
theorem gz_146_17 : mz_pg 146 17 = some (.invokestatic 250, 1, 147, 1419) := by decide +kernel
theorem gz_146_20 : mz_pg 146 20 = some (.ifCond .eq 12, 0, 0, 0) := by decide +kernel
theorem gz_146_23 : mz_pg 146 23 = some (.aload_n 0, 0, 0, 0) := by decide +kernel
theorem gz_146_24 : mz_pg 146 24 = some (.getfield 61, 10, 10, 1223) := by decide +kernel
theorem gz_146_27 : mz_pg 146 27 = some (.iload_n 1, 0, 0, 0) := by decide +kernel
theorem gz_146_28 : mz_pg 146 28 = some (.iaload, 0, 0, 0) := by decide +kernel
theorem gz_146_29 : mz_pg 146 29 = some (.ifCond .le 5, 0, 0, 0) := by decide +kernel
theorem gz_146_32 : mz_pg 146 32 = some (.iconst 0, 0, 0, 0) := by decide +kernel
theorem gz_146_33 : mz_pg 146 33 = some (.ireturn, 0, 0, 0) := by decide +kernel
theorem gz_146_34 : mz_pg 146 34 = some (.aload_n 0, 0, 0, 0) := by decide +kernel
theorem gz_146_35 : mz_pg 146 35 = some (.getfield 61, 10, 10, 1223) := by decide +kernel
theorem gz_146_38 : mz_pg 146 38 = some (.iload_n 1, 0, 0, 0) := by decide +kernel
theorem gz_146_39 : mz_pg 146 39 = some (.iload_n 2, 0, 0, 0) := by decide +kernel
theorem gz_146_40 : mz_pg 146 40 = some (.iastore, 0, 0, 0) := by decide +kernel
theorem gz_146_41 : mz_pg 146 41 = some (.iconst 1, 0, 0, 0) := by decide +kernel
theorem gz_146_42 : mz_pg 146 42 = some (.ireturn, 0, 0, 0) := by decide +kernel
theorem gz_147_0 : mz_pg 147 0 = some (.iload_n 0, 0, 0, 0) := by decide +kernel
theorem gz_147_1 : mz_pg 147 1 = some (.iload_n 1, 0, 0, 0) := by decide +kernel
theorem gz_147_2 : mz_pg 147 2 = some (.if_icmp .lt 12, 0, 0, 0) := by decide +kernel
theorem gz_147_5 : mz_pg 147 5 = some (.iload_n 0, 0, 0, 0) := by decide +kernel
theorem gz_147_6 : mz_pg 147 6 = some (.iload_n 2, 0, 0, 0) := by decide +kernel
theorem gz_147_7 : mz_pg 147 7 = some (.if_icmp .gt 7, 0, 0, 0) := by decide +kernel
theorem gz_147_10 : mz_pg 147 10 = some (.iconst 1, 0, 0, 0) := by decide +kernel
theorem gz_147_11 : mz_pg 147 11 = some (.goto 4, 0, 0, 0) := by decide +kernel
theorem gz_147_14 : mz_pg 147 14 = some (.iconst 0, 0, 0, 0) := by decide +kernel
theorem gz_147_15 : mz_pg 147 15 = some (.ireturn, 0, 0, 0) := by decide +kernel
theorem gm_146 : my_mm 146 3 (some .boolean) 2 10 := by unfold my_mm; decide +kernel
theorem gm_147 : my_mm 147 3 (some .boolean) 3 10 := by unfold my_mm; decide +kernel
theorem rd_56 : my_rd 56 = .inl (0, 3, [(0, 0, 4)]) := rfl
theorem c11_Model_wall {l : Launch} {rho : Nat → Int32} {d : Nat} {h : my_H} {Q : my_H → my_V → Prop} {x0 x1 x2 : Int} (t0 : my_is 10 x0) (k0 : ∀ (h' : my_H), my_fr [(10, 0), (56, -1)] h h' → h' x0 ((0 : Nat) : Int) = 0 → Q h' (0, 0)) (k1 : ∀ (h' : my_H), my_fr [(10, 0), (56, -1)] h h' → 0 ≤ x1 → x1 ≤ 2 → 1 ≤ x2 → x2 ≤ 4 → h' x0 ((0 : Nat) : Int) = 0 → Q h' (0, 1)) : wp l rho (d + 1) 146 0 [(2, x0), (0, x1), (0, x2)] [] h Q := by
  refine w_aload_n gz_146_0 rfl ?_
  refine w_iconst gz_146_1 (by decide) ?_
  refine w_putI gz_146_2 t0 rd_10 rfl (by omega) (by omega) rfl (fun h1 fh1 => ?_)
  have gh1 : my_fr [(10, 0), (56, -1)] h h1 := my_fr.up my_fr.rf t0 fh1 rfl
  refine w_iload_n gz_146_5 rfl ?_
  refine w_iconst gz_146_6 (by decide) ?_
  refine w_iconst gz_146_7 (by decide) ?_
  refine w_inS (k := 0) (as := [(0, 2), (0, 0), (0, x1)]) (r := []) (ls0 := [(0, x1), (0, 0), (0, 2)]) gz_146_8 gm_147 rfl rfl rfl rfl rfl rfl ?_
  refine w_iload_n gz_147_0 rfl ?_
  refine w_iload_n gz_147_1 rfl ?_
  refine w_iclt (t := 14) gz_147_2 rfl (fun u2 => ?_) (fun u2 => ?_)
  ·
    refine w_iconst gz_147_14 (by decide) ?_
    refine w_bret gz_147_15 gm_147 (by omega) (by omega) ?_
    show wp l rho (d + 1) 146 11 [(2, x0), (0, x1), (0, x2)] [(0, 0)] h1 Q
    refine w_ifeq (t := 32) gz_146_11 rfl (fun u3 => ?_) (fun u3 => by exfalso; omega)
    refine w_iconst gz_146_32 (by decide) ?_
    have c4 := (my_up_self fh1)
    exact w_bret gz_146_33 gm_146 (by omega) (by omega) (k0 h1 (gh1) (by omega))
  ·
    refine w_iload_n gz_147_5 rfl ?_
    refine w_iload_n gz_147_6 rfl ?_
    refine w_icgt (t := 14) gz_147_7 rfl (fun u5 => ?_) (fun u5 => ?_)
    ·
      refine w_iconst gz_147_14 (by decide) ?_
      refine w_bret gz_147_15 gm_147 (by omega) (by omega) ?_
      show wp l rho (d + 1) 146 11 [(2, x0), (0, x1), (0, x2)] [(0, 0)] h1 Q
      refine w_ifeq (t := 32) gz_146_11 rfl (fun u6 => ?_) (fun u6 => by exfalso; omega)
      refine w_iconst gz_146_32 (by decide) ?_
      have c7 := (my_up_self fh1)
      exact w_bret gz_146_33 gm_146 (by omega) (by omega) (k0 h1 (gh1) (by omega))
    ·
      refine w_iconst gz_147_10 (by decide) ?_
      refine w_goto (t := 15) gz_147_11 rfl ?_
      refine w_bret gz_147_15 gm_147 (by omega) (by omega) ?_
      show wp l rho (d + 1) 146 11 [(2, x0), (0, x1), (0, x2)] [(0, 1)] h1 Q
      refine w_ifeq (t := 32) gz_146_11 rfl (fun u8 => by exfalso; omega) (fun u8 => ?_)
      refine w_iload_n gz_146_14 rfl ?_
      refine w_iconst gz_146_15 (by decide) ?_
      refine w_iconst gz_146_16 (by decide) ?_
      refine w_inS (k := 0) (as := [(0, 4), (0, 1), (0, x2)]) (r := []) (ls0 := [(0, x2), (0, 1), (0, 4)]) gz_146_17 gm_147 rfl rfl rfl rfl rfl rfl ?_
      refine w_iload_n gz_147_0 rfl ?_
      refine w_iload_n gz_147_1 rfl ?_
      refine w_iclt (t := 14) gz_147_2 rfl (fun u9 => ?_) (fun u9 => ?_)
      ·
        refine w_iconst gz_147_14 (by decide) ?_
        refine w_bret gz_147_15 gm_147 (by omega) (by omega) ?_
        show wp l rho (d + 1) 146 20 [(2, x0), (0, x1), (0, x2)] [(0, 0)] h1 Q
        refine w_ifeq (t := 32) gz_146_20 rfl (fun u10 => ?_) (fun u10 => by exfalso; omega)
        refine w_iconst gz_146_32 (by decide) ?_
        have c11 := (my_up_self fh1)
        exact w_bret gz_146_33 gm_146 (by omega) (by omega) (k0 h1 (gh1) (by omega))
      ·
        refine w_iload_n gz_147_5 rfl ?_
        refine w_iload_n gz_147_6 rfl ?_
        refine w_icgt (t := 14) gz_147_7 rfl (fun u12 => ?_) (fun u12 => ?_)
        ·
          refine w_iconst gz_147_14 (by decide) ?_
          refine w_bret gz_147_15 gm_147 (by omega) (by omega) ?_
          show wp l rho (d + 1) 146 20 [(2, x0), (0, x1), (0, x2)] [(0, 0)] h1 Q
          refine w_ifeq (t := 32) gz_146_20 rfl (fun u13 => ?_) (fun u13 => by exfalso; omega)
          refine w_iconst gz_146_32 (by decide) ?_
          have c14 := (my_up_self fh1)
          exact w_bret gz_146_33 gm_146 (by omega) (by omega) (k0 h1 (gh1) (by omega))
        ·
          refine w_iconst gz_147_10 (by decide) ?_
          refine w_goto (t := 15) gz_147_11 rfl ?_
          refine w_bret gz_147_15 gm_147 (by omega) (by omega) ?_
          show wp l rho (d + 1) 146 20 [(2, x0), (0, x1), (0, x2)] [(0, 1)] h1 Q
          refine w_ifeq (t := 32) gz_146_20 rfl (fun u15 => by exfalso; omega) (fun u15 => ?_)
          refine w_aload_n gz_146_23 rfl ?_
          refine w_getR gz_146_24 t0 rd_10 rfl (fun v16 ev16 tv16 => ?_)
          refine w_iload_n gz_146_27 rfl ?_
          refine w_iald gz_146_28 tv16 rd_56 (by omega) (by omega) (fun v17 ev17 pv17 qv17 => ?_)
          refine w_ifle (t := 34) gz_146_29 rfl (fun u18 => ?_) (fun u18 => ?_)
          ·
            refine w_aload_n gz_146_34 rfl ?_
            refine w_getR gz_146_35 t0 rd_10 rfl (fun v19 ev19 tv19 => ?_)
            have zv19 : v16 = v19 := (ev19.trans ev16.symm).symm
            subst zv19
            refine w_iload_n gz_146_38 rfl ?_
            refine w_iload_n gz_146_39 rfl ?_
            refine w_iast gz_146_40 tv16 rd_56 (by omega) (by omega) (by omega) (by omega) (fun h20 fh20 => ?_)
            have gh20 : my_fr [(10, 0), (56, -1)] h h20 := my_fr.up gh1 tv16 fh20 rfl
            refine w_iconst gz_146_41 (by decide) ?_
            have c21 := ((my_up_role fh20 t0 tv16 rfl).trans (my_up_self fh1))
            exact w_bret gz_146_42 gm_146 (by omega) (by omega) (k1 h20 (gh20) (by omega) (by omega) (by omega) (by omega) (by omega))
          ·
            refine w_iconst gz_146_32 (by decide) ?_
            have c22 := (my_up_self fh1)
            exact w_bret gz_146_33 gm_146 (by omega) (by omega) (k0 h1 (gh1) (by omega))
theorem gz_150_0 : mz_pg 150 0 = some (.bipush 60, 0, 0, 0) := by decide +kernel
theorem gz_150_2 : mz_pg 150 2 = some (.iload_n 0, 0, 0, 0) := by decide +kernel
theorem gz_150_3 : mz_pg 150 3 = some (.imul, 0, 0, 0) := by decide +kernel
theorem gz_150_4 : mz_pg 150 4 = some (.bipush 20, 0, 0, 0) := by decide +kernel
theorem gz_150_6 : mz_pg 150 6 = some (.iload_n 1, 0, 0, 0) := by decide +kernel
theorem gz_150_7 : mz_pg 150 7 = some (.imul, 0, 0, 0) := by decide +kernel
theorem gz_150_8 : mz_pg 150 8 = some (.iadd, 0, 0, 0) := by decide +kernel
theorem gz_150_9 : mz_pg 150 9 = some (.iload_n 2, 0, 0, 0) := by decide +kernel
theorem gz_150_10 : mz_pg 150 10 = some (.iadd, 0, 0, 0) := by decide +kernel
theorem gz_150_11 : mz_pg 150 11 = some (.ireturn, 0, 0, 0) := by decide +kernel
theorem gz_151_0 : mz_pg 151 0 = some (.iconst 0, 0, 0, 0) := by decide +kernel
theorem gz_151_1 : mz_pg 151 1 = some (.istore_n 3, 0, 0, 0) := by decide +kernel
theorem gz_151_2 : mz_pg 151 2 = some (.iconst 0, 0, 0, 0) := by decide +kernel
theorem gz_151_3 : mz_pg 151 3 = some (.istore 4, 0, 0, 0) := by decide +kernel
theorem gz_151_5 : mz_pg 151 5 = some (.iload 4, 0, 0, 0) := by decide +kernel
theorem gz_151_7 : mz_pg 151 7 = some (.bipush 20, 0, 0, 0) := by decide +kernel
theorem gz_151_9 : mz_pg 151 9 = some (.if_icmp .ge 32, 0, 0, 0) := by decide +kernel
theorem gz_151_12 : mz_pg 151 12 = some (.iload_n 3, 0, 0, 0) := by decide +kernel
theorem gz_151_13 : mz_pg 151 13 = some (.aload_n 0, 0, 0, 0) := by decide +kernel
theorem gz_151_14 : mz_pg 151 14 = some (.getfield 77, 10, 15, 1228) := by decide +kernel
theorem gz_151_17 : mz_pg 151 17 = some (.iload_n 1, 0, 0, 0) := by decide +kernel
theorem gz_151_18 : mz_pg 151 18 = some (.iload_n 2, 0, 0, 0) := by decide +kernel
theorem gz_151_19 : mz_pg 151 19 = some (.iload 4, 0, 0, 0) := by decide +kernel
theorem gz_151_21 : mz_pg 151 21 = some (.invokestatic 242, 1, 150, 1429) := by decide +kernel
theorem gz_151_24 : mz_pg 151 24 = some (.baload, 0, 0, 0) := by decide +kernel
theorem gz_151_25 : mz_pg 151 25 = some (.ifCond .eq 7, 0, 0, 0) := by decide +kernel
theorem gz_151_28 : mz_pg 151 28 = some (.iconst 1, 0, 0, 0) := by decide +kernel
theorem gz_151_29 : mz_pg 151 29 = some (.goto 4, 0, 0, 0) := by decide +kernel
theorem gz_151_32 : mz_pg 151 32 = some (.iconst 0, 0, 0, 0) := by decide +kernel
theorem gz_151_33 : mz_pg 151 33 = some (.iadd, 0, 0, 0) := by decide +kernel
theorem gz_151_34 : mz_pg 151 34 = some (.istore_n 3, 0, 0, 0) := by decide +kernel
theorem gz_151_35 : mz_pg 151 35 = some (.iinc 4 1, 0, 0, 0) := by decide +kernel
theorem gz_151_38 : mz_pg 151 38 = some (.goto (-33), 0, 0, 0) := by decide +kernel
theorem gz_151_41 : mz_pg 151 41 = some (.iload_n 3, 0, 0, 0) := by decide +kernel
theorem gz_151_42 : mz_pg 151 42 = some (.ireturn, 0, 0, 0) := by decide +kernel
theorem gm_150 : my_mm 150 3 (some .int) 3 10 := by unfold my_mm; decide +kernel
theorem gm_151 : my_mm 151 5 (some .int) 2 10 := by unfold my_mm; decide +kernel
theorem rd_61 : my_rd 61 = .inl (1, 960, [(0, 0, 1)]) := rfl
theorem c12_Model_rowsOf {l : Launch} {rho : Nat → Int32} {d : Nat} {h : my_H} {Q : my_H → my_V → Prop} {x0 x1 x2 : Int} (t0 : my_is 10 x0) (a1 : 0 ≤ x1) (b1 : x1 ≤ 8) (a2 : 0 ≤ x2) (b2 : x2 ≤ 2) (k0 : ∀ (y : Int), 0 ≤ y → y ≤ 20 → Q h (0, y)) : wp l rho (d + 1) 151 0 [(2, x0), (0, x1), (0, x2), (9, 0), (9, 0)] [] h Q := by
  have J5_0 : ∀ (n : Nat) (p5_0 p5_1 : Int), 0 ≤ p5_0 → p5_0 ≤ 20 → 0 ≤ p5_1 → p5_1 ≤ 20 → p5_0 ≤ p5_1 → 21 - p5_1 ≤ (n : Int) → wp l rho (d + 1) 151 5 [(2, x0), (0, x1), (0, x2), (0, p5_0), (0, p5_1)] [] h Q := by
    intro n
    induction n with
    | zero => intro p5_0 p5_1 q0_5_0 q1_5_0 q2_5_0 q3_5_0 q4_5_0 hm_5_0; exfalso; omega
    | succ n ih_5_0 =>
      intro p5_0 p5_1 q0_5_0 q1_5_0 q2_5_0 q3_5_0 q4_5_0 hm_5_0
      refine w_iload gz_151_5 rfl ?_
      refine w_bipush gz_151_7 (by decide) ?_
      refine w_icge (t := 41) gz_151_9 rfl (fun u1 => ?_) (fun u1 => ?_)
      ·
        refine w_iload_n gz_151_41 rfl ?_
        exact w_iret gz_151_42 gm_151 (k0 (p5_0) (by omega) (by omega))
      ·
        refine w_iload_n gz_151_12 rfl ?_
        refine w_aload_n gz_151_13 rfl ?_
        refine w_getR gz_151_14 t0 rd_10 rfl (fun v2 ev2 tv2 => ?_)
        refine w_iload_n gz_151_17 rfl ?_
        refine w_iload_n gz_151_18 rfl ?_
        refine w_iload gz_151_19 rfl ?_
        refine w_inS (k := 0) (as := [(0, p5_1), (0, x2), (0, x1)]) (r := [(2, v2), (0, p5_0)]) (ls0 := [(0, x1), (0, x2), (0, p5_1)]) gz_151_21 gm_150 rfl rfl rfl rfl rfl rfl ?_
        refine w_bipush gz_150_0 (by decide) ?_
        refine w_iload_n gz_150_2 rfl ?_
        refine w_imul gz_150_3 ⟨by omega, by omega⟩ ?_
        refine w_bipush gz_150_4 (by decide) ?_
        refine w_iload_n gz_150_6 rfl ?_
        refine w_imul gz_150_7 ⟨by omega, by omega⟩ ?_
        refine w_iadd gz_150_8 ⟨by omega, by omega⟩ ?_
        refine w_iload_n gz_150_9 rfl ?_
        refine w_iadd gz_150_10 ⟨by omega, by omega⟩ ?_
        refine w_iret gz_150_11 gm_150 ?_
        show wp l rho (d + 1) 151 24 [(2, x0), (0, x1), (0, x2), (0, p5_0), (0, p5_1)] [(0, (((60 * x1) + (20 * x2)) + p5_1)), (2, v2), (0, p5_0)] h Q
        refine w_bald gz_151_24 tv2 rd_61 (by omega) (by omega) (fun v3 ev3 pv3 qv3 => ?_)
        refine w_ifeq (t := 32) gz_151_25 rfl (fun u4 => ?_) (fun u4 => ?_)
        ·
          refine w_iconst gz_151_32 (by decide) ?_
          refine w_iadd gz_151_33 ⟨by omega, by omega⟩ ?_
          refine w_istore_n (ls' := [(2, x0), (0, x1), (0, x2), (0, (p5_0 + 0)), (0, p5_1)]) gz_151_34 gm_151 rfl rfl rfl ?_
          refine w_iinc (ls' := [(2, x0), (0, x1), (0, x2), (0, (p5_0 + 0)), (0, (p5_1 + 1))]) gz_151_35 rfl gm_151 rfl rfl rfl ⟨by omega, by omega⟩ ?_
          refine w_goto (t := 5) gz_151_38 rfl ?_
          exact ih_5_0 ((p5_0 + 0)) ((p5_1 + 1)) (by omega) (by omega) (by omega) (by omega) (by omega) (by omega)
        ·
          refine w_iconst gz_151_28 (by decide) ?_
          refine w_goto (t := 33) gz_151_29 rfl ?_
          refine w_iadd gz_151_33 ⟨by omega, by omega⟩ ?_
          refine w_istore_n (ls' := [(2, x0), (0, x1), (0, x2), (0, (p5_0 + 1)), (0, p5_1)]) gz_151_34 gm_151 rfl rfl rfl ?_
          refine w_iinc (ls' := [(2, x0), (0, x1), (0, x2), (0, (p5_0 + 1)), (0, (p5_1 + 1))]) gz_151_35 rfl gm_151 rfl rfl rfl ⟨by omega, by omega⟩ ?_
          refine w_goto (t := 5) gz_151_38 rfl ?_
          exact ih_5_0 ((p5_0 + 1)) ((p5_1 + 1)) (by omega) (by omega) (by omega) (by omega) (by omega) (by omega)
  refine w_iconst gz_151_0 (by decide) ?_
  refine w_istore_n (ls' := [(2, x0), (0, x1), (0, x2), (0, 0), (9, 0)]) gz_151_1 gm_151 rfl rfl rfl ?_
  refine w_iconst gz_151_2 (by decide) ?_
  refine w_istore (ls' := [(2, x0), (0, x1), (0, x2), (0, 0), (0, 0)]) gz_151_3 gm_151 rfl rfl rfl ?_
  exact J5_0 21 (0) (0) (by omega) (by omega) (by omega) (by omega) (by omega) (by omega)
theorem gz_156_0 : mz_pg 156 0 = some (.iconst 0, 0, 0, 0) := by decide +kernel
theorem gz_156_1 : mz_pg 156 1 = some (.istore 4, 0, 0, 0) := by decide +kernel
theorem gz_156_3 : mz_pg 156 3 = some (.iload 4, 0, 0, 0) := by decide +kernel
theorem gz_156_5 : mz_pg 156 5 = some (.aload_n 0, 0, 0, 0) := by decide +kernel
theorem gz_156_6 : mz_pg 156 6 = some (.getfield 61, 10, 10, 1223) := by decide +kernel
theorem gz_156_9 : mz_pg 156 9 = some (.iload_n 2, 0, 0, 0) := by decide +kernel
theorem gz_156_10 : mz_pg 156 10 = some (.iaload, 0, 0, 0) := by decide +kernel
theorem gz_156_11 : mz_pg 156 11 = some (.if_icmp .ge 140, 0, 0, 0) := by decide +kernel
theorem gz_156_14 : mz_pg 156 14 = some (.aload_n 0, 0, 0, 0) := by decide +kernel
theorem gz_156_15 : mz_pg 156 15 = some (.iload_n 1, 0, 0, 0) := by decide +kernel
theorem gz_156_16 : mz_pg 156 16 = some (.iload_n 2, 0, 0, 0) := by decide +kernel
theorem gz_156_17 : mz_pg 156 17 = some (.iload_n 3, 0, 0, 0) := by decide +kernel
theorem gz_156_18 : mz_pg 156 18 = some (.iload 4, 0, 0, 0) := by decide +kernel
theorem gz_156_20 : mz_pg 156 20 = some (.invokevirtual 246, 1, 157, 1450) := by decide +kernel
theorem gz_156_23 : mz_pg 156 23 = some (.istore 5, 0, 0, 0) := by decide +kernel
theorem gz_156_25 : mz_pg 156 25 = some (.iconst 4, 0, 0, 0) := by decide +kernel
theorem gz_156_26 : mz_pg 156 26 = some (.iload_n 2, 0, 0, 0) := by decide +kernel
theorem gz_156_27 : mz_pg 156 27 = some (.imul, 0, 0, 0) := by decide +kernel
theorem gz_156_28 : mz_pg 156 28 = some (.iload 4, 0, 0, 0) := by decide +kernel
theorem gz_156_30 : mz_pg 156 30 = some (.iadd, 0, 0, 0) := by decide +kernel
theorem gz_156_31 : mz_pg 156 31 = some (.istore 6, 0, 0, 0) := by decide +kernel
theorem gz_156_33 : mz_pg 156 33 = some (.iload 5, 0, 0, 0) := by decide +kernel
theorem gz_156_35 : mz_pg 156 35 = some (.aload_n 0, 0, 0, 0) := by decide +kernel
theorem gz_156_36 : mz_pg 156 36 = some (.getfield 64, 10, 11, 1224) := by decide +kernel
theorem gz_156_39 : mz_pg 156 39 = some (.iload 6, 0, 0, 0) := by decide +kernel
theorem gz_156_41 : mz_pg 156 41 = some (.iaload, 0, 0, 0) := by decide +kernel
theorem gz_156_42 : mz_pg 156 42 = some (.aload_n 0, 0, 0, 0) := by decide +kernel
theorem gz_156_43 : mz_pg 156 43 = some (.getfield 67, 10, 12, 1225) := by decide +kernel
theorem gz_156_46 : mz_pg 156 46 = some (.iload 6, 0, 0, 0) := by decide +kernel
theorem gz_156_48 : mz_pg 156 48 = some (.iaload, 0, 0, 0) := by decide +kernel
theorem gz_156_49 : mz_pg 156 49 = some (.invokestatic 250, 1, 147, 1419) := by decide +kernel
theorem gz_156_52 : mz_pg 156 52 = some (.ifCond .eq 34, 0, 0, 0) := by decide +kernel
theorem gz_156_55 : mz_pg 156 55 = some (.aload_n 0, 0, 0, 0) := by decide +kernel
theorem gz_156_56 : mz_pg 156 56 = some (.getfield 70, 10, 13, 1226) := by decide +kernel
theorem gz_156_59 : mz_pg 156 59 = some (.iload 6, 0, 0, 0) := by decide +kernel
theorem gz_156_61 : mz_pg 156 61 = some (.iaload, 0, 0, 0) := by decide +kernel
theorem gz_156_62 : mz_pg 156 62 = some (.ifCond .lt 26, 0, 0, 0) := by decide +kernel
theorem gz_156_65 : mz_pg 156 65 = some (.aload_n 0, 0, 0, 0) := by decide +kernel
theorem gz_156_66 : mz_pg 156 66 = some (.getfield 77, 10, 15, 1228) := by decide +kernel
theorem gz_156_69 : mz_pg 156 69 = some (.iload_n 1, 0, 0, 0) := by decide +kernel
theorem gz_156_70 : mz_pg 156 70 = some (.aload_n 0, 0, 0, 0) := by decide +kernel
theorem gz_156_71 : mz_pg 156 71 = some (.getfield 70, 10, 13, 1226) := by decide +kernel
theorem gz_156_74 : mz_pg 156 74 = some (.iload 6, 0, 0, 0) := by decide +kernel
theorem gz_156_76 : mz_pg 156 76 = some (.iaload, 0, 0, 0) := by decide +kernel
theorem gz_156_77 : mz_pg 156 77 = some (.iload 5, 0, 0, 0) := by decide +kernel
theorem gz_156_79 : mz_pg 156 79 = some (.invokestatic 242, 1, 150, 1429) := by decide +kernel
theorem gz_156_82 : mz_pg 156 82 = some (.baload, 0, 0, 0) := by decide +kernel
theorem gz_156_83 : mz_pg 156 83 = some (.ifCond .ne 5, 0, 0, 0) := by decide +kernel
theorem gz_156_86 : mz_pg 156 86 = some (.iconst 0, 0, 0, 0) := by decide +kernel
theorem gz_156_87 : mz_pg 156 87 = some (.ireturn, 0, 0, 0) := by decide +kernel
theorem gz_156_88 : mz_pg 156 88 = some (.iconst 0, 0, 0, 0) := by decide +kernel
theorem gz_156_89 : mz_pg 156 89 = some (.istore 7, 0, 0, 0) := by decide +kernel
theorem gz_156_91 : mz_pg 156 91 = some (.iload 7, 0, 0, 0) := by decide +kernel
theorem gz_156_93 : mz_pg 156 93 = some (.iload_n 3, 0, 0, 0) := by decide +kernel
theorem gz_156_94 : mz_pg 156 94 = some (.if_icmp .ge 51, 0, 0, 0) := by decide +kernel
theorem gz_156_97 : mz_pg 156 97 = some (.aload_n 0, 0, 0, 0) := by decide +kernel
theorem gz_156_98 : mz_pg 156 98 = some (.getfield 73, 10, 14, 1227) := by decide +kernel
theorem gz_156_101 : mz_pg 156 101 = some (.iload 6, 0, 0, 0) := by decide +kernel
theorem gz_156_103 : mz_pg 156 103 = some (.baload, 0, 0, 0) := by decide +kernel
theorem gz_156_104 : mz_pg 156 104 = some (.ifCond .eq 41, 0, 0, 0) := by decide +kernel
theorem gz_156_107 : mz_pg 156 107 = some (.aload_n 0, 0, 0, 0) := by decide +kernel
theorem gz_156_108 : mz_pg 156 108 = some (.getfield 77, 10, 15, 1228) := by decide +kernel
theorem gz_156_111 : mz_pg 156 111 = some (.iload_n 1, 0, 0, 0) := by decide +kernel
theorem gz_156_112 : mz_pg 156 112 = some (.iload_n 2, 0, 0, 0) := by decide +kernel
theorem gz_156_113 : mz_pg 156 113 = some (.iload 7, 0, 0, 0) := by decide +kernel
theorem gz_156_115 : mz_pg 156 115 = some (.invokestatic 242, 1, 150, 1429) := by decide +kernel
theorem gz_156_118 : mz_pg 156 118 = some (.baload, 0, 0, 0) := by decide +kernel
theorem gz_156_119 : mz_pg 156 119 = some (.ifCond .eq 20, 0, 0, 0) := by decide +kernel
theorem gz_156_122 : mz_pg 156 122 = some (.aload_n 0, 0, 0, 0) := by decide +kernel
theorem gz_156_123 : mz_pg 156 123 = some (.iload_n 1, 0, 0, 0) := by decide +kernel
theorem gz_156_124 : mz_pg 156 124 = some (.iload_n 2, 0, 0, 0) := by decide +kernel
theorem gz_156_125 : mz_pg 156 125 = some (.iload 7, 0, 0, 0) := by decide +kernel
theorem gz_156_127 : mz_pg 156 127 = some (.iload 4, 0, 0, 0) := by decide +kernel
theorem gz_156_129 : mz_pg 156 129 = some (.invokevirtual 246, 1, 157, 1450) := by decide +kernel
theorem gz_156_132 : mz_pg 156 132 = some (.iload 5, 0, 0, 0) := by decide +kernel
theorem gz_156_134 : mz_pg 156 134 = some (.if_icmp .ne 5, 0, 0, 0) := by decide +kernel
theorem gz_156_137 : mz_pg 156 137 = some (.iconst 0, 0, 0, 0) := by decide +kernel
theorem gz_156_138 : mz_pg 156 138 = some (.ireturn, 0, 0, 0) := by decide +kernel
theorem gz_156_139 : mz_pg 156 139 = some (.iinc 7 1, 0, 0, 0) := by decide +kernel
theorem gz_156_142 : mz_pg 156 142 = some (.goto (-51), 0, 0, 0) := by decide +kernel
theorem gz_156_145 : mz_pg 156 145 = some (.iinc 4 1, 0, 0, 0) := by decide +kernel
theorem gz_156_148 : mz_pg 156 148 = some (.goto (-145), 0, 0, 0) := by decide +kernel
theorem gz_156_151 : mz_pg 156 151 = some (.iconst 1, 0, 0, 0) := by decide +kernel
theorem gz_156_152 : mz_pg 156 152 = some (.ireturn, 0, 0, 0) := by decide +kernel
theorem gz_157_0 : mz_pg 157 0 = some (.aload_n 0, 0, 0, 0) := by decide +kernel
theorem gz_157_1 : mz_pg 157 1 = some (.getfield 80, 10, 16, 1229) := by decide +kernel
theorem gz_157_4 : mz_pg 157 4 = some (.iconst 4, 0, 0, 0) := by decide +kernel
theorem gz_157_5 : mz_pg 157 5 = some (.iload_n 1, 0, 0, 0) := by decide +kernel
theorem gz_157_6 : mz_pg 157 6 = some (.iload_n 2, 0, 0, 0) := by decide +kernel
theorem gz_157_7 : mz_pg 157 7 = some (.iload_n 3, 0, 0, 0) := by decide +kernel
theorem gz_157_8 : mz_pg 157 8 = some (.invokestatic 242, 1, 150, 1429) := by decide +kernel
theorem gz_157_11 : mz_pg 157 11 = some (.imul, 0, 0, 0) := by decide +kernel
theorem gz_157_12 : mz_pg 157 12 = some (.iload 4, 0, 0, 0) := by decide +kernel
theorem gz_157_14 : mz_pg 157 14 = some (.iadd, 0, 0, 0) := by decide +kernel
theorem gz_157_15 : mz_pg 157 15 = some (.iaload, 0, 0, 0) := by decide +kernel
theorem gz_157_16 : mz_pg 157 16 = some (.ireturn, 0, 0, 0) := by decide +kernel
theorem gm_156 : my_mm 156 8 (some .boolean) 3 10 := by unfold my_mm; decide +kernel
theorem gm_157 : my_mm 157 5 (some .int) 4 10 := by unfold my_mm; decide +kernel
theorem rd_57 : my_rd 57 = .inl (0, 12, [(0, 0, 19)]) := rfl
theorem rd_58 : my_rd 58 = .inl (0, 12, [(0, 0, 19)]) := rfl
theorem rd_59 : my_rd 59 = .inl (0, 12, [(0, -1, 2)]) := rfl
theorem rd_60 : my_rd 60 = .inl (1, 12, [(0, 0, 1)]) := rfl
theorem rd_62 : my_rd 62 = .inl (0, 3840, [(0, 0, 19)]) := rfl
theorem c13_Model_isLawfulRow {l : Launch} {rho : Nat → Int32} {d : Nat} {h : my_H} {Q : my_H → my_V → Prop} {x0 x1 x2 x3 : Int} (t0 : my_is 10 x0) (a1 : 0 ≤ x1) (b1 : x1 ≤ 8) (a2 : 0 ≤ x2) (b2 : x2 ≤ 2) (a3 : 0 ≤ x3) (b3 : x3 ≤ 19) (k0 : Q h (0, 0)) (k1 : Q h (0, 1)) : wp l rho (d + 2) 156 0 [(2, x0), (0, x1), (0, x2), (0, x3), (9, 0), (9, 0), (9, 0), (9, 0)] [] h Q := by
  have J3_0 : ∀ (n : Nat) (p3_0 : Int), 0 ≤ p3_0 → p3_0 ≤ 4 → 5 - p3_0 ≤ (n : Int) → wp l rho (d + 2) 156 3 [(2, x0), (0, x1), (0, x2), (0, x3), (0, p3_0), (9, 0), (9, 0), (9, 0)] [] h Q := by
    intro n
    induction n with
    | zero => intro p3_0 q0_3_0 q1_3_0 hm_3_0; exfalso; omega
    | succ n ih_3_0 =>
      intro p3_0 q0_3_0 q1_3_0 hm_3_0
      have J145_0 : ∀ (p145_0 p145_1 p145_2 : Int), p3_0 ≤ 3 → 0 ≤ p145_0 → p145_0 ≤ 19 → 0 ≤ p145_1 → p145_1 ≤ 11 → 0 ≤ p145_2 → p145_2 ≤ 19 → p145_2 ≤ x3 → wp l rho (d + 2) 156 145 [(2, x0), (0, x1), (0, x2), (0, x3), (0, p3_0), (0, p145_0), (0, p145_1), (0, p145_2)] [] h Q := by
        intro p145_0 p145_1 p145_2 q0_145_0 q1_145_0 q2_145_0 q3_145_0 q4_145_0 q5_145_0 q6_145_0 q7_145_0
        refine w_iinc (ls' := [(2, x0), (0, x1), (0, x2), (0, x3), (0, (p3_0 + 1)), (0, p145_0), (0, p145_1), (0, p145_2)]) gz_156_145 rfl gm_156 rfl rfl rfl ⟨by omega, by omega⟩ ?_
        refine w_goto (t := 3) gz_156_148 rfl ?_
        refine w_weak (ls' := [(2, x0), (0, x1), (0, x2), (0, x3), (0, (p3_0 + 1)), (9, 0), (9, 0), (9, 0)]) (wk_e (wk_e (wk_e (wk_e (wk_e (wk_9 (wk_9 (wk_9 wk_n)))))))) ?_
        exact ih_3_0 ((p3_0 + 1)) (by omega) (by omega) (by omega)
      have J91_0 : ∀ (n : Nat) (p91_0 p91_1 p91_2 : Int), p3_0 ≤ 3 → 0 ≤ p91_0 → p91_0 ≤ 19 → 0 ≤ p91_1 → p91_1 ≤ 11 → 0 ≤ p91_2 → p91_2 ≤ 19 → p91_2 ≤ x3 → 20 - p91_2 ≤ (n : Int) → wp l rho (d + 2) 156 91 [(2, x0), (0, x1), (0, x2), (0, x3), (0, p3_0), (0, p91_0), (0, p91_1), (0, p91_2)] [] h Q := by
        intro n
        induction n with
        | zero => intro p91_0 p91_1 p91_2 q0_91_0 q1_91_0 q2_91_0 q3_91_0 q4_91_0 q5_91_0 q6_91_0 q7_91_0 hm_91_0; exfalso; omega
        | succ n ih_91_0 =>
          intro p91_0 p91_1 p91_2 q0_91_0 q1_91_0 q2_91_0 q3_91_0 q4_91_0 q5_91_0 q6_91_0 q7_91_0 hm_91_0
          have J139_0 : 1 ≤ x3 → p91_2 ≤ 18 → p91_2 ≤ (x3 - 1) → wp l rho (d + 2) 156 139 [(2, x0), (0, x1), (0, x2), (0, x3), (0, p3_0), (0, p91_0), (0, p91_1), (0, p91_2)] [] h Q := by
            intro q0_139_0 q1_139_0 q2_139_0
            refine w_iinc (ls' := [(2, x0), (0, x1), (0, x2), (0, x3), (0, p3_0), (0, p91_0), (0, p91_1), (0, (p91_2 + 1))]) gz_156_139 rfl gm_156 rfl rfl rfl ⟨by omega, by omega⟩ ?_
            refine w_goto (t := 91) gz_156_142 rfl ?_
            exact ih_91_0 (p91_0) (p91_1) ((p91_2 + 1)) (by omega) (by omega) (by omega) (by omega) (by omega) (by omega) (by omega) (by omega) (by omega)
          refine w_iload gz_156_91 rfl ?_
          refine w_iload_n gz_156_93 rfl ?_
          refine w_icge (t := 145) gz_156_94 rfl (fun u1 => ?_) (fun u1 => ?_)
          ·
            exact J145_0 (p91_0) (p91_1) (p91_2) (by omega) (by omega) (by omega) (by omega) (by omega) (by omega) (by omega) (by omega)
          ·
            refine w_aload_n gz_156_97 rfl ?_
            refine w_getR gz_156_98 t0 rd_10 rfl (fun v2 ev2 tv2 => ?_)
            refine w_iload gz_156_101 rfl ?_
            refine w_bald gz_156_103 tv2 rd_60 (by omega) (by omega) (fun v3 ev3 pv3 qv3 => ?_)
            refine w_ifeq (t := 145) gz_156_104 rfl (fun u4 => ?_) (fun u4 => ?_)
            ·
              exact J145_0 (p91_0) (p91_1) (p91_2) (by omega) (by omega) (by omega) (by omega) (by omega) (by omega) (by omega) (by omega)
            ·
              refine w_aload_n gz_156_107 rfl ?_
              refine w_getR gz_156_108 t0 rd_10 rfl (fun v5 ev5 tv5 => ?_)
              refine w_iload_n gz_156_111 rfl ?_
              refine w_iload_n gz_156_112 rfl ?_
              refine w_iload gz_156_113 rfl ?_
              refine w_inS (k := 0) (as := [(0, p91_2), (0, x2), (0, x1)]) (r := [(2, v5)]) (ls0 := [(0, x1), (0, x2), (0, p91_2)]) gz_156_115 gm_150 rfl rfl rfl rfl rfl rfl ?_
              refine w_bipush gz_150_0 (by decide) ?_
              refine w_iload_n gz_150_2 rfl ?_
              refine w_imul gz_150_3 ⟨by omega, by omega⟩ ?_
              refine w_bipush gz_150_4 (by decide) ?_
              refine w_iload_n gz_150_6 rfl ?_
              refine w_imul gz_150_7 ⟨by omega, by omega⟩ ?_
              refine w_iadd gz_150_8 ⟨by omega, by omega⟩ ?_
              refine w_iload_n gz_150_9 rfl ?_
              refine w_iadd gz_150_10 ⟨by omega, by omega⟩ ?_
              refine w_iret gz_150_11 gm_150 ?_
              show wp l rho (d + 2) 156 118 [(2, x0), (0, x1), (0, x2), (0, x3), (0, p3_0), (0, p91_0), (0, p91_1), (0, p91_2)] [(0, (((60 * x1) + (20 * x2)) + p91_2)), (2, v5)] h Q
              refine w_bald gz_156_118 tv5 rd_61 (by omega) (by omega) (fun v6 ev6 pv6 qv6 => ?_)
              refine w_ifeq (t := 139) gz_156_119 rfl (fun u7 => ?_) (fun u7 => ?_)
              ·
                exact J139_0 (by omega) (by omega) (by omega)
              ·
                refine w_aload_n gz_156_122 rfl ?_
                refine w_iload_n gz_156_123 rfl ?_
                refine w_iload_n gz_156_124 rfl ?_
                refine w_iload gz_156_125 rfl ?_
                refine w_iload gz_156_127 rfl ?_
                refine w_inv (k := 0) (as := [(0, p3_0), (0, p91_2), (0, x2), (0, x1)]) (r := []) (x := x0) (ls0 := [(2, x0), (0, x1), (0, x2), (0, p91_2), (0, p3_0)]) gz_156_129 gm_157 rfl t0 rd_10 rfl rfl rfl rfl rfl ?_
                refine w_aload_n gz_157_0 rfl ?_
                refine w_getR gz_157_1 t0 rd_10 rfl (fun v8 ev8 tv8 => ?_)
                refine w_iconst gz_157_4 (by decide) ?_
                refine w_iload_n gz_157_5 rfl ?_
                refine w_iload_n gz_157_6 rfl ?_
                refine w_iload_n gz_157_7 rfl ?_
                refine w_inS (k := 0) (as := [(0, p91_2), (0, x2), (0, x1)]) (r := [(0, 4), (2, v8)]) (ls0 := [(0, x1), (0, x2), (0, p91_2)]) gz_157_8 gm_150 rfl rfl rfl rfl rfl rfl ?_
                refine w_bipush gz_150_0 (by decide) ?_
                refine w_iload_n gz_150_2 rfl ?_
                refine w_imul gz_150_3 ⟨by omega, by omega⟩ ?_
                refine w_bipush gz_150_4 (by decide) ?_
                refine w_iload_n gz_150_6 rfl ?_
                refine w_imul gz_150_7 ⟨by omega, by omega⟩ ?_
                refine w_iadd gz_150_8 ⟨by omega, by omega⟩ ?_
                refine w_iload_n gz_150_9 rfl ?_
                refine w_iadd gz_150_10 ⟨by omega, by omega⟩ ?_
                refine w_iret gz_150_11 gm_150 ?_
                show wp l rho (d + 1) 157 11 [(2, x0), (0, x1), (0, x2), (0, p91_2), (0, p3_0)] [(0, (((60 * x1) + (20 * x2)) + p91_2)), (0, 4), (2, v8)] h _
                refine w_imul gz_157_11 ⟨by omega, by omega⟩ ?_
                refine w_iload gz_157_12 rfl ?_
                refine w_iadd gz_157_14 ⟨by omega, by omega⟩ ?_
                refine w_iald gz_157_15 tv8 rd_62 (by omega) (by omega) (fun v9 ev9 pv9 qv9 => ?_)
                refine w_iret gz_157_16 gm_157 ?_
                show wp l rho (d + 2) 156 132 [(2, x0), (0, x1), (0, x2), (0, x3), (0, p3_0), (0, p91_0), (0, p91_1), (0, p91_2)] [(0, v9)] h Q
                refine w_iload gz_156_132 rfl ?_
                refine w_icne (t := 139) gz_156_134 rfl (fun u10 => ?_) (fun u10 => ?_)
                ·
                  exact J139_0 (by omega) (by omega) (by omega)
                ·
                  refine w_iconst gz_156_137 (by decide) ?_
                  exact w_bret gz_156_138 gm_156 (by omega) (by omega) (k0 )
      have J88_0 : ∀ (p88_0 p88_1 : Int), p3_0 ≤ 3 → 0 ≤ p88_0 → p88_0 ≤ 19 → 0 ≤ p88_1 → p88_1 ≤ 11 → wp l rho (d + 2) 156 88 [(2, x0), (0, x1), (0, x2), (0, x3), (0, p3_0), (0, p88_0), (0, p88_1), (9, 0)] [] h Q := by
        intro p88_0 p88_1 q0_88_0 q1_88_0 q2_88_0 q3_88_0 q4_88_0
        refine w_iconst gz_156_88 (by decide) ?_
        refine w_istore (ls' := [(2, x0), (0, x1), (0, x2), (0, x3), (0, p3_0), (0, p88_0), (0, p88_1), (0, 0)]) gz_156_89 gm_156 rfl rfl rfl ?_
        exact J91_0 20 (p88_0) (p88_1) (0) (by omega) (by omega) (by omega) (by omega) (by omega) (by omega) (by omega) (by omega) (by omega)
      refine w_iload gz_156_3 rfl ?_
      refine w_aload_n gz_156_5 rfl ?_
      refine w_getR gz_156_6 t0 rd_10 rfl (fun v11 ev11 tv11 => ?_)
      refine w_iload_n gz_156_9 rfl ?_
      refine w_iald gz_156_10 tv11 rd_56 (by omega) (by omega) (fun v12 ev12 pv12 qv12 => ?_)
      refine w_icge (t := 151) gz_156_11 rfl (fun u13 => ?_) (fun u13 => ?_)
      ·
        refine w_iconst gz_156_151 (by decide) ?_
        exact w_bret gz_156_152 gm_156 (by omega) (by omega) (k1 )
      ·
        refine w_aload_n gz_156_14 rfl ?_
        refine w_iload_n gz_156_15 rfl ?_
        refine w_iload_n gz_156_16 rfl ?_
        refine w_iload_n gz_156_17 rfl ?_
        refine w_iload gz_156_18 rfl ?_
        refine w_inv (k := 0) (as := [(0, p3_0), (0, x3), (0, x2), (0, x1)]) (r := []) (x := x0) (ls0 := [(2, x0), (0, x1), (0, x2), (0, x3), (0, p3_0)]) gz_156_20 gm_157 rfl t0 rd_10 rfl rfl rfl rfl rfl ?_
        refine w_aload_n gz_157_0 rfl ?_
        refine w_getR gz_157_1 t0 rd_10 rfl (fun v14 ev14 tv14 => ?_)
        refine w_iconst gz_157_4 (by decide) ?_
        refine w_iload_n gz_157_5 rfl ?_
        refine w_iload_n gz_157_6 rfl ?_
        refine w_iload_n gz_157_7 rfl ?_
        refine w_inS (k := 0) (as := [(0, x3), (0, x2), (0, x1)]) (r := [(0, 4), (2, v14)]) (ls0 := [(0, x1), (0, x2), (0, x3)]) gz_157_8 gm_150 rfl rfl rfl rfl rfl rfl ?_
        refine w_bipush gz_150_0 (by decide) ?_
        refine w_iload_n gz_150_2 rfl ?_
        refine w_imul gz_150_3 ⟨by omega, by omega⟩ ?_
        refine w_bipush gz_150_4 (by decide) ?_
        refine w_iload_n gz_150_6 rfl ?_
        refine w_imul gz_150_7 ⟨by omega, by omega⟩ ?_
        refine w_iadd gz_150_8 ⟨by omega, by omega⟩ ?_
        refine w_iload_n gz_150_9 rfl ?_
        refine w_iadd gz_150_10 ⟨by omega, by omega⟩ ?_
        refine w_iret gz_150_11 gm_150 ?_
        show wp l rho (d + 1) 157 11 [(2, x0), (0, x1), (0, x2), (0, x3), (0, p3_0)] [(0, (((60 * x1) + (20 * x2)) + x3)), (0, 4), (2, v14)] h _
        refine w_imul gz_157_11 ⟨by omega, by omega⟩ ?_
        refine w_iload gz_157_12 rfl ?_
        refine w_iadd gz_157_14 ⟨by omega, by omega⟩ ?_
        refine w_iald gz_157_15 tv14 rd_62 (by omega) (by omega) (fun v15 ev15 pv15 qv15 => ?_)
        refine w_iret gz_157_16 gm_157 ?_
        show wp l rho (d + 2) 156 23 [(2, x0), (0, x1), (0, x2), (0, x3), (0, p3_0), (9, 0), (9, 0), (9, 0)] [(0, v15)] h Q
        refine w_istore (ls' := [(2, x0), (0, x1), (0, x2), (0, x3), (0, p3_0), (0, v15), (9, 0), (9, 0)]) gz_156_23 gm_156 rfl rfl rfl ?_
        refine w_iconst gz_156_25 (by decide) ?_
        refine w_iload_n gz_156_26 rfl ?_
        refine w_imul gz_156_27 ⟨by omega, by omega⟩ ?_
        refine w_iload gz_156_28 rfl ?_
        refine w_iadd gz_156_30 ⟨by omega, by omega⟩ ?_
        refine w_istore (ls' := [(2, x0), (0, x1), (0, x2), (0, x3), (0, p3_0), (0, v15), (0, ((4 * x2) + p3_0)), (9, 0)]) gz_156_31 gm_156 rfl rfl rfl ?_
        refine w_iload gz_156_33 rfl ?_
        refine w_aload_n gz_156_35 rfl ?_
        refine w_getR gz_156_36 t0 rd_10 rfl (fun v16 ev16 tv16 => ?_)
        refine w_iload gz_156_39 rfl ?_
        refine w_iald gz_156_41 tv16 rd_57 (by omega) (by omega) (fun v17 ev17 pv17 qv17 => ?_)
        refine w_aload_n gz_156_42 rfl ?_
        refine w_getR gz_156_43 t0 rd_10 rfl (fun v18 ev18 tv18 => ?_)
        refine w_iload gz_156_46 rfl ?_
        refine w_iald gz_156_48 tv18 rd_58 (by omega) (by omega) (fun v19 ev19 pv19 qv19 => ?_)
        refine w_inS (k := 0) (as := [(0, v19), (0, v17), (0, v15)]) (r := []) (ls0 := [(0, v15), (0, v17), (0, v19)]) gz_156_49 gm_147 rfl rfl rfl rfl rfl rfl ?_
        refine w_iload_n gz_147_0 rfl ?_
        refine w_iload_n gz_147_1 rfl ?_
        refine w_iclt (t := 14) gz_147_2 rfl (fun u20 => ?_) (fun u20 => ?_)
        ·
          refine w_iconst gz_147_14 (by decide) ?_
          refine w_bret gz_147_15 gm_147 (by omega) (by omega) ?_
          show wp l rho (d + 2) 156 52 [(2, x0), (0, x1), (0, x2), (0, x3), (0, p3_0), (0, v15), (0, ((4 * x2) + p3_0)), (9, 0)] [(0, 0)] h Q
          refine w_ifeq (t := 86) gz_156_52 rfl (fun u21 => ?_) (fun u21 => by exfalso; omega)
          refine w_iconst gz_156_86 (by decide) ?_
          exact w_bret gz_156_87 gm_156 (by omega) (by omega) (k0 )
        ·
          refine w_iload_n gz_147_5 rfl ?_
          refine w_iload_n gz_147_6 rfl ?_
          refine w_icgt (t := 14) gz_147_7 rfl (fun u22 => ?_) (fun u22 => ?_)
          ·
            refine w_iconst gz_147_14 (by decide) ?_
            refine w_bret gz_147_15 gm_147 (by omega) (by omega) ?_
            show wp l rho (d + 2) 156 52 [(2, x0), (0, x1), (0, x2), (0, x3), (0, p3_0), (0, v15), (0, ((4 * x2) + p3_0)), (9, 0)] [(0, 0)] h Q
            refine w_ifeq (t := 86) gz_156_52 rfl (fun u23 => ?_) (fun u23 => by exfalso; omega)
            refine w_iconst gz_156_86 (by decide) ?_
            exact w_bret gz_156_87 gm_156 (by omega) (by omega) (k0 )
          ·
            refine w_iconst gz_147_10 (by decide) ?_
            refine w_goto (t := 15) gz_147_11 rfl ?_
            refine w_bret gz_147_15 gm_147 (by omega) (by omega) ?_
            show wp l rho (d + 2) 156 52 [(2, x0), (0, x1), (0, x2), (0, x3), (0, p3_0), (0, v15), (0, ((4 * x2) + p3_0)), (9, 0)] [(0, 1)] h Q
            refine w_ifeq (t := 86) gz_156_52 rfl (fun u24 => by exfalso; omega) (fun u24 => ?_)
            refine w_aload_n gz_156_55 rfl ?_
            refine w_getR gz_156_56 t0 rd_10 rfl (fun v25 ev25 tv25 => ?_)
            refine w_iload gz_156_59 rfl ?_
            refine w_iald gz_156_61 tv25 rd_59 (by omega) (by omega) (fun v26 ev26 pv26 qv26 => ?_)
            refine w_iflt (t := 88) gz_156_62 rfl (fun u27 => ?_) (fun u27 => ?_)
            ·
              exact J88_0 (v15) (((4 * x2) + p3_0)) (by omega) (by omega) (by omega) (by omega) (by omega)
            ·
              refine w_aload_n gz_156_65 rfl ?_
              refine w_getR gz_156_66 t0 rd_10 rfl (fun v28 ev28 tv28 => ?_)
              refine w_iload_n gz_156_69 rfl ?_
              refine w_aload_n gz_156_70 rfl ?_
              refine w_getR gz_156_71 t0 rd_10 rfl (fun v29 ev29 tv29 => ?_)
              have zv29 : v25 = v29 := (ev29.trans ev25.symm).symm
              subst zv29
              refine w_iload gz_156_74 rfl ?_
              refine w_iald gz_156_76 tv25 rd_59 (by omega) (by omega) (fun v30 ev30 pv30 qv30 => ?_)
              have zv30 := ev30.trans ev26.symm
              refine w_iload gz_156_77 rfl ?_
              refine w_inS (k := 0) (as := [(0, v15), (0, v30), (0, x1)]) (r := [(2, v28)]) (ls0 := [(0, x1), (0, v30), (0, v15)]) gz_156_79 gm_150 rfl rfl rfl rfl rfl rfl ?_
              refine w_bipush gz_150_0 (by decide) ?_
              refine w_iload_n gz_150_2 rfl ?_
              refine w_imul gz_150_3 ⟨by omega, by omega⟩ ?_
              refine w_bipush gz_150_4 (by decide) ?_
              refine w_iload_n gz_150_6 rfl ?_
              refine w_imul gz_150_7 ⟨by omega, by omega⟩ ?_
              refine w_iadd gz_150_8 ⟨by omega, by omega⟩ ?_
              refine w_iload_n gz_150_9 rfl ?_
              refine w_iadd gz_150_10 ⟨by omega, by omega⟩ ?_
              refine w_iret gz_150_11 gm_150 ?_
              show wp l rho (d + 2) 156 82 [(2, x0), (0, x1), (0, x2), (0, x3), (0, p3_0), (0, v15), (0, ((4 * x2) + p3_0)), (9, 0)] [(0, (((60 * x1) + (20 * v30)) + v15)), (2, v28)] h Q
              refine w_bald gz_156_82 tv28 rd_61 (by omega) (by omega) (fun v31 ev31 pv31 qv31 => ?_)
              refine w_ifne (t := 88) gz_156_83 rfl (fun u32 => ?_) (fun u32 => ?_)
              ·
                exact J88_0 (v15) (((4 * x2) + p3_0)) (by omega) (by omega) (by omega) (by omega) (by omega)
              ·
                refine w_iconst gz_156_86 (by decide) ?_
                exact w_bret gz_156_87 gm_156 (by omega) (by omega) (k0 )
  refine w_iconst gz_156_0 (by decide) ?_
  refine w_istore (ls' := [(2, x0), (0, x1), (0, x2), (0, x3), (0, 0), (9, 0), (9, 0), (9, 0)]) gz_156_1 gm_156 rfl rfl rfl ?_
  exact J3_0 5 (0) (by omega) (by omega) (by omega)
theorem gz_149_0 : mz_pg 149 0 = some (.iload_n 1, 0, 0, 0) := by decide +kernel
theorem gz_149_1 : mz_pg 149 1 = some (.ifCond .lt 21, 0, 0, 0) := by decide +kernel
theorem gz_149_4 : mz_pg 149 4 = some (.iload_n 1, 0, 0, 0) := by decide +kernel
theorem gz_149_5 : mz_pg 149 5 = some (.iconst 3, 0, 0, 0) := by decide +kernel
theorem gz_149_6 : mz_pg 149 6 = some (.if_icmp .ge 16, 0, 0, 0) := by decide +kernel
theorem gz_149_9 : mz_pg 149 9 = some (.aload_n 0, 0, 0, 0) := by decide +kernel
theorem gz_149_10 : mz_pg 149 10 = some (.getfield 61, 10, 10, 1223) := by decide +kernel
theorem gz_149_13 : mz_pg 149 13 = some (.iload_n 1, 0, 0, 0) := by decide +kernel
theorem gz_149_14 : mz_pg 149 14 = some (.iaload, 0, 0, 0) := by decide +kernel
theorem gz_149_15 : mz_pg 149 15 = some (.ifCond .le 7, 0, 0, 0) := by decide +kernel
theorem gz_149_18 : mz_pg 149 18 = some (.iconst 1, 0, 0, 0) := by decide +kernel
theorem gz_149_19 : mz_pg 149 19 = some (.goto 4, 0, 0, 0) := by decide +kernel
theorem gz_149_22 : mz_pg 149 22 = some (.iconst 0, 0, 0, 0) := by decide +kernel
theorem gz_149_23 : mz_pg 149 23 = some (.ireturn, 0, 0, 0) := by decide +kernel
theorem gz_159_0 : mz_pg 159 0 = some (.aload_n 0, 0, 0, 0) := by decide +kernel
theorem gz_159_1 : mz_pg 159 1 = some (.iload_n 1, 0, 0, 0) := by decide +kernel
theorem gz_159_2 : mz_pg 159 2 = some (.invokevirtual 257, 1, 149, 1426) := by decide +kernel
theorem gz_159_5 : mz_pg 159 5 = some (.ifCond .eq 31, 0, 0, 0) := by decide +kernel
theorem gz_159_8 : mz_pg 159 8 = some (.iload_n 2, 0, 0, 0) := by decide +kernel
theorem gz_159_9 : mz_pg 159 9 = some (.iconst 0, 0, 0, 0) := by decide +kernel
theorem gz_159_10 : mz_pg 159 10 = some (.bipush 19, 0, 0, 0) := by decide +kernel
theorem gz_159_12 : mz_pg 159 12 = some (.invokestatic 250, 1, 147, 1419) := by decide +kernel
theorem gz_159_15 : mz_pg 159 15 = some (.ifCond .eq 21, 0, 0, 0) := by decide +kernel
theorem gz_159_18 : mz_pg 159 18 = some (.aload_n 0, 0, 0, 0) := by decide +kernel
theorem gz_159_19 : mz_pg 159 19 = some (.getfield 77, 10, 15, 1228) := by decide +kernel
theorem gz_159_22 : mz_pg 159 22 = some (.iconst 0, 0, 0, 0) := by decide +kernel
theorem gz_159_23 : mz_pg 159 23 = some (.iload_n 1, 0, 0, 0) := by decide +kernel
theorem gz_159_24 : mz_pg 159 24 = some (.iload_n 2, 0, 0, 0) := by decide +kernel
theorem gz_159_25 : mz_pg 159 25 = some (.invokestatic 242, 1, 150, 1429) := by decide +kernel
theorem gz_159_28 : mz_pg 159 28 = some (.baload, 0, 0, 0) := by decide +kernel
theorem gz_159_29 : mz_pg 159 29 = some (.ifCond .eq 7, 0, 0, 0) := by decide +kernel
theorem gz_159_32 : mz_pg 159 32 = some (.iconst 1, 0, 0, 0) := by decide +kernel
theorem gz_159_33 : mz_pg 159 33 = some (.goto 4, 0, 0, 0) := by decide +kernel
theorem gz_159_36 : mz_pg 159 36 = some (.iconst 0, 0, 0, 0) := by decide +kernel
theorem gz_159_37 : mz_pg 159 37 = some (.ireturn, 0, 0, 0) := by decide +kernel
theorem gm_149 : my_mm 149 2 (some .boolean) 1 10 := by unfold my_mm; decide +kernel
theorem gm_159 : my_mm 159 3 (some .boolean) 2 10 := by unfold my_mm; decide +kernel
theorem c14_Model_isRow {l : Launch} {rho : Nat → Int32} {d : Nat} {h : my_H} {Q : my_H → my_V → Prop} {x0 x1 x2 : Int} (t0 : my_is 10 x0) (k0 : Q h (0, 0)) (k1 : 0 ≤ x1 → x1 ≤ 2 → 0 ≤ x2 → x2 ≤ 19 → Q h (0, 1)) : wp l rho (d + 1) 159 0 [(2, x0), (0, x1), (0, x2)] [] h Q := by
  refine w_aload_n gz_159_0 rfl ?_
  refine w_iload_n gz_159_1 rfl ?_
  refine w_inv (k := 0) (as := [(0, x1)]) (r := []) (x := x0) (ls0 := [(2, x0), (0, x1)]) gz_159_2 gm_149 rfl t0 rd_10 rfl rfl rfl rfl rfl ?_
  refine w_iload_n gz_149_0 rfl ?_
  refine w_iflt (t := 22) gz_149_1 rfl (fun u1 => ?_) (fun u1 => ?_)
  ·
    refine w_iconst gz_149_22 (by decide) ?_
    refine w_bret gz_149_23 gm_149 (by omega) (by omega) ?_
    show wp l rho (d + 1) 159 5 [(2, x0), (0, x1), (0, x2)] [(0, 0)] h Q
    refine w_ifeq (t := 36) gz_159_5 rfl (fun u2 => ?_) (fun u2 => by exfalso; omega)
    refine w_iconst gz_159_36 (by decide) ?_
    exact w_bret gz_159_37 gm_159 (by omega) (by omega) (k0 )
  ·
    refine w_iload_n gz_149_4 rfl ?_
    refine w_iconst gz_149_5 (by decide) ?_
    refine w_icge (t := 22) gz_149_6 rfl (fun u3 => ?_) (fun u3 => ?_)
    ·
      refine w_iconst gz_149_22 (by decide) ?_
      refine w_bret gz_149_23 gm_149 (by omega) (by omega) ?_
      show wp l rho (d + 1) 159 5 [(2, x0), (0, x1), (0, x2)] [(0, 0)] h Q
      refine w_ifeq (t := 36) gz_159_5 rfl (fun u4 => ?_) (fun u4 => by exfalso; omega)
      refine w_iconst gz_159_36 (by decide) ?_
      exact w_bret gz_159_37 gm_159 (by omega) (by omega) (k0 )
    ·
      refine w_aload_n gz_149_9 rfl ?_
      refine w_getR gz_149_10 t0 rd_10 rfl (fun v5 ev5 tv5 => ?_)
      refine w_iload_n gz_149_13 rfl ?_
      refine w_iald gz_149_14 tv5 rd_56 (by omega) (by omega) (fun v6 ev6 pv6 qv6 => ?_)
      refine w_ifle (t := 22) gz_149_15 rfl (fun u7 => ?_) (fun u7 => ?_)
      ·
        refine w_iconst gz_149_22 (by decide) ?_
        refine w_bret gz_149_23 gm_149 (by omega) (by omega) ?_
        show wp l rho (d + 1) 159 5 [(2, x0), (0, x1), (0, x2)] [(0, 0)] h Q
        refine w_ifeq (t := 36) gz_159_5 rfl (fun u8 => ?_) (fun u8 => by exfalso; omega)
        refine w_iconst gz_159_36 (by decide) ?_
        exact w_bret gz_159_37 gm_159 (by omega) (by omega) (k0 )
      ·
        refine w_iconst gz_149_18 (by decide) ?_
        refine w_goto (t := 23) gz_149_19 rfl ?_
        refine w_bret gz_149_23 gm_149 (by omega) (by omega) ?_
        show wp l rho (d + 1) 159 5 [(2, x0), (0, x1), (0, x2)] [(0, 1)] h Q
        refine w_ifeq (t := 36) gz_159_5 rfl (fun u9 => by exfalso; omega) (fun u9 => ?_)
        refine w_iload_n gz_159_8 rfl ?_
        refine w_iconst gz_159_9 (by decide) ?_
        refine w_bipush gz_159_10 (by decide) ?_
        refine w_inS (k := 0) (as := [(0, 19), (0, 0), (0, x2)]) (r := []) (ls0 := [(0, x2), (0, 0), (0, 19)]) gz_159_12 gm_147 rfl rfl rfl rfl rfl rfl ?_
        refine w_iload_n gz_147_0 rfl ?_
        refine w_iload_n gz_147_1 rfl ?_
        refine w_iclt (t := 14) gz_147_2 rfl (fun u10 => ?_) (fun u10 => ?_)
        ·
          refine w_iconst gz_147_14 (by decide) ?_
          refine w_bret gz_147_15 gm_147 (by omega) (by omega) ?_
          show wp l rho (d + 1) 159 15 [(2, x0), (0, x1), (0, x2)] [(0, 0)] h Q
          refine w_ifeq (t := 36) gz_159_15 rfl (fun u11 => ?_) (fun u11 => by exfalso; omega)
          refine w_iconst gz_159_36 (by decide) ?_
          exact w_bret gz_159_37 gm_159 (by omega) (by omega) (k0 )
        ·
          refine w_iload_n gz_147_5 rfl ?_
          refine w_iload_n gz_147_6 rfl ?_
          refine w_icgt (t := 14) gz_147_7 rfl (fun u12 => ?_) (fun u12 => ?_)
          ·
            refine w_iconst gz_147_14 (by decide) ?_
            refine w_bret gz_147_15 gm_147 (by omega) (by omega) ?_
            show wp l rho (d + 1) 159 15 [(2, x0), (0, x1), (0, x2)] [(0, 0)] h Q
            refine w_ifeq (t := 36) gz_159_15 rfl (fun u13 => ?_) (fun u13 => by exfalso; omega)
            refine w_iconst gz_159_36 (by decide) ?_
            exact w_bret gz_159_37 gm_159 (by omega) (by omega) (k0 )
          ·
            refine w_iconst gz_147_10 (by decide) ?_
            refine w_goto (t := 15) gz_147_11 rfl ?_
            refine w_bret gz_147_15 gm_147 (by omega) (by omega) ?_
            show wp l rho (d + 1) 159 15 [(2, x0), (0, x1), (0, x2)] [(0, 1)] h Q
            refine w_ifeq (t := 36) gz_159_15 rfl (fun u14 => by exfalso; omega) (fun u14 => ?_)
            refine w_aload_n gz_159_18 rfl ?_
            refine w_getR gz_159_19 t0 rd_10 rfl (fun v15 ev15 tv15 => ?_)
            refine w_iconst gz_159_22 (by decide) ?_
            refine w_iload_n gz_159_23 rfl ?_
            refine w_iload_n gz_159_24 rfl ?_
            refine w_inS (k := 0) (as := [(0, x2), (0, x1), (0, 0)]) (r := [(2, v15)]) (ls0 := [(0, 0), (0, x1), (0, x2)]) gz_159_25 gm_150 rfl rfl rfl rfl rfl rfl ?_
            refine w_bipush gz_150_0 (by decide) ?_
            refine w_iload_n gz_150_2 rfl ?_
            refine w_imul gz_150_3 ⟨by omega, by omega⟩ ?_
            refine w_bipush gz_150_4 (by decide) ?_
            refine w_iload_n gz_150_6 rfl ?_
            refine w_imul gz_150_7 ⟨by omega, by omega⟩ ?_
            refine w_iadd gz_150_8 ⟨by omega, by omega⟩ ?_
            refine w_iload_n gz_150_9 rfl ?_
            refine w_iadd gz_150_10 ⟨by omega, by omega⟩ ?_
            refine w_iret gz_150_11 gm_150 ?_
            show wp l rho (d + 1) 159 28 [(2, x0), (0, x1), (0, x2)] [(0, (((60 * 0) + (20 * x1)) + x2)), (2, v15)] h Q
            refine w_bald gz_159_28 tv15 rd_61 (by omega) (by omega) (fun v16 ev16 pv16 qv16 => ?_)
            refine w_ifeq (t := 36) gz_159_29 rfl (fun u17 => ?_) (fun u17 => ?_)
            ·
              refine w_iconst gz_159_36 (by decide) ?_
              exact w_bret gz_159_37 gm_159 (by omega) (by omega) (k0 )
            ·
              refine w_iconst gz_159_32 (by decide) ?_
              refine w_goto (t := 37) gz_159_33 rfl ?_
              exact w_bret gz_159_37 gm_159 (by omega) (by omega) (k1 (by omega) (by omega) (by omega) (by omega))
theorem gz_161_0 : mz_pg 161 0 = some (.aload_n 0, 0, 0, 0) := by decide +kernel
theorem gz_161_1 : mz_pg 161 1 = some (.iload_n 1, 0, 0, 0) := by decide +kernel
theorem gz_161_2 : mz_pg 161 2 = some (.iload_n 2, 0, 0, 0) := by decide +kernel
theorem gz_161_3 : mz_pg 161 3 = some (.invokevirtual 283, 1, 162, 1467) := by decide +kernel
theorem gz_161_6 : mz_pg 161 6 = some (.ifCond .eq 28, 0, 0, 0) := by decide +kernel
theorem gz_161_9 : mz_pg 161 9 = some (.iload_n 3, 0, 0, 0) := by decide +kernel
theorem gz_161_10 : mz_pg 161 10 = some (.iconst 0, 0, 0, 0) := by decide +kernel
theorem gz_161_11 : mz_pg 161 11 = some (.bipush 19, 0, 0, 0) := by decide +kernel
theorem gz_161_13 : mz_pg 161 13 = some (.invokestatic 250, 1, 147, 1419) := by decide +kernel
theorem gz_161_16 : mz_pg 161 16 = some (.ifCond .eq 18, 0, 0, 0) := by decide +kernel
theorem gz_161_19 : mz_pg 161 19 = some (.iload 4, 0, 0, 0) := by decide +kernel
theorem gz_161_21 : mz_pg 161 21 = some (.iload_n 3, 0, 0, 0) := by decide +kernel
theorem gz_161_22 : mz_pg 161 22 = some (.bipush 19, 0, 0, 0) := by decide +kernel
theorem gz_161_24 : mz_pg 161 24 = some (.invokestatic 250, 1, 147, 1419) := by decide +kernel
theorem gz_161_27 : mz_pg 161 27 = some (.ifCond .eq 7, 0, 0, 0) := by decide +kernel
theorem gz_161_30 : mz_pg 161 30 = some (.iconst 1, 0, 0, 0) := by decide +kernel
theorem gz_161_31 : mz_pg 161 31 = some (.goto 4, 0, 0, 0) := by decide +kernel
theorem gz_161_34 : mz_pg 161 34 = some (.iconst 0, 0, 0, 0) := by decide +kernel
theorem gz_161_35 : mz_pg 161 35 = some (.ireturn, 0, 0, 0) := by decide +kernel
theorem gz_162_0 : mz_pg 162 0 = some (.aload_n 0, 0, 0, 0) := by decide +kernel
theorem gz_162_1 : mz_pg 162 1 = some (.iload_n 1, 0, 0, 0) := by decide +kernel
theorem gz_162_2 : mz_pg 162 2 = some (.invokevirtual 257, 1, 149, 1426) := by decide +kernel
theorem gz_162_5 : mz_pg 162 5 = some (.ifCond .eq 21, 0, 0, 0) := by decide +kernel
theorem gz_162_8 : mz_pg 162 8 = some (.iload_n 2, 0, 0, 0) := by decide +kernel
theorem gz_162_9 : mz_pg 162 9 = some (.ifCond .lt 17, 0, 0, 0) := by decide +kernel
theorem gz_162_12 : mz_pg 162 12 = some (.iload_n 2, 0, 0, 0) := by decide +kernel
theorem gz_162_13 : mz_pg 162 13 = some (.aload_n 0, 0, 0, 0) := by decide +kernel
theorem gz_162_14 : mz_pg 162 14 = some (.getfield 61, 10, 10, 1223) := by decide +kernel
theorem gz_162_17 : mz_pg 162 17 = some (.iload_n 1, 0, 0, 0) := by decide +kernel
theorem gz_162_18 : mz_pg 162 18 = some (.iaload, 0, 0, 0) := by decide +kernel
theorem gz_162_19 : mz_pg 162 19 = some (.if_icmp .ge 7, 0, 0, 0) := by decide +kernel
theorem gz_162_22 : mz_pg 162 22 = some (.iconst 1, 0, 0, 0) := by decide +kernel
theorem gz_162_23 : mz_pg 162 23 = some (.goto 4, 0, 0, 0) := by decide +kernel
theorem gz_162_26 : mz_pg 162 26 = some (.iconst 0, 0, 0, 0) := by decide +kernel
theorem gz_162_27 : mz_pg 162 27 = some (.ireturn, 0, 0, 0) := by decide +kernel
theorem gm_161 : my_mm 161 5 (some .boolean) 4 10 := by unfold my_mm; decide +kernel
theorem gm_162 : my_mm 162 3 (some .boolean) 2 10 := by unfold my_mm; decide +kernel
theorem c15_Model_isSpan {l : Launch} {rho : Nat → Int32} {d : Nat} {h : my_H} {Q : my_H → my_V → Prop} {x0 x1 x2 x3 x4 : Int} (t0 : my_is 10 x0) (k0 : Q h (0, 0)) (k1 : 0 ≤ x1 → x1 ≤ 2 → 0 ≤ x2 → x2 ≤ 3 → 0 ≤ x3 → x3 ≤ 19 → 0 ≤ x4 → x4 ≤ 19 → Q h (0, 1)) : wp l rho (d + 2) 161 0 [(2, x0), (0, x1), (0, x2), (0, x3), (0, x4)] [] h Q := by
  refine w_aload_n gz_161_0 rfl ?_
  refine w_iload_n gz_161_1 rfl ?_
  refine w_iload_n gz_161_2 rfl ?_
  refine w_inv (k := 0) (as := [(0, x2), (0, x1)]) (r := []) (x := x0) (ls0 := [(2, x0), (0, x1), (0, x2)]) gz_161_3 gm_162 rfl t0 rd_10 rfl rfl rfl rfl rfl ?_
  refine w_aload_n gz_162_0 rfl ?_
  refine w_iload_n gz_162_1 rfl ?_
  refine w_inv (k := 0) (as := [(0, x1)]) (r := []) (x := x0) (ls0 := [(2, x0), (0, x1)]) gz_162_2 gm_149 rfl t0 rd_10 rfl rfl rfl rfl rfl ?_
  refine w_iload_n gz_149_0 rfl ?_
  refine w_iflt (t := 22) gz_149_1 rfl (fun u1 => ?_) (fun u1 => ?_)
  ·
    refine w_iconst gz_149_22 (by decide) ?_
    refine w_bret gz_149_23 gm_149 (by omega) (by omega) ?_
    show wp l rho (d + 1) 162 5 [(2, x0), (0, x1), (0, x2)] [(0, 0)] h _
    refine w_ifeq (t := 26) gz_162_5 rfl (fun u2 => ?_) (fun u2 => by exfalso; omega)
    refine w_iconst gz_162_26 (by decide) ?_
    refine w_bret gz_162_27 gm_162 (by omega) (by omega) ?_
    show wp l rho (d + 2) 161 6 [(2, x0), (0, x1), (0, x2), (0, x3), (0, x4)] [(0, 0)] h Q
    refine w_ifeq (t := 34) gz_161_6 rfl (fun u3 => ?_) (fun u3 => by exfalso; omega)
    refine w_iconst gz_161_34 (by decide) ?_
    exact w_bret gz_161_35 gm_161 (by omega) (by omega) (k0 )
  ·
    refine w_iload_n gz_149_4 rfl ?_
    refine w_iconst gz_149_5 (by decide) ?_
    refine w_icge (t := 22) gz_149_6 rfl (fun u4 => ?_) (fun u4 => ?_)
    ·
      refine w_iconst gz_149_22 (by decide) ?_
      refine w_bret gz_149_23 gm_149 (by omega) (by omega) ?_
      show wp l rho (d + 1) 162 5 [(2, x0), (0, x1), (0, x2)] [(0, 0)] h _
      refine w_ifeq (t := 26) gz_162_5 rfl (fun u5 => ?_) (fun u5 => by exfalso; omega)
      refine w_iconst gz_162_26 (by decide) ?_
      refine w_bret gz_162_27 gm_162 (by omega) (by omega) ?_
      show wp l rho (d + 2) 161 6 [(2, x0), (0, x1), (0, x2), (0, x3), (0, x4)] [(0, 0)] h Q
      refine w_ifeq (t := 34) gz_161_6 rfl (fun u6 => ?_) (fun u6 => by exfalso; omega)
      refine w_iconst gz_161_34 (by decide) ?_
      exact w_bret gz_161_35 gm_161 (by omega) (by omega) (k0 )
    ·
      refine w_aload_n gz_149_9 rfl ?_
      refine w_getR gz_149_10 t0 rd_10 rfl (fun v7 ev7 tv7 => ?_)
      refine w_iload_n gz_149_13 rfl ?_
      refine w_iald gz_149_14 tv7 rd_56 (by omega) (by omega) (fun v8 ev8 pv8 qv8 => ?_)
      refine w_ifle (t := 22) gz_149_15 rfl (fun u9 => ?_) (fun u9 => ?_)
      ·
        refine w_iconst gz_149_22 (by decide) ?_
        refine w_bret gz_149_23 gm_149 (by omega) (by omega) ?_
        show wp l rho (d + 1) 162 5 [(2, x0), (0, x1), (0, x2)] [(0, 0)] h _
        refine w_ifeq (t := 26) gz_162_5 rfl (fun u10 => ?_) (fun u10 => by exfalso; omega)
        refine w_iconst gz_162_26 (by decide) ?_
        refine w_bret gz_162_27 gm_162 (by omega) (by omega) ?_
        show wp l rho (d + 2) 161 6 [(2, x0), (0, x1), (0, x2), (0, x3), (0, x4)] [(0, 0)] h Q
        refine w_ifeq (t := 34) gz_161_6 rfl (fun u11 => ?_) (fun u11 => by exfalso; omega)
        refine w_iconst gz_161_34 (by decide) ?_
        exact w_bret gz_161_35 gm_161 (by omega) (by omega) (k0 )
      ·
        refine w_iconst gz_149_18 (by decide) ?_
        refine w_goto (t := 23) gz_149_19 rfl ?_
        refine w_bret gz_149_23 gm_149 (by omega) (by omega) ?_
        show wp l rho (d + 1) 162 5 [(2, x0), (0, x1), (0, x2)] [(0, 1)] h _
        refine w_ifeq (t := 26) gz_162_5 rfl (fun u12 => by exfalso; omega) (fun u12 => ?_)
        refine w_iload_n gz_162_8 rfl ?_
        refine w_iflt (t := 26) gz_162_9 rfl (fun u13 => ?_) (fun u13 => ?_)
        ·
          refine w_iconst gz_162_26 (by decide) ?_
          refine w_bret gz_162_27 gm_162 (by omega) (by omega) ?_
          show wp l rho (d + 2) 161 6 [(2, x0), (0, x1), (0, x2), (0, x3), (0, x4)] [(0, 0)] h Q
          refine w_ifeq (t := 34) gz_161_6 rfl (fun u14 => ?_) (fun u14 => by exfalso; omega)
          refine w_iconst gz_161_34 (by decide) ?_
          exact w_bret gz_161_35 gm_161 (by omega) (by omega) (k0 )
        ·
          refine w_iload_n gz_162_12 rfl ?_
          refine w_aload_n gz_162_13 rfl ?_
          refine w_getR gz_162_14 t0 rd_10 rfl (fun v15 ev15 tv15 => ?_)
          have zv15 : v7 = v15 := (ev15.trans ev7.symm).symm
          subst zv15
          refine w_iload_n gz_162_17 rfl ?_
          refine w_iald gz_162_18 tv7 rd_56 (by omega) (by omega) (fun v16 ev16 pv16 qv16 => ?_)
          have zv16 := ev16.trans ev8.symm
          refine w_icge (t := 26) gz_162_19 rfl (fun u17 => ?_) (fun u17 => ?_)
          ·
            refine w_iconst gz_162_26 (by decide) ?_
            refine w_bret gz_162_27 gm_162 (by omega) (by omega) ?_
            show wp l rho (d + 2) 161 6 [(2, x0), (0, x1), (0, x2), (0, x3), (0, x4)] [(0, 0)] h Q
            refine w_ifeq (t := 34) gz_161_6 rfl (fun u18 => ?_) (fun u18 => by exfalso; omega)
            refine w_iconst gz_161_34 (by decide) ?_
            exact w_bret gz_161_35 gm_161 (by omega) (by omega) (k0 )
          ·
            refine w_iconst gz_162_22 (by decide) ?_
            refine w_goto (t := 27) gz_162_23 rfl ?_
            refine w_bret gz_162_27 gm_162 (by omega) (by omega) ?_
            show wp l rho (d + 2) 161 6 [(2, x0), (0, x1), (0, x2), (0, x3), (0, x4)] [(0, 1)] h Q
            refine w_ifeq (t := 34) gz_161_6 rfl (fun u19 => by exfalso; omega) (fun u19 => ?_)
            refine w_iload_n gz_161_9 rfl ?_
            refine w_iconst gz_161_10 (by decide) ?_
            refine w_bipush gz_161_11 (by decide) ?_
            refine w_inS (k := 0) (as := [(0, 19), (0, 0), (0, x3)]) (r := []) (ls0 := [(0, x3), (0, 0), (0, 19)]) gz_161_13 gm_147 rfl rfl rfl rfl rfl rfl ?_
            refine w_iload_n gz_147_0 rfl ?_
            refine w_iload_n gz_147_1 rfl ?_
            refine w_iclt (t := 14) gz_147_2 rfl (fun u20 => ?_) (fun u20 => ?_)
            ·
              refine w_iconst gz_147_14 (by decide) ?_
              refine w_bret gz_147_15 gm_147 (by omega) (by omega) ?_
              show wp l rho (d + 2) 161 16 [(2, x0), (0, x1), (0, x2), (0, x3), (0, x4)] [(0, 0)] h Q
              refine w_ifeq (t := 34) gz_161_16 rfl (fun u21 => ?_) (fun u21 => by exfalso; omega)
              refine w_iconst gz_161_34 (by decide) ?_
              exact w_bret gz_161_35 gm_161 (by omega) (by omega) (k0 )
            ·
              refine w_iload_n gz_147_5 rfl ?_
              refine w_iload_n gz_147_6 rfl ?_
              refine w_icgt (t := 14) gz_147_7 rfl (fun u22 => ?_) (fun u22 => ?_)
              ·
                refine w_iconst gz_147_14 (by decide) ?_
                refine w_bret gz_147_15 gm_147 (by omega) (by omega) ?_
                show wp l rho (d + 2) 161 16 [(2, x0), (0, x1), (0, x2), (0, x3), (0, x4)] [(0, 0)] h Q
                refine w_ifeq (t := 34) gz_161_16 rfl (fun u23 => ?_) (fun u23 => by exfalso; omega)
                refine w_iconst gz_161_34 (by decide) ?_
                exact w_bret gz_161_35 gm_161 (by omega) (by omega) (k0 )
              ·
                refine w_iconst gz_147_10 (by decide) ?_
                refine w_goto (t := 15) gz_147_11 rfl ?_
                refine w_bret gz_147_15 gm_147 (by omega) (by omega) ?_
                show wp l rho (d + 2) 161 16 [(2, x0), (0, x1), (0, x2), (0, x3), (0, x4)] [(0, 1)] h Q
                refine w_ifeq (t := 34) gz_161_16 rfl (fun u24 => by exfalso; omega) (fun u24 => ?_)
                refine w_iload gz_161_19 rfl ?_
                refine w_iload_n gz_161_21 rfl ?_
                refine w_bipush gz_161_22 (by decide) ?_
                refine w_inS (k := 0) (as := [(0, 19), (0, x3), (0, x4)]) (r := []) (ls0 := [(0, x4), (0, x3), (0, 19)]) gz_161_24 gm_147 rfl rfl rfl rfl rfl rfl ?_
                refine w_iload_n gz_147_0 rfl ?_
                refine w_iload_n gz_147_1 rfl ?_
                refine w_iclt (t := 14) gz_147_2 rfl (fun u25 => ?_) (fun u25 => ?_)
                ·
                  refine w_iconst gz_147_14 (by decide) ?_
                  refine w_bret gz_147_15 gm_147 (by omega) (by omega) ?_
                  show wp l rho (d + 2) 161 27 [(2, x0), (0, x1), (0, x2), (0, x3), (0, x4)] [(0, 0)] h Q
                  refine w_ifeq (t := 34) gz_161_27 rfl (fun u26 => ?_) (fun u26 => by exfalso; omega)
                  refine w_iconst gz_161_34 (by decide) ?_
                  exact w_bret gz_161_35 gm_161 (by omega) (by omega) (k0 )
                ·
                  refine w_iload_n gz_147_5 rfl ?_
                  refine w_iload_n gz_147_6 rfl ?_
                  refine w_icgt (t := 14) gz_147_7 rfl (fun u27 => ?_) (fun u27 => ?_)
                  ·
                    refine w_iconst gz_147_14 (by decide) ?_
                    refine w_bret gz_147_15 gm_147 (by omega) (by omega) ?_
                    show wp l rho (d + 2) 161 27 [(2, x0), (0, x1), (0, x2), (0, x3), (0, x4)] [(0, 0)] h Q
                    refine w_ifeq (t := 34) gz_161_27 rfl (fun u28 => ?_) (fun u28 => by exfalso; omega)
                    refine w_iconst gz_161_34 (by decide) ?_
                    exact w_bret gz_161_35 gm_161 (by omega) (by omega) (k0 )
                  ·
                    refine w_iconst gz_147_10 (by decide) ?_
                    refine w_goto (t := 15) gz_147_11 rfl ?_
                    refine w_bret gz_147_15 gm_147 (by omega) (by omega) ?_
                    show wp l rho (d + 2) 161 27 [(2, x0), (0, x1), (0, x2), (0, x3), (0, x4)] [(0, 1)] h Q
                    refine w_ifeq (t := 34) gz_161_27 rfl (fun u29 => by exfalso; omega) (fun u29 => ?_)
                    refine w_iconst gz_161_30 (by decide) ?_
                    refine w_goto (t := 35) gz_161_31 rfl ?_
                    exact w_bret gz_161_35 gm_161 (by omega) (by omega) (k1 (by omega) (by omega) (by omega) (by omega) (by omega) (by omega) (by omega) (by omega))
theorem gz_163_0 : mz_pg 163 0 = some (.iconst 0, 0, 0, 0) := by decide +kernel
theorem gz_163_1 : mz_pg 163 1 = some (.istore 5, 0, 0, 0) := by decide +kernel
theorem gz_163_3 : mz_pg 163 3 = some (.iconst 0, 0, 0, 0) := by decide +kernel
theorem gz_163_4 : mz_pg 163 4 = some (.istore 6, 0, 0, 0) := by decide +kernel
theorem gz_163_6 : mz_pg 163 6 = some (.iload 6, 0, 0, 0) := by decide +kernel
theorem gz_163_8 : mz_pg 163 8 = some (.bipush 20, 0, 0, 0) := by decide +kernel
theorem gz_163_10 : mz_pg 163 10 = some (.if_icmp .ge 52, 0, 0, 0) := by decide +kernel
theorem gz_163_13 : mz_pg 163 13 = some (.iload 5, 0, 0, 0) := by decide +kernel
theorem gz_163_15 : mz_pg 163 15 = some (.aload_n 0, 0, 0, 0) := by decide +kernel
theorem gz_163_16 : mz_pg 163 16 = some (.getfield 77, 10, 15, 1228) := by decide +kernel
theorem gz_163_19 : mz_pg 163 19 = some (.iconst 0, 0, 0, 0) := by decide +kernel
theorem gz_163_20 : mz_pg 163 20 = some (.iload_n 1, 0, 0, 0) := by decide +kernel
theorem gz_163_21 : mz_pg 163 21 = some (.iload 6, 0, 0, 0) := by decide +kernel
theorem gz_163_23 : mz_pg 163 23 = some (.invokestatic 242, 1, 150, 1429) := by decide +kernel
theorem gz_163_26 : mz_pg 163 26 = some (.baload, 0, 0, 0) := by decide +kernel
theorem gz_163_27 : mz_pg 163 27 = some (.ifCond .eq 25, 0, 0, 0) := by decide +kernel
theorem gz_163_30 : mz_pg 163 30 = some (.aload_n 0, 0, 0, 0) := by decide +kernel
theorem gz_163_31 : mz_pg 163 31 = some (.iconst 0, 0, 0, 0) := by decide +kernel
theorem gz_163_32 : mz_pg 163 32 = some (.iload_n 1, 0, 0, 0) := by decide +kernel
theorem gz_163_33 : mz_pg 163 33 = some (.iload 6, 0, 0, 0) := by decide +kernel
theorem gz_163_35 : mz_pg 163 35 = some (.iload_n 2, 0, 0, 0) := by decide +kernel
theorem gz_163_36 : mz_pg 163 36 = some (.invokevirtual 246, 1, 157, 1450) := by decide +kernel
theorem gz_163_39 : mz_pg 163 39 = some (.iload_n 3, 0, 0, 0) := by decide +kernel
theorem gz_163_40 : mz_pg 163 40 = some (.iload 4, 0, 0, 0) := by decide +kernel
theorem gz_163_42 : mz_pg 163 42 = some (.invokestatic 250, 1, 147, 1419) := by decide +kernel
theorem gz_163_45 : mz_pg 163 45 = some (.ifCond .ne 7, 0, 0, 0) := by decide +kernel
theorem gz_163_48 : mz_pg 163 48 = some (.iconst 1, 0, 0, 0) := by decide +kernel
theorem gz_163_49 : mz_pg 163 49 = some (.goto 4, 0, 0, 0) := by decide +kernel
theorem gz_163_52 : mz_pg 163 52 = some (.iconst 0, 0, 0, 0) := by decide +kernel
theorem gz_163_53 : mz_pg 163 53 = some (.iadd, 0, 0, 0) := by decide +kernel
theorem gz_163_54 : mz_pg 163 54 = some (.istore 5, 0, 0, 0) := by decide +kernel
theorem gz_163_56 : mz_pg 163 56 = some (.iinc 6 1, 0, 0, 0) := by decide +kernel
theorem gz_163_59 : mz_pg 163 59 = some (.goto (-53), 0, 0, 0) := by decide +kernel
theorem gz_163_62 : mz_pg 163 62 = some (.iload 5, 0, 0, 0) := by decide +kernel
theorem gz_163_64 : mz_pg 163 64 = some (.ireturn, 0, 0, 0) := by decide +kernel
theorem gm_163 : my_mm 163 7 (some .int) 4 10 := by unfold my_mm; decide +kernel
theorem c16_Model_outside {l : Launch} {rho : Nat → Int32} {d : Nat} {h : my_H} {Q : my_H → my_V → Prop} {x0 x1 x2 x3 x4 : Int} (t0 : my_is 10 x0) (a1 : 0 ≤ x1) (b1 : x1 ≤ 2) (a2 : 0 ≤ x2) (b2 : x2 ≤ 3) (a3 : 0 ≤ x3) (b3 : x3 ≤ 19) (a4 : 0 ≤ x4) (b4 : x4 ≤ 19) (k0 : ∀ (y : Int), 0 ≤ y → y ≤ 20 → Q h (0, y)) : wp l rho (d + 2) 163 0 [(2, x0), (0, x1), (0, x2), (0, x3), (0, x4), (9, 0), (9, 0)] [] h Q := by
  have J6_0 : ∀ (n : Nat) (p6_0 p6_1 : Int), 0 ≤ p6_0 → p6_0 ≤ 20 → 0 ≤ p6_1 → p6_1 ≤ 20 → p6_0 ≤ p6_1 → 21 - p6_1 ≤ (n : Int) → wp l rho (d + 2) 163 6 [(2, x0), (0, x1), (0, x2), (0, x3), (0, x4), (0, p6_0), (0, p6_1)] [] h Q := by
    intro n
    induction n with
    | zero => intro p6_0 p6_1 q0_6_0 q1_6_0 q2_6_0 q3_6_0 q4_6_0 hm_6_0; exfalso; omega
    | succ n ih_6_0 =>
      intro p6_0 p6_1 q0_6_0 q1_6_0 q2_6_0 q3_6_0 q4_6_0 hm_6_0
      have J53_1 : p6_0 ≤ 19 → p6_1 ≤ 19 → p6_0 ≤ p6_1 → wp l rho (d + 2) 163 53 [(2, x0), (0, x1), (0, x2), (0, x3), (0, x4), (0, p6_0), (0, p6_1)] [(0, 1), (0, p6_0)] h Q := by
        intro q0_53_1 q1_53_1 q2_53_1
        refine w_iadd gz_163_53 ⟨by omega, by omega⟩ ?_
        refine w_istore (ls' := [(2, x0), (0, x1), (0, x2), (0, x3), (0, x4), (0, (p6_0 + 1)), (0, p6_1)]) gz_163_54 gm_163 rfl rfl rfl ?_
        refine w_iinc (ls' := [(2, x0), (0, x1), (0, x2), (0, x3), (0, x4), (0, (p6_0 + 1)), (0, (p6_1 + 1))]) gz_163_56 rfl gm_163 rfl rfl rfl ⟨by omega, by omega⟩ ?_
        refine w_goto (t := 6) gz_163_59 rfl ?_
        exact ih_6_0 ((p6_0 + 1)) ((p6_1 + 1)) (by omega) (by omega) (by omega) (by omega) (by omega) (by omega)
      have J52_0 : p6_0 ≤ 19 → p6_1 ≤ 19 → p6_0 ≤ p6_1 → wp l rho (d + 2) 163 52 [(2, x0), (0, x1), (0, x2), (0, x3), (0, x4), (0, p6_0), (0, p6_1)] [(0, p6_0)] h Q := by
        intro q0_52_0 q1_52_0 q2_52_0
        refine w_iconst gz_163_52 (by decide) ?_
        refine w_iadd gz_163_53 ⟨by omega, by omega⟩ ?_
        refine w_istore (ls' := [(2, x0), (0, x1), (0, x2), (0, x3), (0, x4), (0, (p6_0 + 0)), (0, p6_1)]) gz_163_54 gm_163 rfl rfl rfl ?_
        refine w_iinc (ls' := [(2, x0), (0, x1), (0, x2), (0, x3), (0, x4), (0, (p6_0 + 0)), (0, (p6_1 + 1))]) gz_163_56 rfl gm_163 rfl rfl rfl ⟨by omega, by omega⟩ ?_
        refine w_goto (t := 6) gz_163_59 rfl ?_
        exact ih_6_0 ((p6_0 + 0)) ((p6_1 + 1)) (by omega) (by omega) (by omega) (by omega) (by omega) (by omega)
      refine w_iload gz_163_6 rfl ?_
      refine w_bipush gz_163_8 (by decide) ?_
      refine w_icge (t := 62) gz_163_10 rfl (fun u1 => ?_) (fun u1 => ?_)
      ·
        refine w_iload gz_163_62 rfl ?_
        exact w_iret gz_163_64 gm_163 (k0 (p6_0) (by omega) (by omega))
      ·
        refine w_iload gz_163_13 rfl ?_
        refine w_aload_n gz_163_15 rfl ?_
        refine w_getR gz_163_16 t0 rd_10 rfl (fun v2 ev2 tv2 => ?_)
        refine w_iconst gz_163_19 (by decide) ?_
        refine w_iload_n gz_163_20 rfl ?_
        refine w_iload gz_163_21 rfl ?_
        refine w_inS (k := 0) (as := [(0, p6_1), (0, x1), (0, 0)]) (r := [(2, v2), (0, p6_0)]) (ls0 := [(0, 0), (0, x1), (0, p6_1)]) gz_163_23 gm_150 rfl rfl rfl rfl rfl rfl ?_
        refine w_bipush gz_150_0 (by decide) ?_
        refine w_iload_n gz_150_2 rfl ?_
        refine w_imul gz_150_3 ⟨by omega, by omega⟩ ?_
        refine w_bipush gz_150_4 (by decide) ?_
        refine w_iload_n gz_150_6 rfl ?_
        refine w_imul gz_150_7 ⟨by omega, by omega⟩ ?_
        refine w_iadd gz_150_8 ⟨by omega, by omega⟩ ?_
        refine w_iload_n gz_150_9 rfl ?_
        refine w_iadd gz_150_10 ⟨by omega, by omega⟩ ?_
        refine w_iret gz_150_11 gm_150 ?_
        show wp l rho (d + 2) 163 26 [(2, x0), (0, x1), (0, x2), (0, x3), (0, x4), (0, p6_0), (0, p6_1)] [(0, (((60 * 0) + (20 * x1)) + p6_1)), (2, v2), (0, p6_0)] h Q
        refine w_bald gz_163_26 tv2 rd_61 (by omega) (by omega) (fun v3 ev3 pv3 qv3 => ?_)
        refine w_ifeq (t := 52) gz_163_27 rfl (fun u4 => ?_) (fun u4 => ?_)
        ·
          exact J52_0 (by omega) (by omega) (by omega)
        ·
          refine w_aload_n gz_163_30 rfl ?_
          refine w_iconst gz_163_31 (by decide) ?_
          refine w_iload_n gz_163_32 rfl ?_
          refine w_iload gz_163_33 rfl ?_
          refine w_iload_n gz_163_35 rfl ?_
          refine w_inv (k := 0) (as := [(0, x2), (0, p6_1), (0, x1), (0, 0)]) (r := [(0, p6_0)]) (x := x0) (ls0 := [(2, x0), (0, 0), (0, x1), (0, p6_1), (0, x2)]) gz_163_36 gm_157 rfl t0 rd_10 rfl rfl rfl rfl rfl ?_
          refine w_aload_n gz_157_0 rfl ?_
          refine w_getR gz_157_1 t0 rd_10 rfl (fun v5 ev5 tv5 => ?_)
          refine w_iconst gz_157_4 (by decide) ?_
          refine w_iload_n gz_157_5 rfl ?_
          refine w_iload_n gz_157_6 rfl ?_
          refine w_iload_n gz_157_7 rfl ?_
          refine w_inS (k := 0) (as := [(0, p6_1), (0, x1), (0, 0)]) (r := [(0, 4), (2, v5)]) (ls0 := [(0, 0), (0, x1), (0, p6_1)]) gz_157_8 gm_150 rfl rfl rfl rfl rfl rfl ?_
          refine w_bipush gz_150_0 (by decide) ?_
          refine w_iload_n gz_150_2 rfl ?_
          refine w_imul gz_150_3 ⟨by omega, by omega⟩ ?_
          refine w_bipush gz_150_4 (by decide) ?_
          refine w_iload_n gz_150_6 rfl ?_
          refine w_imul gz_150_7 ⟨by omega, by omega⟩ ?_
          refine w_iadd gz_150_8 ⟨by omega, by omega⟩ ?_
          refine w_iload_n gz_150_9 rfl ?_
          refine w_iadd gz_150_10 ⟨by omega, by omega⟩ ?_
          refine w_iret gz_150_11 gm_150 ?_
          show wp l rho (d + 1) 157 11 [(2, x0), (0, 0), (0, x1), (0, p6_1), (0, x2)] [(0, (((60 * 0) + (20 * x1)) + p6_1)), (0, 4), (2, v5)] h _
          refine w_imul gz_157_11 ⟨by omega, by omega⟩ ?_
          refine w_iload gz_157_12 rfl ?_
          refine w_iadd gz_157_14 ⟨by omega, by omega⟩ ?_
          refine w_iald gz_157_15 tv5 rd_62 (by omega) (by omega) (fun v6 ev6 pv6 qv6 => ?_)
          refine w_iret gz_157_16 gm_157 ?_
          show wp l rho (d + 2) 163 39 [(2, x0), (0, x1), (0, x2), (0, x3), (0, x4), (0, p6_0), (0, p6_1)] [(0, v6), (0, p6_0)] h Q
          refine w_iload_n gz_163_39 rfl ?_
          refine w_iload gz_163_40 rfl ?_
          refine w_inS (k := 0) (as := [(0, x4), (0, x3), (0, v6)]) (r := [(0, p6_0)]) (ls0 := [(0, v6), (0, x3), (0, x4)]) gz_163_42 gm_147 rfl rfl rfl rfl rfl rfl ?_
          refine w_iload_n gz_147_0 rfl ?_
          refine w_iload_n gz_147_1 rfl ?_
          refine w_iclt (t := 14) gz_147_2 rfl (fun u7 => ?_) (fun u7 => ?_)
          ·
            refine w_iconst gz_147_14 (by decide) ?_
            refine w_bret gz_147_15 gm_147 (by omega) (by omega) ?_
            show wp l rho (d + 2) 163 45 [(2, x0), (0, x1), (0, x2), (0, x3), (0, x4), (0, p6_0), (0, p6_1)] [(0, 0), (0, p6_0)] h Q
            refine w_ifne (t := 52) gz_163_45 rfl (fun u8 => by exfalso; omega) (fun u8 => ?_)
            refine w_iconst gz_163_48 (by decide) ?_
            refine w_goto (t := 53) gz_163_49 rfl ?_
            exact J53_1 (by omega) (by omega) (by omega)
          ·
            refine w_iload_n gz_147_5 rfl ?_
            refine w_iload_n gz_147_6 rfl ?_
            refine w_icgt (t := 14) gz_147_7 rfl (fun u9 => ?_) (fun u9 => ?_)
            ·
              refine w_iconst gz_147_14 (by decide) ?_
              refine w_bret gz_147_15 gm_147 (by omega) (by omega) ?_
              show wp l rho (d + 2) 163 45 [(2, x0), (0, x1), (0, x2), (0, x3), (0, x4), (0, p6_0), (0, p6_1)] [(0, 0), (0, p6_0)] h Q
              refine w_ifne (t := 52) gz_163_45 rfl (fun u10 => by exfalso; omega) (fun u10 => ?_)
              refine w_iconst gz_163_48 (by decide) ?_
              refine w_goto (t := 53) gz_163_49 rfl ?_
              exact J53_1 (by omega) (by omega) (by omega)
            ·
              refine w_iconst gz_147_10 (by decide) ?_
              refine w_goto (t := 15) gz_147_11 rfl ?_
              refine w_bret gz_147_15 gm_147 (by omega) (by omega) ?_
              show wp l rho (d + 2) 163 45 [(2, x0), (0, x1), (0, x2), (0, x3), (0, x4), (0, p6_0), (0, p6_1)] [(0, 1), (0, p6_0)] h Q
              refine w_ifne (t := 52) gz_163_45 rfl (fun u11 => ?_) (fun u11 => by exfalso; omega)
              exact J52_0 (by omega) (by omega) (by omega)
  refine w_iconst gz_163_0 (by decide) ?_
  refine w_istore (ls' := [(2, x0), (0, x1), (0, x2), (0, x3), (0, x4), (0, 0), (9, 0)]) gz_163_1 gm_163 rfl rfl rfl ?_
  refine w_iconst gz_163_3 (by decide) ?_
  refine w_istore (ls' := [(2, x0), (0, x1), (0, x2), (0, x3), (0, x4), (0, 0), (0, 0)]) gz_163_4 gm_163 rfl rfl rfl ?_
  exact J6_0 21 (0) (0) (by omega) (by omega) (by omega) (by omega) (by omega) (by omega)
theorem gz_164_0 : mz_pg 164 0 = some (.aload_n 0, 0, 0, 0) := by decide +kernel
theorem gz_164_1 : mz_pg 164 1 = some (.iconst 0, 0, 0, 0) := by decide +kernel
theorem gz_164_2 : mz_pg 164 2 = some (.putfield 1, 10, 0, 1213) := by decide +kernel
theorem gz_164_5 : mz_pg 164 5 = some (.aload_n 0, 0, 0, 0) := by decide +kernel
theorem gz_164_6 : mz_pg 164 6 = some (.iload_n 1, 0, 0, 0) := by decide +kernel
theorem gz_164_7 : mz_pg 164 7 = some (.iload_n 2, 0, 0, 0) := by decide +kernel
theorem gz_164_8 : mz_pg 164 8 = some (.iload_n 3, 0, 0, 0) := by decide +kernel
theorem gz_164_9 : mz_pg 164 9 = some (.iload 4, 0, 0, 0) := by decide +kernel
theorem gz_164_11 : mz_pg 164 11 = some (.invokevirtual 286, 1, 161, 1464) := by decide +kernel
theorem gz_164_14 : mz_pg 164 14 = some (.ifCond .eq 15, 0, 0, 0) := by decide +kernel
theorem gz_164_17 : mz_pg 164 17 = some (.aload_n 0, 0, 0, 0) := by decide +kernel
theorem gz_164_18 : mz_pg 164 18 = some (.iload_n 1, 0, 0, 0) := by decide +kernel
theorem gz_164_19 : mz_pg 164 19 = some (.iload_n 2, 0, 0, 0) := by decide +kernel
theorem gz_164_20 : mz_pg 164 20 = some (.iload_n 3, 0, 0, 0) := by decide +kernel
theorem gz_164_21 : mz_pg 164 21 = some (.iload 4, 0, 0, 0) := by decide +kernel
theorem gz_164_23 : mz_pg 164 23 = some (.invokevirtual 290, 1, 163, 1470) := by decide +kernel
theorem gz_164_26 : mz_pg 164 26 = some (.goto 4, 0, 0, 0) := by decide +kernel
theorem gz_164_29 : mz_pg 164 29 = some (.iconst (-1), 0, 0, 0) := by decide +kernel
theorem gz_164_30 : mz_pg 164 30 = some (.ireturn, 0, 0, 0) := by decide +kernel
theorem gm_164 : my_mm 164 5 (some .int) 4 10 := by unfold my_mm; decide +kernel
theorem c17_Model_moves {l : Launch} {rho : Nat → Int32} {d : Nat} {h : my_H} {Q : my_H → my_V → Prop} {x0 x1 x2 x3 x4 : Int} (t0 : my_is 10 x0) (k0 : ∀ (h' : my_H), my_fr [(10, 0)] h h' → h' x0 ((0 : Nat) : Int) = 0 → Q h' (0, (-1))) (k1 : ∀ (h' : my_H) (y : Int), my_fr [(10, 0)] h h' → 0 ≤ y → y ≤ 20 → 0 ≤ x1 → x1 ≤ 2 → 0 ≤ x2 → x2 ≤ 3 → 0 ≤ x3 → x3 ≤ 19 → 0 ≤ x4 → x4 ≤ 19 → h' x0 ((0 : Nat) : Int) = 0 → Q h' (0, y)) : wp l rho (d + 3) 164 0 [(2, x0), (0, x1), (0, x2), (0, x3), (0, x4)] [] h Q := by
  refine w_aload_n gz_164_0 rfl ?_
  refine w_iconst gz_164_1 (by decide) ?_
  refine w_putI gz_164_2 t0 rd_10 rfl (by omega) (by omega) rfl (fun h1 fh1 => ?_)
  have gh1 : my_fr [(10, 0)] h h1 := my_fr.up my_fr.rf t0 fh1 rfl
  refine w_aload_n gz_164_5 rfl ?_
  refine w_iload_n gz_164_6 rfl ?_
  refine w_iload_n gz_164_7 rfl ?_
  refine w_iload_n gz_164_8 rfl ?_
  refine w_iload gz_164_9 rfl ?_
  refine w_inv (k := 0) (as := [(0, x4), (0, x3), (0, x2), (0, x1)]) (r := []) (x := x0) (ls0 := [(2, x0), (0, x1), (0, x2), (0, x3), (0, x4)]) gz_164_11 gm_161 rfl t0 rd_10 rfl rfl rfl rfl rfl (c15_Model_isSpan (d := d) (x0 := x0) (x1 := x1) (x2 := x2) (x3 := x3) (x4 := x4) t0 ?_ (fun w2 w3 w4 w5 w6 w7 w8 w9 => ?_))
  ·
    show wp l rho (d + 3) 164 14 [(2, x0), (0, x1), (0, x2), (0, x3), (0, x4)] [(0, 0)] h1 Q
    refine w_ifeq (t := 29) gz_164_14 rfl (fun u10 => ?_) (fun u10 => by exfalso; omega)
    refine w_iconst gz_164_29 (by decide) ?_
    have c11 := (my_up_self fh1)
    exact w_iret gz_164_30 gm_164 (k0 h1 (gh1) (by omega))
  ·
    show wp l rho (d + 3) 164 14 [(2, x0), (0, x1), (0, x2), (0, x3), (0, x4)] [(0, 1)] h1 Q
    refine w_ifeq (t := 29) gz_164_14 rfl (fun u12 => by exfalso; omega) (fun u12 => ?_)
    refine w_aload_n gz_164_17 rfl ?_
    refine w_iload_n gz_164_18 rfl ?_
    refine w_iload_n gz_164_19 rfl ?_
    refine w_iload_n gz_164_20 rfl ?_
    refine w_iload gz_164_21 rfl ?_
    refine w_inv (k := 2) (as := [(0, x4), (0, x3), (0, x2), (0, x1)]) (r := []) (x := x0) (ls0 := [(2, x0), (0, x1), (0, x2), (0, x3), (0, x4), (9, 0), (9, 0)]) gz_164_23 gm_163 rfl t0 rd_10 rfl rfl rfl rfl rfl (c16_Model_outside (d := d) (x0 := x0) (x1 := x1) (x2 := x2) (x3 := x3) (x4 := x4) t0 (by omega) (by omega) (by omega) (by omega) (by omega) (by omega) (by omega) (by omega) (fun v13 w14 w15 => ?_))
    show wp l rho (d + 3) 164 26 [(2, x0), (0, x1), (0, x2), (0, x3), (0, x4)] [(0, v13)] h1 Q
    refine w_goto (t := 30) gz_164_26 rfl ?_
    have c16 := (my_up_self fh1)
    exact w_iret gz_164_30 gm_164 (k1 h1 (v13) (gh1) (by omega) (by omega) (by omega) (by omega) (by omega) (by omega) (by omega) (by omega) (by omega) (by omega) (by omega))
theorem gz_167_0 : mz_pg 167 0 = some (.aload_n 0, 0, 0, 0) := by decide +kernel
theorem gz_167_1 : mz_pg 167 1 = some (.aload_n 0, 0, 0, 0) := by decide +kernel
theorem gz_167_2 : mz_pg 167 2 = some (.iload_n 1, 0, 0, 0) := by decide +kernel
theorem gz_167_3 : mz_pg 167 3 = some (.iload_n 3, 0, 0, 0) := by decide +kernel
theorem gz_167_4 : mz_pg 167 4 = some (.invokevirtual 283, 1, 162, 1467) := by decide +kernel
theorem gz_167_7 : mz_pg 167 7 = some (.ifCond .eq 16, 0, 0, 0) := by decide +kernel
theorem gz_167_10 : mz_pg 167 10 = some (.aload_n 0, 0, 0, 0) := by decide +kernel
theorem gz_167_11 : mz_pg 167 11 = some (.iload_n 1, 0, 0, 0) := by decide +kernel
theorem gz_167_12 : mz_pg 167 12 = some (.iload_n 2, 0, 0, 0) := by decide +kernel
theorem gz_167_13 : mz_pg 167 13 = some (.invokevirtual 279, 1, 159, 1457) := by decide +kernel
theorem gz_167_16 : mz_pg 167 16 = some (.ifCond .eq 7, 0, 0, 0) := by decide +kernel
theorem gz_167_19 : mz_pg 167 19 = some (.iconst 0, 0, 0, 0) := by decide +kernel
theorem gz_167_20 : mz_pg 167 20 = some (.goto 4, 0, 0, 0) := by decide +kernel
theorem gz_167_23 : mz_pg 167 23 = some (.iconst 1, 0, 0, 0) := by decide +kernel
theorem gz_167_24 : mz_pg 167 24 = some (.putfield 1, 10, 0, 1213) := by decide +kernel
theorem gz_167_27 : mz_pg 167 27 = some (.aload_n 0, 0, 0, 0) := by decide +kernel
theorem gz_167_28 : mz_pg 167 28 = some (.getfield 1, 10, 0, 1213) := by decide +kernel
theorem gz_167_31 : mz_pg 167 31 = some (.ifCond .le 7, 0, 0, 0) := by decide +kernel
theorem gz_167_34 : mz_pg 167 34 = some (.iconst 0, 0, 0, 0) := by decide +kernel
theorem gz_167_35 : mz_pg 167 35 = some (.goto 11, 0, 0, 0) := by decide +kernel
theorem gz_167_38 : mz_pg 167 38 = some (.aload_n 0, 0, 0, 0) := by decide +kernel
theorem gz_167_39 : mz_pg 167 39 = some (.iconst 0, 0, 0, 0) := by decide +kernel
theorem gz_167_40 : mz_pg 167 40 = some (.iload_n 1, 0, 0, 0) := by decide +kernel
theorem gz_167_41 : mz_pg 167 41 = some (.iload_n 2, 0, 0, 0) := by decide +kernel
theorem gz_167_42 : mz_pg 167 42 = some (.iload_n 3, 0, 0, 0) := by decide +kernel
theorem gz_167_43 : mz_pg 167 43 = some (.invokevirtual 246, 1, 157, 1450) := by decide +kernel
theorem gz_167_46 : mz_pg 167 46 = some (.ireturn, 0, 0, 0) := by decide +kernel
theorem gm_167 : my_mm 167 4 (some .int) 3 10 := by unfold my_mm; decide +kernel
theorem c18_Model_value {l : Launch} {rho : Nat → Int32} {d : Nat} {h : my_H} {Q : my_H → my_V → Prop} {x0 x1 x2 x3 : Int} (t0 : my_is 10 x0) (k0 : ∀ (h' : my_H), my_fr [(10, 0)] h h' → h' x0 ((0 : Nat) : Int) = 1 → Q h' (0, 0)) (k1 : ∀ (h' : my_H) (y : Int), my_fr [(10, 0)] h h' → 0 ≤ y → y ≤ 19 → 0 ≤ x1 → x1 ≤ 2 → 0 ≤ x2 → x2 ≤ 19 → 0 ≤ x3 → x3 ≤ 3 → h' x0 ((0 : Nat) : Int) = 0 → Q h' (0, y)) : wp l rho (d + 2) 167 0 [(2, x0), (0, x1), (0, x2), (0, x3)] [] h Q := by
  have J23_0 : ∀ (h23_0 : my_H), my_fr [(10, 0)] h h23_0 → wp l rho (d + 2) 167 23 [(2, x0), (0, x1), (0, x2), (0, x3)] [(2, x0)] h23_0 Q := by
    intro h23_0 gh_23_0
    refine w_iconst gz_167_23 (by decide) ?_
    refine w_putI gz_167_24 t0 rd_10 rfl (by omega) (by omega) rfl (fun h1 fh1 => ?_)
    have gh1 : my_fr [(10, 0)] h h1 := my_fr.up gh_23_0 t0 fh1 rfl
    refine w_aload_n gz_167_27 rfl ?_
    refine w_getI gz_167_28 t0 rd_10 rfl (fun v2 ev2 pv2 qv2 => ?_)
    have zv2 := ev2.trans (my_up_self fh1)
    refine w_ifle (t := 38) gz_167_31 rfl (fun u3 => by exfalso; omega) (fun u3 => ?_)
    refine w_iconst gz_167_34 (by decide) ?_
    refine w_goto (t := 46) gz_167_35 rfl ?_
    have c4 := ev2.symm
    exact w_iret gz_167_46 gm_167 (k0 h1 (gh1) (by omega))
  refine w_aload_n gz_167_0 rfl ?_
  refine w_aload_n gz_167_1 rfl ?_
  refine w_iload_n gz_167_2 rfl ?_
  refine w_iload_n gz_167_3 rfl ?_
  refine w_inv (k := 0) (as := [(0, x3), (0, x1)]) (r := [(2, x0)]) (x := x0) (ls0 := [(2, x0), (0, x1), (0, x3)]) gz_167_4 gm_162 rfl t0 rd_10 rfl rfl rfl rfl rfl ?_
  refine w_aload_n gz_162_0 rfl ?_
  refine w_iload_n gz_162_1 rfl ?_
  refine w_inv (k := 0) (as := [(0, x1)]) (r := []) (x := x0) (ls0 := [(2, x0), (0, x1)]) gz_162_2 gm_149 rfl t0 rd_10 rfl rfl rfl rfl rfl ?_
  refine w_iload_n gz_149_0 rfl ?_
  refine w_iflt (t := 22) gz_149_1 rfl (fun u5 => ?_) (fun u5 => ?_)
  ·
    refine w_iconst gz_149_22 (by decide) ?_
    refine w_bret gz_149_23 gm_149 (by omega) (by omega) ?_
    show wp l rho (d + 1) 162 5 [(2, x0), (0, x1), (0, x3)] [(0, 0)] h _
    refine w_ifeq (t := 26) gz_162_5 rfl (fun u6 => ?_) (fun u6 => by exfalso; omega)
    refine w_iconst gz_162_26 (by decide) ?_
    refine w_bret gz_162_27 gm_162 (by omega) (by omega) ?_
    show wp l rho (d + 2) 167 7 [(2, x0), (0, x1), (0, x2), (0, x3)] [(0, 0), (2, x0)] h Q
    refine w_ifeq (t := 23) gz_167_7 rfl (fun u7 => ?_) (fun u7 => by exfalso; omega)
    exact J23_0 h (my_fr.rf)
  ·
    refine w_iload_n gz_149_4 rfl ?_
    refine w_iconst gz_149_5 (by decide) ?_
    refine w_icge (t := 22) gz_149_6 rfl (fun u8 => ?_) (fun u8 => ?_)
    ·
      refine w_iconst gz_149_22 (by decide) ?_
      refine w_bret gz_149_23 gm_149 (by omega) (by omega) ?_
      show wp l rho (d + 1) 162 5 [(2, x0), (0, x1), (0, x3)] [(0, 0)] h _
      refine w_ifeq (t := 26) gz_162_5 rfl (fun u9 => ?_) (fun u9 => by exfalso; omega)
      refine w_iconst gz_162_26 (by decide) ?_
      refine w_bret gz_162_27 gm_162 (by omega) (by omega) ?_
      show wp l rho (d + 2) 167 7 [(2, x0), (0, x1), (0, x2), (0, x3)] [(0, 0), (2, x0)] h Q
      refine w_ifeq (t := 23) gz_167_7 rfl (fun u10 => ?_) (fun u10 => by exfalso; omega)
      exact J23_0 h (my_fr.rf)
    ·
      refine w_aload_n gz_149_9 rfl ?_
      refine w_getR gz_149_10 t0 rd_10 rfl (fun v11 ev11 tv11 => ?_)
      refine w_iload_n gz_149_13 rfl ?_
      refine w_iald gz_149_14 tv11 rd_56 (by omega) (by omega) (fun v12 ev12 pv12 qv12 => ?_)
      refine w_ifle (t := 22) gz_149_15 rfl (fun u13 => ?_) (fun u13 => ?_)
      ·
        refine w_iconst gz_149_22 (by decide) ?_
        refine w_bret gz_149_23 gm_149 (by omega) (by omega) ?_
        show wp l rho (d + 1) 162 5 [(2, x0), (0, x1), (0, x3)] [(0, 0)] h _
        refine w_ifeq (t := 26) gz_162_5 rfl (fun u14 => ?_) (fun u14 => by exfalso; omega)
        refine w_iconst gz_162_26 (by decide) ?_
        refine w_bret gz_162_27 gm_162 (by omega) (by omega) ?_
        show wp l rho (d + 2) 167 7 [(2, x0), (0, x1), (0, x2), (0, x3)] [(0, 0), (2, x0)] h Q
        refine w_ifeq (t := 23) gz_167_7 rfl (fun u15 => ?_) (fun u15 => by exfalso; omega)
        exact J23_0 h (my_fr.rf)
      ·
        refine w_iconst gz_149_18 (by decide) ?_
        refine w_goto (t := 23) gz_149_19 rfl ?_
        refine w_bret gz_149_23 gm_149 (by omega) (by omega) ?_
        show wp l rho (d + 1) 162 5 [(2, x0), (0, x1), (0, x3)] [(0, 1)] h _
        refine w_ifeq (t := 26) gz_162_5 rfl (fun u16 => by exfalso; omega) (fun u16 => ?_)
        refine w_iload_n gz_162_8 rfl ?_
        refine w_iflt (t := 26) gz_162_9 rfl (fun u17 => ?_) (fun u17 => ?_)
        ·
          refine w_iconst gz_162_26 (by decide) ?_
          refine w_bret gz_162_27 gm_162 (by omega) (by omega) ?_
          show wp l rho (d + 2) 167 7 [(2, x0), (0, x1), (0, x2), (0, x3)] [(0, 0), (2, x0)] h Q
          refine w_ifeq (t := 23) gz_167_7 rfl (fun u18 => ?_) (fun u18 => by exfalso; omega)
          exact J23_0 h (my_fr.rf)
        ·
          refine w_iload_n gz_162_12 rfl ?_
          refine w_aload_n gz_162_13 rfl ?_
          refine w_getR gz_162_14 t0 rd_10 rfl (fun v19 ev19 tv19 => ?_)
          have zv19 : v11 = v19 := (ev19.trans ev11.symm).symm
          subst zv19
          refine w_iload_n gz_162_17 rfl ?_
          refine w_iald gz_162_18 tv11 rd_56 (by omega) (by omega) (fun v20 ev20 pv20 qv20 => ?_)
          have zv20 := ev20.trans ev12.symm
          refine w_icge (t := 26) gz_162_19 rfl (fun u21 => ?_) (fun u21 => ?_)
          ·
            refine w_iconst gz_162_26 (by decide) ?_
            refine w_bret gz_162_27 gm_162 (by omega) (by omega) ?_
            show wp l rho (d + 2) 167 7 [(2, x0), (0, x1), (0, x2), (0, x3)] [(0, 0), (2, x0)] h Q
            refine w_ifeq (t := 23) gz_167_7 rfl (fun u22 => ?_) (fun u22 => by exfalso; omega)
            exact J23_0 h (my_fr.rf)
          ·
            refine w_iconst gz_162_22 (by decide) ?_
            refine w_goto (t := 27) gz_162_23 rfl ?_
            refine w_bret gz_162_27 gm_162 (by omega) (by omega) ?_
            show wp l rho (d + 2) 167 7 [(2, x0), (0, x1), (0, x2), (0, x3)] [(0, 1), (2, x0)] h Q
            refine w_ifeq (t := 23) gz_167_7 rfl (fun u23 => by exfalso; omega) (fun u23 => ?_)
            refine w_aload_n gz_167_10 rfl ?_
            refine w_iload_n gz_167_11 rfl ?_
            refine w_iload_n gz_167_12 rfl ?_
            refine w_inv (k := 0) (as := [(0, x2), (0, x1)]) (r := [(2, x0)]) (x := x0) (ls0 := [(2, x0), (0, x1), (0, x2)]) gz_167_13 gm_159 rfl t0 rd_10 rfl rfl rfl rfl rfl (c14_Model_isRow (d := d) (x0 := x0) (x1 := x1) (x2 := x2) t0 ?_ (fun w24 w25 w26 w27 => ?_))
            ·
              show wp l rho (d + 2) 167 16 [(2, x0), (0, x1), (0, x2), (0, x3)] [(0, 0), (2, x0)] h Q
              refine w_ifeq (t := 23) gz_167_16 rfl (fun u28 => ?_) (fun u28 => by exfalso; omega)
              exact J23_0 h (my_fr.rf)
            ·
              show wp l rho (d + 2) 167 16 [(2, x0), (0, x1), (0, x2), (0, x3)] [(0, 1), (2, x0)] h Q
              refine w_ifeq (t := 23) gz_167_16 rfl (fun u29 => by exfalso; omega) (fun u29 => ?_)
              refine w_iconst gz_167_19 (by decide) ?_
              refine w_goto (t := 24) gz_167_20 rfl ?_
              refine w_putI gz_167_24 t0 rd_10 rfl (by omega) (by omega) rfl (fun h30 fh30 => ?_)
              have gh30 : my_fr [(10, 0)] h h30 := my_fr.up my_fr.rf t0 fh30 rfl
              refine w_aload_n gz_167_27 rfl ?_
              refine w_getI gz_167_28 t0 rd_10 rfl (fun v31 ev31 pv31 qv31 => ?_)
              have zv31 := ev31.trans (my_up_self fh30)
              refine w_ifle (t := 38) gz_167_31 rfl (fun u32 => ?_) (fun u32 => by exfalso; omega)
              refine w_aload_n gz_167_38 rfl ?_
              refine w_iconst gz_167_39 (by decide) ?_
              refine w_iload_n gz_167_40 rfl ?_
              refine w_iload_n gz_167_41 rfl ?_
              refine w_iload_n gz_167_42 rfl ?_
              refine w_inv (k := 0) (as := [(0, x3), (0, x2), (0, x1), (0, 0)]) (r := []) (x := x0) (ls0 := [(2, x0), (0, 0), (0, x1), (0, x2), (0, x3)]) gz_167_43 gm_157 rfl t0 rd_10 rfl rfl rfl rfl rfl ?_
              refine w_aload_n gz_157_0 rfl ?_
              refine w_getR gz_157_1 t0 rd_10 rfl (fun v33 ev33 tv33 => ?_)
              refine w_iconst gz_157_4 (by decide) ?_
              refine w_iload_n gz_157_5 rfl ?_
              refine w_iload_n gz_157_6 rfl ?_
              refine w_iload_n gz_157_7 rfl ?_
              refine w_inS (k := 0) (as := [(0, x2), (0, x1), (0, 0)]) (r := [(0, 4), (2, v33)]) (ls0 := [(0, 0), (0, x1), (0, x2)]) gz_157_8 gm_150 rfl rfl rfl rfl rfl rfl ?_
              refine w_bipush gz_150_0 (by decide) ?_
              refine w_iload_n gz_150_2 rfl ?_
              refine w_imul gz_150_3 ⟨by omega, by omega⟩ ?_
              refine w_bipush gz_150_4 (by decide) ?_
              refine w_iload_n gz_150_6 rfl ?_
              refine w_imul gz_150_7 ⟨by omega, by omega⟩ ?_
              refine w_iadd gz_150_8 ⟨by omega, by omega⟩ ?_
              refine w_iload_n gz_150_9 rfl ?_
              refine w_iadd gz_150_10 ⟨by omega, by omega⟩ ?_
              refine w_iret gz_150_11 gm_150 ?_
              show wp l rho (d + 1) 157 11 [(2, x0), (0, 0), (0, x1), (0, x2), (0, x3)] [(0, (((60 * 0) + (20 * x1)) + x2)), (0, 4), (2, v33)] h30 _
              refine w_imul gz_157_11 ⟨by omega, by omega⟩ ?_
              refine w_iload gz_157_12 rfl ?_
              refine w_iadd gz_157_14 ⟨by omega, by omega⟩ ?_
              refine w_iald gz_157_15 tv33 rd_62 (by omega) (by omega) (fun v34 ev34 pv34 qv34 => ?_)
              refine w_iret gz_157_16 gm_157 ?_
              show wp l rho (d + 2) 167 46 [(2, x0), (0, x1), (0, x2), (0, x3)] [(0, v34)] h30 Q
              have c35 := ev31.symm
              exact w_iret gz_167_46 gm_167 (k1 h30 (v34) (gh30) (by omega) (by omega) (by omega) (by omega) (by omega) (by omega) (by omega) (by omega) (by omega))
theorem gz_175_0 : mz_pg 175 0 = some (.aload_n 0, 0, 0, 0) := by decide +kernel
theorem gz_175_1 : mz_pg 175 1 = some (.iload_n 1, 0, 0, 0) := by decide +kernel
theorem gz_175_2 : mz_pg 175 2 = some (.invokevirtual 239, 1, 176, 1517) := by decide +kernel
theorem gz_175_5 : mz_pg 175 5 = some (.ifCond .ne 8, 0, 0, 0) := by decide +kernel
theorem gz_175_8 : mz_pg 175 8 = some (.aload_n 0, 0, 0, 0) := by decide +kernel
theorem gz_175_9 : mz_pg 175 9 = some (.iconst 1, 0, 0, 0) := by decide +kernel
theorem gz_175_10 : mz_pg 175 10 = some (.invokevirtual 232, 1, 178, 1523) := by decide +kernel
theorem gz_175_13 : mz_pg 175 13 = some (.return_, 0, 0, 0) := by decide +kernel
theorem gz_176_0 : mz_pg 176 0 = some (.aload_n 0, 0, 0, 0) := by decide +kernel
theorem gz_176_1 : mz_pg 176 1 = some (.iload_n 1, 0, 0, 0) := by decide +kernel
theorem gz_176_2 : mz_pg 176 2 = some (.invokevirtual 236, 1, 177, 1520) := by decide +kernel
theorem gz_176_5 : mz_pg 176 5 = some (.istore_n 2, 0, 0, 0) := by decide +kernel
theorem gz_176_6 : mz_pg 176 6 = some (.aload_n 0, 0, 0, 0) := by decide +kernel
theorem gz_176_7 : mz_pg 176 7 = some (.dup, 0, 0, 0) := by decide +kernel
theorem gz_176_8 : mz_pg 176 8 = some (.getfield 223, 10, 7, 1220) := by decide +kernel
theorem gz_176_11 : mz_pg 176 11 = some (.iload_n 2, 0, 0, 0) := by decide +kernel
theorem gz_176_12 : mz_pg 176 12 = some (.ifCond .eq 7, 0, 0, 0) := by decide +kernel
theorem gz_176_19 : mz_pg 176 19 = some (.iconst 0, 0, 0, 0) := by decide +kernel
theorem gz_176_20 : mz_pg 176 20 = some (.iadd, 0, 0, 0) := by decide +kernel
theorem gz_176_21 : mz_pg 176 21 = some (.putfield 223, 10, 7, 1220) := by decide +kernel
theorem gz_176_24 : mz_pg 176 24 = some (.iload_n 2, 0, 0, 0) := by decide +kernel
theorem gz_176_25 : mz_pg 176 25 = some (.ireturn, 0, 0, 0) := by decide +kernel
theorem gz_177_0 : mz_pg 177 0 = some (.aload_n 0, 0, 0, 0) := by decide +kernel
theorem gz_177_1 : mz_pg 177 1 = some (.getfield 226, 10, 8, 1221) := by decide +kernel
theorem gz_177_4 : mz_pg 177 4 = some (.ifCond .ne 39, 0, 0, 0) := by decide +kernel
theorem gz_177_43 : mz_pg 177 43 = some (.iconst 0, 0, 0, 0) := by decide +kernel
theorem gz_177_44 : mz_pg 177 44 = some (.ireturn, 0, 0, 0) := by decide +kernel
theorem gz_178_0 : mz_pg 178 0 = some (.aload_n 0, 0, 0, 0) := by decide +kernel
theorem gz_178_1 : mz_pg 178 1 = some (.getfield 226, 10, 8, 1221) := by decide +kernel
theorem gz_178_4 : mz_pg 178 4 = some (.ifCond .ne 21, 0, 0, 0) := by decide +kernel
theorem gz_178_25 : mz_pg 178 25 = some (.return_, 0, 0, 0) := by decide +kernel
theorem gm_175 : my_mm 175 2 none 1 10 := by unfold my_mm; decide +kernel
theorem gm_176 : my_mm 176 3 (some .boolean) 1 10 := by unfold my_mm; decide +kernel
theorem gm_177 : my_mm 177 2 (some .boolean) 1 10 := by unfold my_mm; decide +kernel
theorem gm_178 : my_mm 178 2 none 1 10 := by unfold my_mm; decide +kernel
theorem c19_Model_takeWord {l : Launch} {rho : Nat → Int32} {d : Nat} {h : my_H} {Q : my_H → my_V → Prop} {x0 : Int} (t0 : my_is 10 x0) (xf : Int) (cf : h x0 ((8 : Nat) : Int) = xf) (cf1 : 1 ≤ xf) (cf2 : xf ≤ 16005) (k0 : ∀ (h' : my_H), my_fr [(10, 7)] h h' → 1 ≤ h' x0 ((8 : Nat) : Int) → h' x0 ((8 : Nat) : Int) ≤ 16005 → Q h' (9, 0)) : wp l rho (d + 2) 175 0 [(2, x0), (0, 9)] [] h Q := by
  refine w_aload_n gz_175_0 rfl ?_
  refine w_iload_n gz_175_1 rfl ?_
  refine w_inv (k := 1) (as := [(0, 9)]) (r := []) (x := x0) (ls0 := [(2, x0), (0, 9), (9, 0)]) gz_175_2 gm_176 rfl t0 rd_10 rfl rfl rfl rfl rfl ?_
  refine w_aload_n gz_176_0 rfl ?_
  refine w_iload_n gz_176_1 rfl ?_
  refine w_inv (k := 0) (as := [(0, 9)]) (r := []) (x := x0) (ls0 := [(2, x0), (0, 9)]) gz_176_2 gm_177 rfl t0 rd_10 rfl rfl rfl rfl rfl ?_
  refine w_aload_n gz_177_0 rfl ?_
  refine w_getI gz_177_1 t0 rd_10 rfl (fun v1 ev1 pv1 qv1 => ?_)
  have zv1 := ev1.trans cf
  refine w_ifne (t := 43) gz_177_4 rfl (fun u2 => ?_) (fun u2 => by exfalso; omega)
  refine w_iconst gz_177_43 (by decide) ?_
  refine w_bret gz_177_44 gm_177 (by omega) (by omega) ?_
  show wp l rho (d + 1) 176 5 [(2, x0), (0, 9), (9, 0)] [(0, 0)] h _
  refine w_istore_n (ls' := [(2, x0), (0, 9), (0, 0)]) gz_176_5 gm_176 rfl rfl rfl ?_
  refine w_aload_n gz_176_6 rfl ?_
  refine w_dup gz_176_7 rfl ?_
  refine w_getI gz_176_8 t0 rd_10 rfl (fun v3 ev3 pv3 qv3 => ?_)
  refine w_iload_n gz_176_11 rfl ?_
  refine w_ifeq (t := 19) gz_176_12 rfl (fun u4 => ?_) (fun u4 => by exfalso; omega)
  refine w_iconst gz_176_19 (by decide) ?_
  refine w_iadd gz_176_20 ⟨by omega, by omega⟩ ?_
  refine w_putI gz_176_21 t0 rd_10 rfl (by omega) (by omega) rfl (fun h5 fh5 => ?_)
  have gh5 : my_fr [(10, 7)] h h5 := my_fr.up my_fr.rf t0 fh5 rfl
  refine w_iload_n gz_176_24 rfl ?_
  refine w_bret gz_176_25 gm_176 (by omega) (by omega) ?_
  show wp l rho (d + 2) 175 5 [(2, x0), (0, 9)] [(0, 0)] h5 Q
  refine w_ifne (t := 13) gz_175_5 rfl (fun u6 => by exfalso; omega) (fun u6 => ?_)
  refine w_aload_n gz_175_8 rfl ?_
  refine w_iconst gz_175_9 (by decide) ?_
  refine w_inv (k := 0) (as := [(0, 1)]) (r := []) (x := x0) (ls0 := [(2, x0), (0, 1)]) gz_175_10 gm_178 rfl t0 rd_10 rfl rfl rfl rfl rfl ?_
  refine w_aload_n gz_178_0 rfl ?_
  refine w_getI gz_178_1 t0 rd_10 rfl (fun v7 ev7 pv7 qv7 => ?_)
  have zv7 := ev7.trans ((my_up_fld fh5 (by decide)).trans ev1.symm)
  refine w_ifne (t := 25) gz_178_4 rfl (fun u8 => ?_) (fun u8 => by exfalso; omega)
  refine w_vret gz_178_25 gm_178 ?_
  show wp l rho (d + 2) 175 13 [(2, x0), (0, 9)] [] h5 Q
  have c9 := ev7.symm
  exact w_vret gz_175_13 gm_175 (k0 h5 (gh5) (by omega) (by omega))
theorem gz_181_0 : mz_pg 181 0 = some (.aload_n 0, 0, 0, 0) := by decide +kernel
theorem gz_181_1 : mz_pg 181 1 = some (.aload_n 0, 0, 0, 0) := by decide +kernel
theorem gz_181_2 : mz_pg 181 2 = some (.getfield 61, 10, 10, 1223) := by decide +kernel
theorem gz_181_5 : mz_pg 181 5 = some (.aload_n 0, 0, 0, 0) := by decide +kernel
theorem gz_181_6 : mz_pg 181 6 = some (.getfield 296, 10, 33, 1246) := by decide +kernel
theorem gz_181_9 : mz_pg 181 9 = some (.iaload, 0, 0, 0) := by decide +kernel
theorem gz_181_10 : mz_pg 181 10 = some (.putfield 299, 10, 27, 1240) := by decide +kernel
theorem gz_181_13 : mz_pg 181 13 = some (.iconst 0, 0, 0, 0) := by decide +kernel
theorem gz_181_14 : mz_pg 181 14 = some (.istore_n 1, 0, 0, 0) := by decide +kernel
theorem gz_181_15 : mz_pg 181 15 = some (.iload_n 1, 0, 0, 0) := by decide +kernel
theorem gz_181_16 : mz_pg 181 16 = some (.aload_n 0, 0, 0, 0) := by decide +kernel
theorem gz_181_17 : mz_pg 181 17 = some (.getfield 299, 10, 27, 1240) := by decide +kernel
theorem gz_181_20 : mz_pg 181 20 = some (.if_icmp .ge 33, 0, 0, 0) := by decide +kernel
theorem gz_181_23 : mz_pg 181 23 = some (.aload_n 0, 0, 0, 0) := by decide +kernel
theorem gz_181_24 : mz_pg 181 24 = some (.getfield 113, 10, 28, 1241) := by decide +kernel
theorem gz_181_27 : mz_pg 181 27 = some (.iload_n 1, 0, 0, 0) := by decide +kernel
theorem gz_181_28 : mz_pg 181 28 = some (.aload_n 0, 0, 0, 0) := by decide +kernel
theorem gz_181_29 : mz_pg 181 29 = some (.getfield 296, 10, 33, 1246) := by decide +kernel
theorem gz_181_32 : mz_pg 181 32 = some (.iastore, 0, 0, 0) := by decide +kernel
theorem gz_181_33 : mz_pg 181 33 = some (.aload_n 0, 0, 0, 0) := by decide +kernel
theorem gz_181_34 : mz_pg 181 34 = some (.getfield 116, 10, 29, 1242) := by decide +kernel
theorem gz_181_37 : mz_pg 181 37 = some (.iload_n 1, 0, 0, 0) := by decide +kernel
theorem gz_181_38 : mz_pg 181 38 = some (.iload_n 1, 0, 0, 0) := by decide +kernel
theorem gz_181_39 : mz_pg 181 39 = some (.iastore, 0, 0, 0) := by decide +kernel
theorem gz_181_40 : mz_pg 181 40 = some (.aload_n 0, 0, 0, 0) := by decide +kernel
theorem gz_181_41 : mz_pg 181 41 = some (.getfield 119, 10, 30, 1243) := by decide +kernel
theorem gz_181_44 : mz_pg 181 44 = some (.iload_n 1, 0, 0, 0) := by decide +kernel
theorem gz_181_45 : mz_pg 181 45 = some (.iconst 1, 0, 0, 0) := by decide +kernel
theorem gz_181_46 : mz_pg 181 46 = some (.bastore, 0, 0, 0) := by decide +kernel
theorem gz_181_47 : mz_pg 181 47 = some (.iinc 1 1, 0, 0, 0) := by decide +kernel
theorem gz_181_50 : mz_pg 181 50 = some (.goto (-35), 0, 0, 0) := by decide +kernel
theorem gz_181_53 : mz_pg 181 53 = some (.return_, 0, 0, 0) := by decide +kernel
theorem gm_181 : my_mm 181 2 none 0 10 := by unfold my_mm; decide +kernel
theorem rd_73 : my_rd 73 = .inl (0, 8, [(0, -1, 2)]) := rfl
theorem rd_74 : my_rd 74 = .inl (0, 8, [(0, -1, 3)]) := rfl
theorem rd_75 : my_rd 75 = .inl (1, 8, [(0, 0, 1)]) := rfl
theorem c20_Model_beginsColumns {l : Launch} {rho : Nat → Int32} {d : Nat} {h : my_H} {Q : my_H → my_V → Prop} {x0 : Int} (t0 : my_is 10 x0) (cf : h x0 ((8 : Nat) : Int) = 0) (k0 : ∀ (h' : my_H), my_fr [(10, 27), (73, -1), (74, -1), (75, -1)] h h' → h' x0 ((8 : Nat) : Int) = 0 → 0 ≤ h' x0 ((27 : Nat) : Int) → h' x0 ((27 : Nat) : Int) ≤ 4 → Q h' (9, 0)) : wp l rho d 181 0 [(2, x0), (9, 0)] [] h Q := by
  have J15_0 : ∀ (n : Nat) (p15_0 p15_1 p15_2 : Int) (h15_0 : my_H), my_fr [(10, 27), (73, -1), (74, -1), (75, -1)] h h15_0 → 0 ≤ p15_0 → p15_0 ≤ 4 → 0 ≤ p15_2 → p15_2 ≤ 2 → 0 ≤ p15_1 → p15_1 ≤ 4 → p15_0 ≤ p15_1 → h15_0 x0 ((27 : Nat) : Int) = p15_1 → h15_0 x0 ((33 : Nat) : Int) = p15_2 → h15_0 x0 ((8 : Nat) : Int) = 0 → 5 - p15_0 ≤ (n : Int) → wp l rho d 181 15 [(2, x0), (0, p15_0)] [] h15_0 Q := by
    intro n
    induction n with
    | zero => intro p15_0 p15_1 p15_2 h15_0 gh_15_0 q0_15_0 q1_15_0 q2_15_0 q3_15_0 q4_15_0 q5_15_0 q6_15_0 c27_15_0 c33_15_0 c8_15_0 hm_15_0; exfalso; omega
    | succ n ih_15_0 =>
      intro p15_0 p15_1 p15_2 h15_0 gh_15_0 q0_15_0 q1_15_0 q2_15_0 q3_15_0 q4_15_0 q5_15_0 q6_15_0 c27_15_0 c33_15_0 c8_15_0 hm_15_0
      refine w_iload_n gz_181_15 rfl ?_
      refine w_aload_n gz_181_16 rfl ?_
      refine w_getI gz_181_17 t0 rd_10 rfl (fun v1 ev1 pv1 qv1 => ?_)
      have zv1 := ev1.trans c27_15_0
      refine w_icge (t := 53) gz_181_20 rfl (fun u2 => ?_) (fun u2 => ?_)
      ·
        have c3 := c8_15_0
        have c4 := ev1.symm
        exact w_vret gz_181_53 gm_181 (k0 h15_0 (gh_15_0) (by omega) (by omega) (by omega))
      ·
        refine w_aload_n gz_181_23 rfl ?_
        refine w_getR gz_181_24 t0 rd_10 rfl (fun v5 ev5 tv5 => ?_)
        refine w_iload_n gz_181_27 rfl ?_
        refine w_aload_n gz_181_28 rfl ?_
        refine w_getI gz_181_29 t0 rd_10 rfl (fun v6 ev6 pv6 qv6 => ?_)
        have zv6 := ev6.trans c33_15_0
        refine w_iast gz_181_32 tv5 rd_73 (by omega) (by omega) (by omega) (by omega) (fun h7 fh7 => ?_)
        have gh7 : my_fr [(10, 27), (73, -1), (74, -1), (75, -1)] h h7 := my_fr.up gh_15_0 tv5 fh7 rfl
        refine w_aload_n gz_181_33 rfl ?_
        refine w_getR gz_181_34 t0 rd_10 rfl (fun v8 ev8 tv8 => ?_)
        refine w_iload_n gz_181_37 rfl ?_
        refine w_iload_n gz_181_38 rfl ?_
        refine w_iast gz_181_39 tv8 rd_74 (by omega) (by omega) (by omega) (by omega) (fun h9 fh9 => ?_)
        have gh9 : my_fr [(10, 27), (73, -1), (74, -1), (75, -1)] h h9 := my_fr.up gh7 tv8 fh9 rfl
        refine w_aload_n gz_181_40 rfl ?_
        refine w_getR gz_181_41 t0 rd_10 rfl (fun v10 ev10 tv10 => ?_)
        refine w_iload_n gz_181_44 rfl ?_
        refine w_iconst gz_181_45 (by decide) ?_
        refine w_bast gz_181_46 tv10 rd_75 (by omega) (by omega) (by omega) (by omega) (fun h11 fh11 => ?_)
        have gh11 : my_fr [(10, 27), (73, -1), (74, -1), (75, -1)] h h11 := my_fr.up gh9 tv10 fh11 rfl
        refine w_iinc (ls' := [(2, x0), (0, (p15_0 + 1))]) gz_181_47 rfl gm_181 rfl rfl rfl ⟨by omega, by omega⟩ ?_
        refine w_goto (t := 15) gz_181_50 rfl ?_
        exact ih_15_0 ((p15_0 + 1)) (v1) (v6) h11 (gh11) (by omega) (by omega) (by omega) (by omega) (by omega) (by omega) (by omega) (((my_up_role fh11 t0 tv10 rfl).trans ((my_up_role fh9 t0 tv8 rfl).trans ((my_up_role fh7 t0 tv5 rfl).trans ev1.symm))).trans (by omega)) (((my_up_role fh11 t0 tv10 rfl).trans ((my_up_role fh9 t0 tv8 rfl).trans ((my_up_role fh7 t0 tv5 rfl).trans ev6.symm))).trans (by omega)) (((my_up_role fh11 t0 tv10 rfl).trans ((my_up_role fh9 t0 tv8 rfl).trans ((my_up_role fh7 t0 tv5 rfl).trans c8_15_0))).trans (by omega)) (by omega)
  refine w_aload_n gz_181_0 rfl ?_
  refine w_aload_n gz_181_1 rfl ?_
  refine w_getR gz_181_2 t0 rd_10 rfl (fun v12 ev12 tv12 => ?_)
  refine w_aload_n gz_181_5 rfl ?_
  refine w_getI gz_181_6 t0 rd_10 rfl (fun v13 ev13 pv13 qv13 => ?_)
  refine w_iald gz_181_9 tv12 rd_56 (by omega) (by omega) (fun v14 ev14 pv14 qv14 => ?_)
  refine w_putI gz_181_10 t0 rd_10 rfl (by omega) (by omega) rfl (fun h15 fh15 => ?_)
  have gh15 : my_fr [(10, 27), (73, -1), (74, -1), (75, -1)] h h15 := my_fr.up my_fr.rf t0 fh15 rfl
  refine w_iconst gz_181_13 (by decide) ?_
  refine w_istore_n (ls' := [(2, x0), (0, 0)]) gz_181_14 gm_181 rfl rfl rfl ?_
  exact J15_0 5 (0) (v14) (v13) h15 (gh15) (by omega) (by omega) (by omega) (by omega) (by omega) (by omega) (by omega) ((my_up_self fh15).trans (by omega)) (((my_up_fld fh15 (by decide)).trans ev13.symm).trans (by omega)) (((my_up_fld fh15 (by decide)).trans cf).trans (by omega)) (by omega)
theorem c21_Model_beginsColumns {l : Launch} {rho : Nat → Int32} {d : Nat} {h : my_H} {Q : my_H → my_V → Prop} {x0 : Int} (t0 : my_is 10 x0) (k0 : ∀ (h' : my_H), my_fr [(10, 27), (73, -1), (74, -1), (75, -1)] h h' → 0 ≤ h' x0 ((27 : Nat) : Int) → h' x0 ((27 : Nat) : Int) ≤ 4 → Q h' (9, 0)) : wp l rho d 181 0 [(2, x0), (9, 0)] [] h Q := by
  have J15_0 : ∀ (n : Nat) (p15_0 p15_1 p15_2 : Int) (h15_0 : my_H), my_fr [(10, 27), (73, -1), (74, -1), (75, -1)] h h15_0 → 0 ≤ p15_0 → p15_0 ≤ 4 → 0 ≤ p15_2 → p15_2 ≤ 2 → 0 ≤ p15_1 → p15_1 ≤ 4 → p15_0 ≤ p15_1 → h15_0 x0 ((27 : Nat) : Int) = p15_1 → h15_0 x0 ((33 : Nat) : Int) = p15_2 → 5 - p15_0 ≤ (n : Int) → wp l rho d 181 15 [(2, x0), (0, p15_0)] [] h15_0 Q := by
    intro n
    induction n with
    | zero => intro p15_0 p15_1 p15_2 h15_0 gh_15_0 q0_15_0 q1_15_0 q2_15_0 q3_15_0 q4_15_0 q5_15_0 q6_15_0 c27_15_0 c33_15_0 hm_15_0; exfalso; omega
    | succ n ih_15_0 =>
      intro p15_0 p15_1 p15_2 h15_0 gh_15_0 q0_15_0 q1_15_0 q2_15_0 q3_15_0 q4_15_0 q5_15_0 q6_15_0 c27_15_0 c33_15_0 hm_15_0
      refine w_iload_n gz_181_15 rfl ?_
      refine w_aload_n gz_181_16 rfl ?_
      refine w_getI gz_181_17 t0 rd_10 rfl (fun v1 ev1 pv1 qv1 => ?_)
      have zv1 := ev1.trans c27_15_0
      refine w_icge (t := 53) gz_181_20 rfl (fun u2 => ?_) (fun u2 => ?_)
      ·
        have c3 := ev1.symm
        exact w_vret gz_181_53 gm_181 (k0 h15_0 (gh_15_0) (by omega) (by omega))
      ·
        refine w_aload_n gz_181_23 rfl ?_
        refine w_getR gz_181_24 t0 rd_10 rfl (fun v4 ev4 tv4 => ?_)
        refine w_iload_n gz_181_27 rfl ?_
        refine w_aload_n gz_181_28 rfl ?_
        refine w_getI gz_181_29 t0 rd_10 rfl (fun v5 ev5 pv5 qv5 => ?_)
        have zv5 := ev5.trans c33_15_0
        refine w_iast gz_181_32 tv4 rd_73 (by omega) (by omega) (by omega) (by omega) (fun h6 fh6 => ?_)
        have gh6 : my_fr [(10, 27), (73, -1), (74, -1), (75, -1)] h h6 := my_fr.up gh_15_0 tv4 fh6 rfl
        refine w_aload_n gz_181_33 rfl ?_
        refine w_getR gz_181_34 t0 rd_10 rfl (fun v7 ev7 tv7 => ?_)
        refine w_iload_n gz_181_37 rfl ?_
        refine w_iload_n gz_181_38 rfl ?_
        refine w_iast gz_181_39 tv7 rd_74 (by omega) (by omega) (by omega) (by omega) (fun h8 fh8 => ?_)
        have gh8 : my_fr [(10, 27), (73, -1), (74, -1), (75, -1)] h h8 := my_fr.up gh6 tv7 fh8 rfl
        refine w_aload_n gz_181_40 rfl ?_
        refine w_getR gz_181_41 t0 rd_10 rfl (fun v9 ev9 tv9 => ?_)
        refine w_iload_n gz_181_44 rfl ?_
        refine w_iconst gz_181_45 (by decide) ?_
        refine w_bast gz_181_46 tv9 rd_75 (by omega) (by omega) (by omega) (by omega) (fun h10 fh10 => ?_)
        have gh10 : my_fr [(10, 27), (73, -1), (74, -1), (75, -1)] h h10 := my_fr.up gh8 tv9 fh10 rfl
        refine w_iinc (ls' := [(2, x0), (0, (p15_0 + 1))]) gz_181_47 rfl gm_181 rfl rfl rfl ⟨by omega, by omega⟩ ?_
        refine w_goto (t := 15) gz_181_50 rfl ?_
        exact ih_15_0 ((p15_0 + 1)) (v1) (v5) h10 (gh10) (by omega) (by omega) (by omega) (by omega) (by omega) (by omega) (by omega) (((my_up_role fh10 t0 tv9 rfl).trans ((my_up_role fh8 t0 tv7 rfl).trans ((my_up_role fh6 t0 tv4 rfl).trans ev1.symm))).trans (by omega)) (((my_up_role fh10 t0 tv9 rfl).trans ((my_up_role fh8 t0 tv7 rfl).trans ((my_up_role fh6 t0 tv4 rfl).trans ev5.symm))).trans (by omega)) (by omega)
  refine w_aload_n gz_181_0 rfl ?_
  refine w_aload_n gz_181_1 rfl ?_
  refine w_getR gz_181_2 t0 rd_10 rfl (fun v11 ev11 tv11 => ?_)
  refine w_aload_n gz_181_5 rfl ?_
  refine w_getI gz_181_6 t0 rd_10 rfl (fun v12 ev12 pv12 qv12 => ?_)
  refine w_iald gz_181_9 tv11 rd_56 (by omega) (by omega) (fun v13 ev13 pv13 qv13 => ?_)
  refine w_putI gz_181_10 t0 rd_10 rfl (by omega) (by omega) rfl (fun h14 fh14 => ?_)
  have gh14 : my_fr [(10, 27), (73, -1), (74, -1), (75, -1)] h h14 := my_fr.up my_fr.rf t0 fh14 rfl
  refine w_iconst gz_181_13 (by decide) ?_
  refine w_istore_n (ls' := [(2, x0), (0, 0)]) gz_181_14 gm_181 rfl rfl rfl ?_
  exact J15_0 5 (0) (v13) (v12) h14 (gh14) (by omega) (by omega) (by omega) (by omega) (by omega) (by omega) (by omega) ((my_up_self fh14).trans (by omega)) (((my_up_fld fh14 (by decide)).trans ev12.symm).trans (by omega)) (by omega)
theorem gz_183_0 : mz_pg 183 0 = some (.aload_n 0, 0, 0, 0) := by decide +kernel
theorem gz_183_1 : mz_pg 183 1 = some (.iload_n 1, 0, 0, 0) := by decide +kernel
theorem gz_183_2 : mz_pg 183 2 = some (.invokevirtual 229, 1, 184, 1541) := by decide +kernel
theorem gz_183_5 : mz_pg 183 5 = some (.ifCond .eq 16, 0, 0, 0) := by decide +kernel
theorem gz_183_21 : mz_pg 183 21 = some (.aload_n 0, 0, 0, 0) := by decide +kernel
theorem gz_183_22 : mz_pg 183 22 = some (.iconst 1, 0, 0, 0) := by decide +kernel
theorem gz_183_23 : mz_pg 183 23 = some (.invokevirtual 232, 1, 178, 1523) := by decide +kernel
theorem gz_183_26 : mz_pg 183 26 = some (.return_, 0, 0, 0) := by decide +kernel
theorem gz_184_0 : mz_pg 184 0 = some (.aload_n 0, 0, 0, 0) := by decide +kernel
theorem gz_184_1 : mz_pg 184 1 = some (.getfield 226, 10, 8, 1221) := by decide +kernel
theorem gz_184_4 : mz_pg 184 4 = some (.ifCond .ne 35, 0, 0, 0) := by decide +kernel
theorem gz_184_39 : mz_pg 184 39 = some (.iconst 0, 0, 0, 0) := by decide +kernel
theorem gz_184_40 : mz_pg 184 40 = some (.ireturn, 0, 0, 0) := by decide +kernel
theorem gm_183 : my_mm 183 2 none 1 10 := by unfold my_mm; decide +kernel
theorem gm_184 : my_mm 184 2 (some .boolean) 1 10 := by unfold my_mm; decide +kernel
theorem c22_Model_takeSign {l : Launch} {rho : Nat → Int32} {d : Nat} {h : my_H} {Q : my_H → my_V → Prop} {x0 : Int} (t0 : my_is 10 x0) (xf : Int) (cf : h x0 ((8 : Nat) : Int) = xf) (cf1 : 1 ≤ xf) (cf2 : xf ≤ 16005) (k0 : 1 ≤ h x0 ((8 : Nat) : Int) → h x0 ((8 : Nat) : Int) ≤ 16005 → Q h (9, 0)) : wp l rho (d + 1) 183 0 [(2, x0), (0, 59)] [] h Q := by
  refine w_aload_n gz_183_0 rfl ?_
  refine w_iload_n gz_183_1 rfl ?_
  refine w_inv (k := 0) (as := [(0, 59)]) (r := []) (x := x0) (ls0 := [(2, x0), (0, 59)]) gz_183_2 gm_184 rfl t0 rd_10 rfl rfl rfl rfl rfl ?_
  refine w_aload_n gz_184_0 rfl ?_
  refine w_getI gz_184_1 t0 rd_10 rfl (fun v1 ev1 pv1 qv1 => ?_)
  have zv1 := ev1.trans cf
  refine w_ifne (t := 39) gz_184_4 rfl (fun u2 => ?_) (fun u2 => by exfalso; omega)
  refine w_iconst gz_184_39 (by decide) ?_
  refine w_bret gz_184_40 gm_184 (by omega) (by omega) ?_
  show wp l rho (d + 1) 183 5 [(2, x0), (0, 59)] [(0, 0)] h Q
  refine w_ifeq (t := 21) gz_183_5 rfl (fun u3 => ?_) (fun u3 => by exfalso; omega)
  refine w_aload_n gz_183_21 rfl ?_
  refine w_iconst gz_183_22 (by decide) ?_
  refine w_inv (k := 0) (as := [(0, 1)]) (r := []) (x := x0) (ls0 := [(2, x0), (0, 1)]) gz_183_23 gm_178 rfl t0 rd_10 rfl rfl rfl rfl rfl ?_
  refine w_aload_n gz_178_0 rfl ?_
  refine w_getI gz_178_1 t0 rd_10 rfl (fun v4 ev4 pv4 qv4 => ?_)
  have zv4 := ev4.trans ev1.symm
  refine w_ifne (t := 25) gz_178_4 rfl (fun u5 => ?_) (fun u5 => by exfalso; omega)
  refine w_vret gz_178_25 gm_178 ?_
  show wp l rho (d + 1) 183 26 [(2, x0), (0, 59)] [] h Q
  have c6 := ev4.symm
  exact w_vret gz_183_26 gm_183 (k0 (by omega) (by omega))
theorem gz_187_0 : mz_pg 187 0 = some (.aload_n 0, 0, 0, 0) := by decide +kernel
theorem gz_187_1 : mz_pg 187 1 = some (.getfield 226, 10, 8, 1221) := by decide +kernel
theorem gz_187_4 : mz_pg 187 4 = some (.ifCond .ne 24, 0, 0, 0) := by decide +kernel
theorem gz_187_28 : mz_pg 187 28 = some (.aload_n 0, 0, 0, 0) := by decide +kernel
theorem gz_187_29 : mz_pg 187 29 = some (.getfield 226, 10, 8, 1221) := by decide +kernel
theorem gz_187_32 : mz_pg 187 32 = some (.ifCond .ne 23, 0, 0, 0) := by decide +kernel
theorem gz_187_55 : mz_pg 187 55 = some (.aload_n 0, 0, 0, 0) := by decide +kernel
theorem gz_187_56 : mz_pg 187 56 = some (.getfield 226, 10, 8, 1221) := by decide +kernel
theorem gz_187_59 : mz_pg 187 59 = some (.ifCond .le 5, 0, 0, 0) := by decide +kernel
theorem gz_187_62 : mz_pg 187 62 = some (.iconst 0, 0, 0, 0) := by decide +kernel
theorem gz_187_63 : mz_pg 187 63 = some (.ireturn, 0, 0, 0) := by decide +kernel
theorem gm_187 : my_mm 187 2 (some .int) 1 10 := by unfold my_mm; decide +kernel
theorem c23_Model_takeNumber {l : Launch} {rho : Nat → Int32} {d : Nat} {h : my_H} {Q : my_H → my_V → Prop} {x0 x1 : Int} (t0 : my_is 10 x0) (a1 : (-1) ≤ x1) (b1 : x1 ≤ 19) (xf : Int) (cf : h x0 ((8 : Nat) : Int) = xf) (cf1 : 1 ≤ xf) (cf2 : xf ≤ 16005) (k0 : 1 ≤ h x0 ((8 : Nat) : Int) → h x0 ((8 : Nat) : Int) ≤ 16005 → Q h (0, 0)) : wp l rho (d + 1) 187 0 [(2, x0), (0, x1)] [] h Q := by
  refine w_aload_n gz_187_0 rfl ?_
  refine w_getI gz_187_1 t0 rd_10 rfl (fun v1 ev1 pv1 qv1 => ?_)
  have zv1 := ev1.trans cf
  refine w_ifne (t := 28) gz_187_4 rfl (fun u2 => ?_) (fun u2 => by exfalso; omega)
  refine w_aload_n gz_187_28 rfl ?_
  refine w_getI gz_187_29 t0 rd_10 rfl (fun v3 ev3 pv3 qv3 => ?_)
  have zv3 := ev3.trans ev1.symm
  refine w_ifne (t := 55) gz_187_32 rfl (fun u4 => ?_) (fun u4 => by exfalso; omega)
  refine w_aload_n gz_187_55 rfl ?_
  refine w_getI gz_187_56 t0 rd_10 rfl (fun v5 ev5 pv5 qv5 => ?_)
  have zv5 := ev5.trans ev3.symm
  refine w_ifle (t := 64) gz_187_59 rfl (fun u6 => by exfalso; omega) (fun u6 => ?_)
  refine w_iconst gz_187_62 (by decide) ?_
  have c7 := ev5.symm
  exact w_iret gz_187_63 gm_187 (k0 (by omega) (by omega))
theorem gz_191_0 : mz_pg 191 0 = some (.aload_n 0, 0, 0, 0) := by decide +kernel
theorem gz_191_1 : mz_pg 191 1 = some (.getfield 83, 10, 17, 1230) := by decide +kernel
theorem gz_191_4 : mz_pg 191 4 = some (.iload_n 1, 0, 0, 0) := by decide +kernel
theorem gz_191_5 : mz_pg 191 5 = some (.iconst 1, 0, 0, 0) := by decide +kernel
theorem gz_191_6 : mz_pg 191 6 = some (.bastore, 0, 0, 0) := by decide +kernel
theorem gz_191_7 : mz_pg 191 7 = some (.aload_n 0, 0, 0, 0) := by decide +kernel
theorem gz_191_8 : mz_pg 191 8 = some (.getfield 86, 10, 18, 1231) := by decide +kernel
theorem gz_191_11 : mz_pg 191 11 = some (.iload_n 1, 0, 0, 0) := by decide +kernel
theorem gz_191_12 : mz_pg 191 12 = some (.aload_n 0, 0, 0, 0) := by decide +kernel
theorem gz_191_13 : mz_pg 191 13 = some (.getfield 86, 10, 18, 1231) := by decide +kernel
theorem gz_191_16 : mz_pg 191 16 = some (.bipush 6, 0, 0, 0) := by decide +kernel
theorem gz_191_18 : mz_pg 191 18 = some (.baload, 0, 0, 0) := by decide +kernel
theorem gz_191_19 : mz_pg 191 19 = some (.bastore, 0, 0, 0) := by decide +kernel
theorem gz_191_20 : mz_pg 191 20 = some (.aload_n 0, 0, 0, 0) := by decide +kernel
theorem gz_191_21 : mz_pg 191 21 = some (.getfield 89, 10, 19, 1232) := by decide +kernel
theorem gz_191_24 : mz_pg 191 24 = some (.iload_n 1, 0, 0, 0) := by decide +kernel
theorem gz_191_25 : mz_pg 191 25 = some (.aload_n 0, 0, 0, 0) := by decide +kernel
theorem gz_191_26 : mz_pg 191 26 = some (.getfield 89, 10, 19, 1232) := by decide +kernel
theorem gz_191_29 : mz_pg 191 29 = some (.bipush 6, 0, 0, 0) := by decide +kernel
theorem gz_191_31 : mz_pg 191 31 = some (.iaload, 0, 0, 0) := by decide +kernel
theorem gz_191_32 : mz_pg 191 32 = some (.iastore, 0, 0, 0) := by decide +kernel
theorem gz_191_33 : mz_pg 191 33 = some (.aload_n 0, 0, 0, 0) := by decide +kernel
theorem gz_191_34 : mz_pg 191 34 = some (.getfield 92, 10, 20, 1233) := by decide +kernel
theorem gz_191_37 : mz_pg 191 37 = some (.iload_n 1, 0, 0, 0) := by decide +kernel
theorem gz_191_38 : mz_pg 191 38 = some (.aload_n 0, 0, 0, 0) := by decide +kernel
theorem gz_191_39 : mz_pg 191 39 = some (.getfield 92, 10, 20, 1233) := by decide +kernel
theorem gz_191_42 : mz_pg 191 42 = some (.bipush 6, 0, 0, 0) := by decide +kernel
theorem gz_191_44 : mz_pg 191 44 = some (.iaload, 0, 0, 0) := by decide +kernel
theorem gz_191_45 : mz_pg 191 45 = some (.iastore, 0, 0, 0) := by decide +kernel
theorem gz_191_46 : mz_pg 191 46 = some (.iconst 0, 0, 0, 0) := by decide +kernel
theorem gz_191_47 : mz_pg 191 47 = some (.istore_n 2, 0, 0, 0) := by decide +kernel
theorem gz_191_48 : mz_pg 191 48 = some (.iload_n 2, 0, 0, 0) := by decide +kernel
theorem gz_191_49 : mz_pg 191 49 = some (.bipush 6, 0, 0, 0) := by decide +kernel
theorem gz_191_51 : mz_pg 191 51 = some (.if_icmp .ge 115, 0, 0, 0) := by decide +kernel
theorem gz_191_54 : mz_pg 191 54 = some (.bipush 6, 0, 0, 0) := by decide +kernel
theorem gz_191_56 : mz_pg 191 56 = some (.iload_n 1, 0, 0, 0) := by decide +kernel
theorem gz_191_57 : mz_pg 191 57 = some (.imul, 0, 0, 0) := by decide +kernel
theorem gz_191_58 : mz_pg 191 58 = some (.iload_n 2, 0, 0, 0) := by decide +kernel
theorem gz_191_59 : mz_pg 191 59 = some (.iadd, 0, 0, 0) := by decide +kernel
theorem gz_191_60 : mz_pg 191 60 = some (.istore_n 3, 0, 0, 0) := by decide +kernel
theorem gz_191_61 : mz_pg 191 61 = some (.bipush 36, 0, 0, 0) := by decide +kernel
theorem gz_191_63 : mz_pg 191 63 = some (.iload_n 2, 0, 0, 0) := by decide +kernel
theorem gz_191_64 : mz_pg 191 64 = some (.iadd, 0, 0, 0) := by decide +kernel
theorem gz_191_65 : mz_pg 191 65 = some (.istore 4, 0, 0, 0) := by decide +kernel
theorem gz_191_67 : mz_pg 191 67 = some (.aload_n 0, 0, 0, 0) := by decide +kernel
theorem gz_191_68 : mz_pg 191 68 = some (.getfield 95, 10, 21, 1234) := by decide +kernel
theorem gz_191_71 : mz_pg 191 71 = some (.iload_n 3, 0, 0, 0) := by decide +kernel
theorem gz_191_72 : mz_pg 191 72 = some (.aload_n 0, 0, 0, 0) := by decide +kernel
theorem gz_191_73 : mz_pg 191 73 = some (.getfield 95, 10, 21, 1234) := by decide +kernel
theorem gz_191_76 : mz_pg 191 76 = some (.iload 4, 0, 0, 0) := by decide +kernel
theorem gz_191_78 : mz_pg 191 78 = some (.iaload, 0, 0, 0) := by decide +kernel
theorem gz_191_79 : mz_pg 191 79 = some (.iastore, 0, 0, 0) := by decide +kernel
theorem gz_191_80 : mz_pg 191 80 = some (.aload_n 0, 0, 0, 0) := by decide +kernel
theorem gz_191_81 : mz_pg 191 81 = some (.getfield 98, 10, 22, 1235) := by decide +kernel
theorem gz_191_84 : mz_pg 191 84 = some (.iload_n 3, 0, 0, 0) := by decide +kernel
theorem gz_191_85 : mz_pg 191 85 = some (.aload_n 0, 0, 0, 0) := by decide +kernel
theorem gz_191_86 : mz_pg 191 86 = some (.getfield 98, 10, 22, 1235) := by decide +kernel
theorem gz_191_89 : mz_pg 191 89 = some (.iload 4, 0, 0, 0) := by decide +kernel
theorem gz_191_91 : mz_pg 191 91 = some (.iaload, 0, 0, 0) := by decide +kernel
theorem gz_191_92 : mz_pg 191 92 = some (.iastore, 0, 0, 0) := by decide +kernel
theorem gz_191_93 : mz_pg 191 93 = some (.aload_n 0, 0, 0, 0) := by decide +kernel
theorem gz_191_94 : mz_pg 191 94 = some (.getfield 101, 10, 23, 1236) := by decide +kernel
theorem gz_191_97 : mz_pg 191 97 = some (.iload_n 3, 0, 0, 0) := by decide +kernel
theorem gz_191_98 : mz_pg 191 98 = some (.aload_n 0, 0, 0, 0) := by decide +kernel
theorem gz_191_99 : mz_pg 191 99 = some (.getfield 101, 10, 23, 1236) := by decide +kernel
theorem gz_191_102 : mz_pg 191 102 = some (.iload 4, 0, 0, 0) := by decide +kernel
theorem gz_191_104 : mz_pg 191 104 = some (.iaload, 0, 0, 0) := by decide +kernel
theorem gz_191_105 : mz_pg 191 105 = some (.iastore, 0, 0, 0) := by decide +kernel
theorem gz_191_106 : mz_pg 191 106 = some (.aload_n 0, 0, 0, 0) := by decide +kernel
theorem gz_191_107 : mz_pg 191 107 = some (.getfield 104, 10, 24, 1237) := by decide +kernel
theorem gz_191_110 : mz_pg 191 110 = some (.iload_n 3, 0, 0, 0) := by decide +kernel
theorem gz_191_111 : mz_pg 191 111 = some (.aload_n 0, 0, 0, 0) := by decide +kernel
theorem gz_191_112 : mz_pg 191 112 = some (.getfield 104, 10, 24, 1237) := by decide +kernel
theorem gz_191_115 : mz_pg 191 115 = some (.iload 4, 0, 0, 0) := by decide +kernel
theorem gz_191_117 : mz_pg 191 117 = some (.iaload, 0, 0, 0) := by decide +kernel
theorem gz_191_118 : mz_pg 191 118 = some (.iastore, 0, 0, 0) := by decide +kernel
theorem gz_191_119 : mz_pg 191 119 = some (.iconst 0, 0, 0, 0) := by decide +kernel
theorem gz_191_120 : mz_pg 191 120 = some (.istore 5, 0, 0, 0) := by decide +kernel
theorem gz_191_122 : mz_pg 191 122 = some (.iload 5, 0, 0, 0) := by decide +kernel
theorem gz_191_124 : mz_pg 191 124 = some (.bipush 8, 0, 0, 0) := by decide +kernel
theorem gz_191_126 : mz_pg 191 126 = some (.if_icmp .ge 34, 0, 0, 0) := by decide +kernel
theorem gz_191_129 : mz_pg 191 129 = some (.aload_n 0, 0, 0, 0) := by decide +kernel
theorem gz_191_130 : mz_pg 191 130 = some (.getfield 107, 10, 25, 1238) := by decide +kernel
theorem gz_191_133 : mz_pg 191 133 = some (.bipush 8, 0, 0, 0) := by decide +kernel
theorem gz_191_135 : mz_pg 191 135 = some (.iload_n 3, 0, 0, 0) := by decide +kernel
theorem gz_191_136 : mz_pg 191 136 = some (.imul, 0, 0, 0) := by decide +kernel
theorem gz_191_137 : mz_pg 191 137 = some (.iload 5, 0, 0, 0) := by decide +kernel
theorem gz_191_139 : mz_pg 191 139 = some (.iadd, 0, 0, 0) := by decide +kernel
theorem gz_191_140 : mz_pg 191 140 = some (.aload_n 0, 0, 0, 0) := by decide +kernel
theorem gz_191_141 : mz_pg 191 141 = some (.getfield 107, 10, 25, 1238) := by decide +kernel
theorem gz_191_144 : mz_pg 191 144 = some (.bipush 8, 0, 0, 0) := by decide +kernel
theorem gz_191_146 : mz_pg 191 146 = some (.iload 4, 0, 0, 0) := by decide +kernel
theorem gz_191_148 : mz_pg 191 148 = some (.imul, 0, 0, 0) := by decide +kernel
theorem gz_191_149 : mz_pg 191 149 = some (.iload 5, 0, 0, 0) := by decide +kernel
theorem gz_191_151 : mz_pg 191 151 = some (.iadd, 0, 0, 0) := by decide +kernel
theorem gz_191_152 : mz_pg 191 152 = some (.iaload, 0, 0, 0) := by decide +kernel
theorem gz_191_153 : mz_pg 191 153 = some (.iastore, 0, 0, 0) := by decide +kernel
theorem gz_191_154 : mz_pg 191 154 = some (.iinc 5 1, 0, 0, 0) := by decide +kernel
theorem gz_191_157 : mz_pg 191 157 = some (.goto (-35), 0, 0, 0) := by decide +kernel
theorem gz_191_160 : mz_pg 191 160 = some (.iinc 2 1, 0, 0, 0) := by decide +kernel
theorem gz_191_163 : mz_pg 191 163 = some (.goto (-115), 0, 0, 0) := by decide +kernel
theorem gz_191_166 : mz_pg 191 166 = some (.iconst 0, 0, 0, 0) := by decide +kernel
theorem gz_191_167 : mz_pg 191 167 = some (.istore_n 2, 0, 0, 0) := by decide +kernel
theorem gz_191_168 : mz_pg 191 168 = some (.iload_n 2, 0, 0, 0) := by decide +kernel
theorem gz_191_169 : mz_pg 191 169 = some (.iconst 4, 0, 0, 0) := by decide +kernel
theorem gz_191_170 : mz_pg 191 170 = some (.if_icmp .ge 28, 0, 0, 0) := by decide +kernel
theorem gz_191_173 : mz_pg 191 173 = some (.aload_n 0, 0, 0, 0) := by decide +kernel
theorem gz_191_174 : mz_pg 191 174 = some (.getfield 110, 10, 26, 1239) := by decide +kernel
theorem gz_191_177 : mz_pg 191 177 = some (.iconst 4, 0, 0, 0) := by decide +kernel
theorem gz_191_178 : mz_pg 191 178 = some (.iload_n 1, 0, 0, 0) := by decide +kernel
theorem gz_191_179 : mz_pg 191 179 = some (.imul, 0, 0, 0) := by decide +kernel
theorem gz_191_180 : mz_pg 191 180 = some (.iload_n 2, 0, 0, 0) := by decide +kernel
theorem gz_191_181 : mz_pg 191 181 = some (.iadd, 0, 0, 0) := by decide +kernel
theorem gz_191_182 : mz_pg 191 182 = some (.aload_n 0, 0, 0, 0) := by decide +kernel
theorem gz_191_183 : mz_pg 191 183 = some (.getfield 110, 10, 26, 1239) := by decide +kernel
theorem gz_191_186 : mz_pg 191 186 = some (.bipush 24, 0, 0, 0) := by decide +kernel
theorem gz_191_188 : mz_pg 191 188 = some (.iload_n 2, 0, 0, 0) := by decide +kernel
theorem gz_191_189 : mz_pg 191 189 = some (.iadd, 0, 0, 0) := by decide +kernel
theorem gz_191_190 : mz_pg 191 190 = some (.iaload, 0, 0, 0) := by decide +kernel
theorem gz_191_191 : mz_pg 191 191 = some (.iastore, 0, 0, 0) := by decide +kernel
theorem gz_191_192 : mz_pg 191 192 = some (.iinc 2 1, 0, 0, 0) := by decide +kernel
theorem gz_191_195 : mz_pg 191 195 = some (.goto (-27), 0, 0, 0) := by decide +kernel
theorem gz_191_198 : mz_pg 191 198 = some (.return_, 0, 0, 0) := by decide +kernel
theorem gm_191 : my_mm 191 6 none 1 10 := by unfold my_mm; decide +kernel
theorem rd_63 : my_rd 63 = .inl (1, 7, [(0, 0, 1)]) := rfl
theorem rd_64 : my_rd 64 = .inl (1, 7, [(0, 0, 1)]) := rfl
theorem rd_65 : my_rd 65 = .inl (0, 7, [(0, 0, 5)]) := rfl
theorem rd_66 : my_rd 66 = .inl (0, 7, [(0, 0, 6)]) := rfl
theorem rd_67 : my_rd 67 = .inl (0, 42, [(0, 0, 5)]) := rfl
theorem rd_68 : my_rd 68 = .inl (0, 42, [(0, 0, 7)]) := rfl
theorem rd_69 : my_rd 69 = .inl (0, 42, [(0, 0, 199)]) := rfl
theorem rd_70 : my_rd 70 = .inl (0, 42, [(0, 0, 8)]) := rfl
theorem rd_71 : my_rd 71 = .inl (0, 336, [(0, 0, 7)]) := rfl
theorem rd_72 : my_rd 72 = .inl (0, 28, [(0, -1, 19)]) := rfl
theorem c24_Model_keeps {l : Launch} {rho : Nat → Int32} {d : Nat} {h : my_H} {Q : my_H → my_V → Prop} {x0 x1 : Int} (t0 : my_is 10 x0) (a1 : 0 ≤ x1) (b1 : x1 ≤ 5) (cf : h x0 ((8 : Nat) : Int) = 0) (k0 : ∀ (h' : my_H), my_fr [(63, -1), (64, -1), (65, -1), (66, -1), (67, -1), (68, -1), (69, -1), (70, -1), (71, -1), (72, -1)] h h' → h' x0 ((8 : Nat) : Int) = 0 → Q h' (9, 0)) : wp l rho d 191 0 [(2, x0), (0, x1), (9, 0), (9, 0), (9, 0), (9, 0)] [] h Q := by
  have J168_0 : ∀ (n : Nat) (p168_0 : Int) (h168_0 : my_H), my_fr [(63, -1), (64, -1), (65, -1), (66, -1), (67, -1), (68, -1), (69, -1), (70, -1), (71, -1), (72, -1)] h h168_0 → 0 ≤ p168_0 → p168_0 ≤ 4 → h168_0 x0 ((8 : Nat) : Int) = 0 → 5 - p168_0 ≤ (n : Int) → wp l rho d 191 168 [(2, x0), (0, x1), (0, p168_0), (9, 0), (9, 0), (9, 0)] [] h168_0 Q := by
    intro n
    induction n with
    | zero => intro p168_0 h168_0 gh_168_0 q0_168_0 q1_168_0 c8_168_0 hm_168_0; exfalso; omega
    | succ n ih_168_0 =>
      intro p168_0 h168_0 gh_168_0 q0_168_0 q1_168_0 c8_168_0 hm_168_0
      refine w_iload_n gz_191_168 rfl ?_
      refine w_iconst gz_191_169 (by decide) ?_
      refine w_icge (t := 198) gz_191_170 rfl (fun u1 => ?_) (fun u1 => ?_)
      ·
        have c2 := c8_168_0
        exact w_vret gz_191_198 gm_191 (k0 h168_0 (gh_168_0) (by omega))
      ·
        refine w_aload_n gz_191_173 rfl ?_
        refine w_getR gz_191_174 t0 rd_10 rfl (fun v3 ev3 tv3 => ?_)
        refine w_iconst gz_191_177 (by decide) ?_
        refine w_iload_n gz_191_178 rfl ?_
        refine w_imul gz_191_179 ⟨by omega, by omega⟩ ?_
        refine w_iload_n gz_191_180 rfl ?_
        refine w_iadd gz_191_181 ⟨by omega, by omega⟩ ?_
        refine w_aload_n gz_191_182 rfl ?_
        refine w_getR gz_191_183 t0 rd_10 rfl (fun v4 ev4 tv4 => ?_)
        have zv4 : v3 = v4 := (ev4.trans ev3.symm).symm
        subst zv4
        refine w_bipush gz_191_186 (by decide) ?_
        refine w_iload_n gz_191_188 rfl ?_
        refine w_iadd gz_191_189 ⟨by omega, by omega⟩ ?_
        refine w_iald gz_191_190 tv3 rd_72 (by omega) (by omega) (fun v5 ev5 pv5 qv5 => ?_)
        refine w_iast gz_191_191 tv3 rd_72 (by omega) (by omega) (by omega) (by omega) (fun h6 fh6 => ?_)
        have gh6 : my_fr [(63, -1), (64, -1), (65, -1), (66, -1), (67, -1), (68, -1), (69, -1), (70, -1), (71, -1), (72, -1)] h h6 := my_fr.up gh_168_0 tv3 fh6 rfl
        refine w_iinc (ls' := [(2, x0), (0, x1), (0, (p168_0 + 1)), (9, 0), (9, 0), (9, 0)]) gz_191_192 rfl gm_191 rfl rfl rfl ⟨by omega, by omega⟩ ?_
        refine w_goto (t := 168) gz_191_195 rfl ?_
        exact ih_168_0 ((p168_0 + 1)) h6 (gh6) (by omega) (by omega) (((my_up_role fh6 t0 tv3 rfl).trans c8_168_0).trans (by omega)) (by omega)
  have J48_0 : ∀ (n : Nat) (p48_0 : Int) (h48_0 : my_H), my_fr [(63, -1), (64, -1), (65, -1), (66, -1), (67, -1), (68, -1), (69, -1), (70, -1), (71, -1), (72, -1)] h h48_0 → 0 ≤ p48_0 → p48_0 ≤ 6 → h48_0 x0 ((8 : Nat) : Int) = 0 → 7 - p48_0 ≤ (n : Int) → wp l rho d 191 48 [(2, x0), (0, x1), (0, p48_0), (9, 0), (9, 0), (9, 0)] [] h48_0 Q := by
    intro n
    induction n with
    | zero => intro p48_0 h48_0 gh_48_0 q0_48_0 q1_48_0 c8_48_0 hm_48_0; exfalso; omega
    | succ n ih_48_0 =>
      intro p48_0 h48_0 gh_48_0 q0_48_0 q1_48_0 c8_48_0 hm_48_0
      have J122_0 : ∀ (n : Nat) (p122_0 p122_1 : Int) (h122_0 : my_H), my_fr [(63, -1), (64, -1), (65, -1), (66, -1), (67, -1), (68, -1), (69, -1), (70, -1), (71, -1), (72, -1)] h h122_0 → p48_0 ≤ 5 → 0 ≤ p122_0 → p122_0 ≤ 35 → 0 ≤ p122_1 → p122_1 ≤ 8 → h122_0 x0 ((8 : Nat) : Int) = 0 → 9 - p122_1 ≤ (n : Int) → wp l rho d 191 122 [(2, x0), (0, x1), (0, p48_0), (0, p122_0), (0, (p48_0 + 36)), (0, p122_1)] [] h122_0 Q := by
        intro n
        induction n with
        | zero => intro p122_0 p122_1 h122_0 gh_122_0 q0_122_0 q1_122_0 q2_122_0 q3_122_0 q4_122_0 c8_122_0 hm_122_0; exfalso; omega
        | succ n ih_122_0 =>
          intro p122_0 p122_1 h122_0 gh_122_0 q0_122_0 q1_122_0 q2_122_0 q3_122_0 q4_122_0 c8_122_0 hm_122_0
          refine w_iload gz_191_122 rfl ?_
          refine w_bipush gz_191_124 (by decide) ?_
          refine w_icge (t := 160) gz_191_126 rfl (fun u7 => ?_) (fun u7 => ?_)
          ·
            refine w_iinc (ls' := [(2, x0), (0, x1), (0, (p48_0 + 1)), (0, p122_0), (0, (p48_0 + 36)), (0, p122_1)]) gz_191_160 rfl gm_191 rfl rfl rfl ⟨by omega, by omega⟩ ?_
            refine w_goto (t := 48) gz_191_163 rfl ?_
            refine w_weak (ls' := [(2, x0), (0, x1), (0, (p48_0 + 1)), (9, 0), (9, 0), (9, 0)]) (wk_e (wk_e (wk_e (wk_9 (wk_9 (wk_9 wk_n)))))) ?_
            exact ih_48_0 ((p48_0 + 1)) h122_0 (gh_122_0) (by omega) (by omega) (c8_122_0.trans (by omega)) (by omega)
          ·
            refine w_aload_n gz_191_129 rfl ?_
            refine w_getR gz_191_130 t0 rd_10 rfl (fun v8 ev8 tv8 => ?_)
            refine w_bipush gz_191_133 (by decide) ?_
            refine w_iload_n gz_191_135 rfl ?_
            refine w_imul gz_191_136 ⟨by omega, by omega⟩ ?_
            refine w_iload gz_191_137 rfl ?_
            refine w_iadd gz_191_139 ⟨by omega, by omega⟩ ?_
            refine w_aload_n gz_191_140 rfl ?_
            refine w_getR gz_191_141 t0 rd_10 rfl (fun v9 ev9 tv9 => ?_)
            have zv9 : v8 = v9 := (ev9.trans ev8.symm).symm
            subst zv9
            refine w_bipush gz_191_144 (by decide) ?_
            refine w_iload gz_191_146 rfl ?_
            refine w_imul gz_191_148 ⟨by omega, by omega⟩ ?_
            refine w_iload gz_191_149 rfl ?_
            refine w_iadd gz_191_151 ⟨by omega, by omega⟩ ?_
            refine w_iald gz_191_152 tv8 rd_71 (by omega) (by omega) (fun v10 ev10 pv10 qv10 => ?_)
            refine w_iast gz_191_153 tv8 rd_71 (by omega) (by omega) (by omega) (by omega) (fun h11 fh11 => ?_)
            have gh11 : my_fr [(63, -1), (64, -1), (65, -1), (66, -1), (67, -1), (68, -1), (69, -1), (70, -1), (71, -1), (72, -1)] h h11 := my_fr.up gh_122_0 tv8 fh11 rfl
            refine w_iinc (ls' := [(2, x0), (0, x1), (0, p48_0), (0, p122_0), (0, (p48_0 + 36)), (0, (p122_1 + 1))]) gz_191_154 rfl gm_191 rfl rfl rfl ⟨by omega, by omega⟩ ?_
            refine w_goto (t := 122) gz_191_157 rfl ?_
            exact ih_122_0 (p122_0) ((p122_1 + 1)) h11 (gh11) (by omega) (by omega) (by omega) (by omega) (by omega) (((my_up_role fh11 t0 tv8 rfl).trans c8_122_0).trans (by omega)) (by omega)
      refine w_iload_n gz_191_48 rfl ?_
      refine w_bipush gz_191_49 (by decide) ?_
      refine w_icge (t := 166) gz_191_51 rfl (fun u12 => ?_) (fun u12 => ?_)
      ·
        refine w_iconst gz_191_166 (by decide) ?_
        refine w_istore_n (ls' := [(2, x0), (0, x1), (0, 0), (9, 0), (9, 0), (9, 0)]) gz_191_167 gm_191 rfl rfl rfl ?_
        exact J168_0 5 (0) h48_0 (gh_48_0) (by omega) (by omega) (c8_48_0.trans (by omega)) (by omega)
      ·
        refine w_bipush gz_191_54 (by decide) ?_
        refine w_iload_n gz_191_56 rfl ?_
        refine w_imul gz_191_57 ⟨by omega, by omega⟩ ?_
        refine w_iload_n gz_191_58 rfl ?_
        refine w_iadd gz_191_59 ⟨by omega, by omega⟩ ?_
        refine w_istore_n (ls' := [(2, x0), (0, x1), (0, p48_0), (0, ((6 * x1) + p48_0)), (9, 0), (9, 0)]) gz_191_60 gm_191 rfl rfl rfl ?_
        refine w_bipush gz_191_61 (by decide) ?_
        refine w_iload_n gz_191_63 rfl ?_
        refine w_iadd gz_191_64 ⟨by omega, by omega⟩ ?_
        refine w_istore (ls' := [(2, x0), (0, x1), (0, p48_0), (0, ((6 * x1) + p48_0)), (0, (36 + p48_0)), (9, 0)]) gz_191_65 gm_191 rfl rfl rfl ?_
        refine w_aload_n gz_191_67 rfl ?_
        refine w_getR gz_191_68 t0 rd_10 rfl (fun v13 ev13 tv13 => ?_)
        refine w_iload_n gz_191_71 rfl ?_
        refine w_aload_n gz_191_72 rfl ?_
        refine w_getR gz_191_73 t0 rd_10 rfl (fun v14 ev14 tv14 => ?_)
        have zv14 : v13 = v14 := (ev14.trans ev13.symm).symm
        subst zv14
        refine w_iload gz_191_76 rfl ?_
        refine w_iald gz_191_78 tv13 rd_67 (by omega) (by omega) (fun v15 ev15 pv15 qv15 => ?_)
        refine w_iast gz_191_79 tv13 rd_67 (by omega) (by omega) (by omega) (by omega) (fun h16 fh16 => ?_)
        have gh16 : my_fr [(63, -1), (64, -1), (65, -1), (66, -1), (67, -1), (68, -1), (69, -1), (70, -1), (71, -1), (72, -1)] h h16 := my_fr.up gh_48_0 tv13 fh16 rfl
        refine w_aload_n gz_191_80 rfl ?_
        refine w_getR gz_191_81 t0 rd_10 rfl (fun v17 ev17 tv17 => ?_)
        refine w_iload_n gz_191_84 rfl ?_
        refine w_aload_n gz_191_85 rfl ?_
        refine w_getR gz_191_86 t0 rd_10 rfl (fun v18 ev18 tv18 => ?_)
        have zv18 : v17 = v18 := (ev18.trans ev17.symm).symm
        subst zv18
        refine w_iload gz_191_89 rfl ?_
        refine w_iald gz_191_91 tv17 rd_68 (by omega) (by omega) (fun v19 ev19 pv19 qv19 => ?_)
        refine w_iast gz_191_92 tv17 rd_68 (by omega) (by omega) (by omega) (by omega) (fun h20 fh20 => ?_)
        have gh20 : my_fr [(63, -1), (64, -1), (65, -1), (66, -1), (67, -1), (68, -1), (69, -1), (70, -1), (71, -1), (72, -1)] h h20 := my_fr.up gh16 tv17 fh20 rfl
        refine w_aload_n gz_191_93 rfl ?_
        refine w_getR gz_191_94 t0 rd_10 rfl (fun v21 ev21 tv21 => ?_)
        refine w_iload_n gz_191_97 rfl ?_
        refine w_aload_n gz_191_98 rfl ?_
        refine w_getR gz_191_99 t0 rd_10 rfl (fun v22 ev22 tv22 => ?_)
        have zv22 : v21 = v22 := (ev22.trans ev21.symm).symm
        subst zv22
        refine w_iload gz_191_102 rfl ?_
        refine w_iald gz_191_104 tv21 rd_69 (by omega) (by omega) (fun v23 ev23 pv23 qv23 => ?_)
        refine w_iast gz_191_105 tv21 rd_69 (by omega) (by omega) (by omega) (by omega) (fun h24 fh24 => ?_)
        have gh24 : my_fr [(63, -1), (64, -1), (65, -1), (66, -1), (67, -1), (68, -1), (69, -1), (70, -1), (71, -1), (72, -1)] h h24 := my_fr.up gh20 tv21 fh24 rfl
        refine w_aload_n gz_191_106 rfl ?_
        refine w_getR gz_191_107 t0 rd_10 rfl (fun v25 ev25 tv25 => ?_)
        refine w_iload_n gz_191_110 rfl ?_
        refine w_aload_n gz_191_111 rfl ?_
        refine w_getR gz_191_112 t0 rd_10 rfl (fun v26 ev26 tv26 => ?_)
        have zv26 : v25 = v26 := (ev26.trans ev25.symm).symm
        subst zv26
        refine w_iload gz_191_115 rfl ?_
        refine w_iald gz_191_117 tv25 rd_70 (by omega) (by omega) (fun v27 ev27 pv27 qv27 => ?_)
        refine w_iast gz_191_118 tv25 rd_70 (by omega) (by omega) (by omega) (by omega) (fun h28 fh28 => ?_)
        have gh28 : my_fr [(63, -1), (64, -1), (65, -1), (66, -1), (67, -1), (68, -1), (69, -1), (70, -1), (71, -1), (72, -1)] h h28 := my_fr.up gh24 tv25 fh28 rfl
        refine w_iconst gz_191_119 (by decide) ?_
        refine w_istore (ls' := [(2, x0), (0, x1), (0, p48_0), (0, ((6 * x1) + p48_0)), (0, (36 + p48_0)), (0, 0)]) gz_191_120 gm_191 rfl rfl rfl ?_
        rw [show ((36 + p48_0) : Int) = (p48_0 + 36) from by omega]
        exact J122_0 9 (((6 * x1) + p48_0)) (0) h28 (gh28) (by omega) (by omega) (by omega) (by omega) (by omega) (((my_up_role fh28 t0 tv25 rfl).trans ((my_up_role fh24 t0 tv21 rfl).trans ((my_up_role fh20 t0 tv17 rfl).trans ((my_up_role fh16 t0 tv13 rfl).trans c8_48_0)))).trans (by omega)) (by omega)
  refine w_aload_n gz_191_0 rfl ?_
  refine w_getR gz_191_1 t0 rd_10 rfl (fun v29 ev29 tv29 => ?_)
  refine w_iload_n gz_191_4 rfl ?_
  refine w_iconst gz_191_5 (by decide) ?_
  refine w_bast gz_191_6 tv29 rd_63 (by omega) (by omega) (by omega) (by omega) (fun h30 fh30 => ?_)
  have gh30 : my_fr [(63, -1), (64, -1), (65, -1), (66, -1), (67, -1), (68, -1), (69, -1), (70, -1), (71, -1), (72, -1)] h h30 := my_fr.up my_fr.rf tv29 fh30 rfl
  refine w_aload_n gz_191_7 rfl ?_
  refine w_getR gz_191_8 t0 rd_10 rfl (fun v31 ev31 tv31 => ?_)
  refine w_iload_n gz_191_11 rfl ?_
  refine w_aload_n gz_191_12 rfl ?_
  refine w_getR gz_191_13 t0 rd_10 rfl (fun v32 ev32 tv32 => ?_)
  have zv32 : v31 = v32 := (ev32.trans ev31.symm).symm
  subst zv32
  refine w_bipush gz_191_16 (by decide) ?_
  refine w_bald gz_191_18 tv31 rd_64 (by omega) (by omega) (fun v33 ev33 pv33 qv33 => ?_)
  refine w_bast gz_191_19 tv31 rd_64 (by omega) (by omega) (by omega) (by omega) (fun h34 fh34 => ?_)
  have gh34 : my_fr [(63, -1), (64, -1), (65, -1), (66, -1), (67, -1), (68, -1), (69, -1), (70, -1), (71, -1), (72, -1)] h h34 := my_fr.up gh30 tv31 fh34 rfl
  refine w_aload_n gz_191_20 rfl ?_
  refine w_getR gz_191_21 t0 rd_10 rfl (fun v35 ev35 tv35 => ?_)
  refine w_iload_n gz_191_24 rfl ?_
  refine w_aload_n gz_191_25 rfl ?_
  refine w_getR gz_191_26 t0 rd_10 rfl (fun v36 ev36 tv36 => ?_)
  have zv36 : v35 = v36 := (ev36.trans ev35.symm).symm
  subst zv36
  refine w_bipush gz_191_29 (by decide) ?_
  refine w_iald gz_191_31 tv35 rd_65 (by omega) (by omega) (fun v37 ev37 pv37 qv37 => ?_)
  refine w_iast gz_191_32 tv35 rd_65 (by omega) (by omega) (by omega) (by omega) (fun h38 fh38 => ?_)
  have gh38 : my_fr [(63, -1), (64, -1), (65, -1), (66, -1), (67, -1), (68, -1), (69, -1), (70, -1), (71, -1), (72, -1)] h h38 := my_fr.up gh34 tv35 fh38 rfl
  refine w_aload_n gz_191_33 rfl ?_
  refine w_getR gz_191_34 t0 rd_10 rfl (fun v39 ev39 tv39 => ?_)
  refine w_iload_n gz_191_37 rfl ?_
  refine w_aload_n gz_191_38 rfl ?_
  refine w_getR gz_191_39 t0 rd_10 rfl (fun v40 ev40 tv40 => ?_)
  have zv40 : v39 = v40 := (ev40.trans ev39.symm).symm
  subst zv40
  refine w_bipush gz_191_42 (by decide) ?_
  refine w_iald gz_191_44 tv39 rd_66 (by omega) (by omega) (fun v41 ev41 pv41 qv41 => ?_)
  refine w_iast gz_191_45 tv39 rd_66 (by omega) (by omega) (by omega) (by omega) (fun h42 fh42 => ?_)
  have gh42 : my_fr [(63, -1), (64, -1), (65, -1), (66, -1), (67, -1), (68, -1), (69, -1), (70, -1), (71, -1), (72, -1)] h h42 := my_fr.up gh38 tv39 fh42 rfl
  refine w_iconst gz_191_46 (by decide) ?_
  refine w_istore_n (ls' := [(2, x0), (0, x1), (0, 0), (9, 0), (9, 0), (9, 0)]) gz_191_47 gm_191 rfl rfl rfl ?_
  exact J48_0 7 (0) h42 (gh42) (by omega) (by omega) (((my_up_role fh42 t0 tv39 rfl).trans ((my_up_role fh38 t0 tv35 rfl).trans ((my_up_role fh34 t0 tv31 rfl).trans ((my_up_role fh30 t0 tv29 rfl).trans cf)))).trans (by omega)) (by omega)
theorem gz_197_0 : mz_pg 197 0 = some (.aload_n 0, 0, 0, 0) := by decide +kernel
theorem gz_197_1 : mz_pg 197 1 = some (.getfield 134, 10, 38, 1251) := by decide +kernel
theorem gz_197_4 : mz_pg 197 4 = some (.iload_n 2, 0, 0, 0) := by decide +kernel
theorem gz_197_5 : mz_pg 197 5 = some (.aload_n 0, 0, 0, 0) := by decide +kernel
theorem gz_197_6 : mz_pg 197 6 = some (.getfield 134, 10, 38, 1251) := by decide +kernel
theorem gz_197_9 : mz_pg 197 9 = some (.iload_n 1, 0, 0, 0) := by decide +kernel
theorem gz_197_10 : mz_pg 197 10 = some (.iaload, 0, 0, 0) := by decide +kernel
theorem gz_197_11 : mz_pg 197 11 = some (.iastore, 0, 0, 0) := by decide +kernel
theorem gz_197_12 : mz_pg 197 12 = some (.iconst 0, 0, 0, 0) := by decide +kernel
theorem gz_197_13 : mz_pg 197 13 = some (.istore_n 3, 0, 0, 0) := by decide +kernel
theorem gz_197_14 : mz_pg 197 14 = some (.iload_n 3, 0, 0, 0) := by decide +kernel
theorem gz_197_15 : mz_pg 197 15 = some (.bipush 8, 0, 0, 0) := by decide +kernel
theorem gz_197_17 : mz_pg 197 17 = some (.if_icmp .ge 53, 0, 0, 0) := by decide +kernel
theorem gz_197_20 : mz_pg 197 20 = some (.aload_n 0, 0, 0, 0) := by decide +kernel
theorem gz_197_21 : mz_pg 197 21 = some (.getfield 137, 10, 39, 1252) := by decide +kernel
theorem gz_197_24 : mz_pg 197 24 = some (.bipush 8, 0, 0, 0) := by decide +kernel
theorem gz_197_26 : mz_pg 197 26 = some (.iload_n 2, 0, 0, 0) := by decide +kernel
theorem gz_197_27 : mz_pg 197 27 = some (.imul, 0, 0, 0) := by decide +kernel
theorem gz_197_28 : mz_pg 197 28 = some (.iload_n 3, 0, 0, 0) := by decide +kernel
theorem gz_197_29 : mz_pg 197 29 = some (.iadd, 0, 0, 0) := by decide +kernel
theorem gz_197_30 : mz_pg 197 30 = some (.aload_n 0, 0, 0, 0) := by decide +kernel
theorem gz_197_31 : mz_pg 197 31 = some (.getfield 137, 10, 39, 1252) := by decide +kernel
theorem gz_197_34 : mz_pg 197 34 = some (.bipush 8, 0, 0, 0) := by decide +kernel
theorem gz_197_36 : mz_pg 197 36 = some (.iload_n 1, 0, 0, 0) := by decide +kernel
theorem gz_197_37 : mz_pg 197 37 = some (.imul, 0, 0, 0) := by decide +kernel
theorem gz_197_38 : mz_pg 197 38 = some (.iload_n 3, 0, 0, 0) := by decide +kernel
theorem gz_197_39 : mz_pg 197 39 = some (.iadd, 0, 0, 0) := by decide +kernel
theorem gz_197_40 : mz_pg 197 40 = some (.iaload, 0, 0, 0) := by decide +kernel
theorem gz_197_41 : mz_pg 197 41 = some (.iastore, 0, 0, 0) := by decide +kernel
theorem gz_197_42 : mz_pg 197 42 = some (.aload_n 0, 0, 0, 0) := by decide +kernel
theorem gz_197_43 : mz_pg 197 43 = some (.getfield 140, 10, 40, 1253) := by decide +kernel
theorem gz_197_46 : mz_pg 197 46 = some (.bipush 8, 0, 0, 0) := by decide +kernel
theorem gz_197_48 : mz_pg 197 48 = some (.iload_n 2, 0, 0, 0) := by decide +kernel
theorem gz_197_49 : mz_pg 197 49 = some (.imul, 0, 0, 0) := by decide +kernel
theorem gz_197_50 : mz_pg 197 50 = some (.iload_n 3, 0, 0, 0) := by decide +kernel
theorem gz_197_51 : mz_pg 197 51 = some (.iadd, 0, 0, 0) := by decide +kernel
theorem gz_197_52 : mz_pg 197 52 = some (.aload_n 0, 0, 0, 0) := by decide +kernel
theorem gz_197_53 : mz_pg 197 53 = some (.getfield 140, 10, 40, 1253) := by decide +kernel
theorem gz_197_56 : mz_pg 197 56 = some (.bipush 8, 0, 0, 0) := by decide +kernel
theorem gz_197_58 : mz_pg 197 58 = some (.iload_n 1, 0, 0, 0) := by decide +kernel
theorem gz_197_59 : mz_pg 197 59 = some (.imul, 0, 0, 0) := by decide +kernel
theorem gz_197_60 : mz_pg 197 60 = some (.iload_n 3, 0, 0, 0) := by decide +kernel
theorem gz_197_61 : mz_pg 197 61 = some (.iadd, 0, 0, 0) := by decide +kernel
theorem gz_197_62 : mz_pg 197 62 = some (.iaload, 0, 0, 0) := by decide +kernel
theorem gz_197_63 : mz_pg 197 63 = some (.iastore, 0, 0, 0) := by decide +kernel
theorem gz_197_64 : mz_pg 197 64 = some (.iinc 3 1, 0, 0, 0) := by decide +kernel
theorem gz_197_67 : mz_pg 197 67 = some (.goto (-53), 0, 0, 0) := by decide +kernel
theorem gz_197_70 : mz_pg 197 70 = some (.return_, 0, 0, 0) := by decide +kernel
theorem gm_197 : my_mm 197 4 none 2 10 := by unfold my_mm; decide +kernel
theorem rd_80 : my_rd 80 = .inl (0, 10, [(0, 0, 19)]) := rfl
theorem rd_81 : my_rd 81 = .inl (0, 80, [(0, 0, 2147483647)]) := rfl
theorem rd_82 : my_rd 82 = .inl (0, 80, [(0, 0, 19)]) := rfl
theorem c25_Model_shifts {l : Launch} {rho : Nat → Int32} {d : Nat} {h : my_H} {Q : my_H → my_V → Prop} {x0 x1 x2 : Int} (t0 : my_is 10 x0) (a1 : 0 ≤ x1) (b1 : x1 ≤ 9) (a2 : 0 ≤ x2) (b2 : x2 ≤ 9) (k0 : ∀ (h' : my_H), my_fr [(80, -1), (81, -1), (82, -1)] h h' → Q h' (9, 0)) : wp l rho d 197 0 [(2, x0), (0, x1), (0, x2), (9, 0)] [] h Q := by
  have J14_0 : ∀ (n : Nat) (p14_0 : Int) (h14_0 : my_H), my_fr [(80, -1), (81, -1), (82, -1)] h h14_0 → 0 ≤ p14_0 → p14_0 ≤ 8 → 9 - p14_0 ≤ (n : Int) → wp l rho d 197 14 [(2, x0), (0, x1), (0, x2), (0, p14_0)] [] h14_0 Q := by
    intro n
    induction n with
    | zero => intro p14_0 h14_0 gh_14_0 q0_14_0 q1_14_0 hm_14_0; exfalso; omega
    | succ n ih_14_0 =>
      intro p14_0 h14_0 gh_14_0 q0_14_0 q1_14_0 hm_14_0
      refine w_iload_n gz_197_14 rfl ?_
      refine w_bipush gz_197_15 (by decide) ?_
      refine w_icge (t := 70) gz_197_17 rfl (fun u1 => ?_) (fun u1 => ?_)
      ·
        exact w_vret gz_197_70 gm_197 (k0 h14_0 (gh_14_0))
      ·
        refine w_aload_n gz_197_20 rfl ?_
        refine w_getR gz_197_21 t0 rd_10 rfl (fun v2 ev2 tv2 => ?_)
        refine w_bipush gz_197_24 (by decide) ?_
        refine w_iload_n gz_197_26 rfl ?_
        refine w_imul gz_197_27 ⟨by omega, by omega⟩ ?_
        refine w_iload_n gz_197_28 rfl ?_
        refine w_iadd gz_197_29 ⟨by omega, by omega⟩ ?_
        refine w_aload_n gz_197_30 rfl ?_
        refine w_getR gz_197_31 t0 rd_10 rfl (fun v3 ev3 tv3 => ?_)
        have zv3 : v2 = v3 := (ev3.trans ev2.symm).symm
        subst zv3
        refine w_bipush gz_197_34 (by decide) ?_
        refine w_iload_n gz_197_36 rfl ?_
        refine w_imul gz_197_37 ⟨by omega, by omega⟩ ?_
        refine w_iload_n gz_197_38 rfl ?_
        refine w_iadd gz_197_39 ⟨by omega, by omega⟩ ?_
        refine w_iald gz_197_40 tv2 rd_81 (by omega) (by omega) (fun v4 ev4 pv4 qv4 => ?_)
        refine w_iast gz_197_41 tv2 rd_81 (by omega) (by omega) (by omega) (by omega) (fun h5 fh5 => ?_)
        have gh5 : my_fr [(80, -1), (81, -1), (82, -1)] h h5 := my_fr.up gh_14_0 tv2 fh5 rfl
        refine w_aload_n gz_197_42 rfl ?_
        refine w_getR gz_197_43 t0 rd_10 rfl (fun v6 ev6 tv6 => ?_)
        refine w_bipush gz_197_46 (by decide) ?_
        refine w_iload_n gz_197_48 rfl ?_
        refine w_imul gz_197_49 ⟨by omega, by omega⟩ ?_
        refine w_iload_n gz_197_50 rfl ?_
        refine w_iadd gz_197_51 ⟨by omega, by omega⟩ ?_
        refine w_aload_n gz_197_52 rfl ?_
        refine w_getR gz_197_53 t0 rd_10 rfl (fun v7 ev7 tv7 => ?_)
        have zv7 : v6 = v7 := (ev7.trans ev6.symm).symm
        subst zv7
        refine w_bipush gz_197_56 (by decide) ?_
        refine w_iload_n gz_197_58 rfl ?_
        refine w_imul gz_197_59 ⟨by omega, by omega⟩ ?_
        refine w_iload_n gz_197_60 rfl ?_
        refine w_iadd gz_197_61 ⟨by omega, by omega⟩ ?_
        refine w_iald gz_197_62 tv6 rd_82 (by omega) (by omega) (fun v8 ev8 pv8 qv8 => ?_)
        refine w_iast gz_197_63 tv6 rd_82 (by omega) (by omega) (by omega) (by omega) (fun h9 fh9 => ?_)
        have gh9 : my_fr [(80, -1), (81, -1), (82, -1)] h h9 := my_fr.up gh5 tv6 fh9 rfl
        refine w_iinc (ls' := [(2, x0), (0, x1), (0, x2), (0, (p14_0 + 1))]) gz_197_64 rfl gm_197 rfl rfl rfl ⟨by omega, by omega⟩ ?_
        refine w_goto (t := 14) gz_197_67 rfl ?_
        exact ih_14_0 ((p14_0 + 1)) h9 (gh9) (by omega) (by omega) (by omega)
  refine w_aload_n gz_197_0 rfl ?_
  refine w_getR gz_197_1 t0 rd_10 rfl (fun v10 ev10 tv10 => ?_)
  refine w_iload_n gz_197_4 rfl ?_
  refine w_aload_n gz_197_5 rfl ?_
  refine w_getR gz_197_6 t0 rd_10 rfl (fun v11 ev11 tv11 => ?_)
  have zv11 : v10 = v11 := (ev11.trans ev10.symm).symm
  subst zv11
  refine w_iload_n gz_197_9 rfl ?_
  refine w_iald gz_197_10 tv10 rd_80 (by omega) (by omega) (fun v12 ev12 pv12 qv12 => ?_)
  refine w_iast gz_197_11 tv10 rd_80 (by omega) (by omega) (by omega) (by omega) (fun h13 fh13 => ?_)
  have gh13 : my_fr [(80, -1), (81, -1), (82, -1)] h h13 := my_fr.up my_fr.rf tv10 fh13 rfl
  refine w_iconst gz_197_12 (by decide) ?_
  refine w_istore_n (ls' := [(2, x0), (0, x1), (0, x2), (0, 0)]) gz_197_13 gm_197 rfl rfl rfl ?_
  exact J14_0 9 (0) h13 (gh13) (by omega) (by omega) (by omega)
theorem gz_20_0 : mz_pg 20 0 = some (.iconst 0, 0, 0, 0) := by decide +kernel
theorem gz_20_1 : mz_pg 20 1 = some (.istore 5, 0, 0, 0) := by decide +kernel
theorem gz_20_3 : mz_pg 20 3 = some (.iconst 0, 0, 0, 0) := by decide +kernel
theorem gz_20_4 : mz_pg 20 4 = some (.istore 6, 0, 0, 0) := by decide +kernel
theorem gz_20_6 : mz_pg 20 6 = some (.iload 6, 0, 0, 0) := by decide +kernel
theorem gz_20_8 : mz_pg 20 8 = some (.bipush 20, 0, 0, 0) := by decide +kernel
theorem gz_20_10 : mz_pg 20 10 = some (.if_icmp .ge 58, 0, 0, 0) := by decide +kernel
theorem gz_20_13 : mz_pg 20 13 = some (.iload_n 1, 0, 0, 0) := by decide +kernel
theorem gz_20_14 : mz_pg 20 14 = some (.iload 6, 0, 0, 0) := by decide +kernel
theorem gz_20_16 : mz_pg 20 16 = some (.invokestatic 18, 2, 17, 4) := by decide +kernel
theorem gz_20_19 : mz_pg 20 19 = some (.istore 7, 0, 0, 0) := by decide +kernel
theorem gz_20_21 : mz_pg 20 21 = some (.aload_n 0, 0, 0, 0) := by decide +kernel
theorem gz_20_22 : mz_pg 20 22 = some (.getfield 9, 6, 0, 176) := by decide +kernel
theorem gz_20_25 : mz_pg 20 25 = some (.iload 7, 0, 0, 0) := by decide +kernel
theorem gz_20_27 : mz_pg 20 27 = some (.iaload, 0, 0, 0) := by decide +kernel
theorem gz_20_28 : mz_pg 20 28 = some (.iconst (-1), 0, 0, 0) := by decide +kernel
theorem gz_20_29 : mz_pg 20 29 = some (.if_icmp .eq 33, 0, 0, 0) := by decide +kernel
theorem gz_20_32 : mz_pg 20 32 = some (.aload_n 0, 0, 0, 0) := by decide +kernel
theorem gz_20_33 : mz_pg 20 33 = some (.getfield 9, 6, 0, 176) := by decide +kernel
theorem gz_20_36 : mz_pg 20 36 = some (.iload 7, 0, 0, 0) := by decide +kernel
theorem gz_20_38 : mz_pg 20 38 = some (.iload_n 2, 0, 0, 0) := by decide +kernel
theorem gz_20_39 : mz_pg 20 39 = some (.iadd, 0, 0, 0) := by decide +kernel
theorem gz_20_40 : mz_pg 20 40 = some (.iaload, 0, 0, 0) := by decide +kernel
theorem gz_20_41 : mz_pg 20 41 = some (.iload_n 3, 0, 0, 0) := by decide +kernel
theorem gz_20_42 : mz_pg 20 42 = some (.if_icmp .lt 17, 0, 0, 0) := by decide +kernel
theorem gz_20_45 : mz_pg 20 45 = some (.aload_n 0, 0, 0, 0) := by decide +kernel
theorem gz_20_46 : mz_pg 20 46 = some (.getfield 9, 6, 0, 176) := by decide +kernel
theorem gz_20_49 : mz_pg 20 49 = some (.iload 7, 0, 0, 0) := by decide +kernel
theorem gz_20_51 : mz_pg 20 51 = some (.iload_n 2, 0, 0, 0) := by decide +kernel
theorem gz_20_52 : mz_pg 20 52 = some (.iadd, 0, 0, 0) := by decide +kernel
theorem gz_20_53 : mz_pg 20 53 = some (.iaload, 0, 0, 0) := by decide +kernel
theorem gz_20_54 : mz_pg 20 54 = some (.iload 4, 0, 0, 0) := by decide +kernel
theorem gz_20_56 : mz_pg 20 56 = some (.if_icmp .le 6, 0, 0, 0) := by decide +kernel
theorem gz_20_59 : mz_pg 20 59 = some (.iinc 5 1, 0, 0, 0) := by decide +kernel
theorem gz_20_62 : mz_pg 20 62 = some (.iinc 6 1, 0, 0, 0) := by decide +kernel
theorem gz_20_65 : mz_pg 20 65 = some (.goto (-59), 0, 0, 0) := by decide +kernel
theorem gz_20_68 : mz_pg 20 68 = some (.iload 5, 0, 0, 0) := by decide +kernel
theorem gz_20_70 : mz_pg 20 70 = some (.ireturn, 0, 0, 0) := by decide +kernel
theorem gm_20 : my_mm 20 8 (some .int) 4 6 := by unfold my_mm; decide +kernel
theorem c26_Rows_outside {l : Launch} {rho : Nat → Int32} {d : Nat} {h : my_H} {Q : my_H → my_V → Prop} {x0 x1 x2 x3 x4 : Int} (t0 : my_is 6 x0) (a1 : 0 ≤ x1) (b1 : x1 ≤ 2) (a2 : 0 ≤ x2) (b2 : x2 ≤ 3) (a3 : 0 ≤ x3) (b3 : x3 ≤ 19) (a4 : 0 ≤ x4) (b4 : x4 ≤ 19) (k0 : ∀ (y : Int), 0 ≤ y → y ≤ 20 → Q h (0, y)) : wp l rho (d + 1) 20 0 [(2, x0), (0, x1), (0, x2), (0, x3), (0, x4), (9, 0), (9, 0), (9, 0)] [] h Q := by
  have J6_0 : ∀ (n : Nat) (p6_0 p6_1 : Int), 0 ≤ p6_0 → p6_0 ≤ 20 → 0 ≤ p6_1 → p6_1 ≤ 20 → p6_0 ≤ p6_1 → 21 - p6_1 ≤ (n : Int) → wp l rho (d + 1) 20 6 [(2, x0), (0, x1), (0, x2), (0, x3), (0, x4), (0, p6_0), (0, p6_1), (9, 0)] [] h Q := by
    intro n
    induction n with
    | zero => intro p6_0 p6_1 q0_6_0 q1_6_0 q2_6_0 q3_6_0 q4_6_0 hm_6_0; exfalso; omega
    | succ n ih_6_0 =>
      intro p6_0 p6_1 q0_6_0 q1_6_0 q2_6_0 q3_6_0 q4_6_0 hm_6_0
      have J62_0 : ∀ (p62_0 p62_1 : Int), 0 ≤ p62_0 → p62_0 ≤ 20 → p6_1 ≤ 19 → 0 ≤ p62_1 → p62_1 ≤ 236 → p6_0 ≤ 19 → p62_0 ≤ (p6_1 + 1) → p62_0 ≤ (p6_0 + 1) → p6_0 ≤ p62_0 → p6_0 ≤ p6_1 → wp l rho (d + 1) 20 62 [(2, x0), (0, x1), (0, x2), (0, x3), (0, x4), (0, p62_0), (0, p6_1), (0, p62_1)] [] h Q := by
        intro p62_0 p62_1 q0_62_0 q1_62_0 q2_62_0 q3_62_0 q4_62_0 q5_62_0 q6_62_0 q7_62_0 q8_62_0 q9_62_0
        refine w_iinc (ls' := [(2, x0), (0, x1), (0, x2), (0, x3), (0, x4), (0, p62_0), (0, (p6_1 + 1)), (0, p62_1)]) gz_20_62 rfl gm_20 rfl rfl rfl ⟨by omega, by omega⟩ ?_
        refine w_goto (t := 6) gz_20_65 rfl ?_
        refine w_weak (ls' := [(2, x0), (0, x1), (0, x2), (0, x3), (0, x4), (0, p62_0), (0, (p6_1 + 1)), (9, 0)]) (wk_e (wk_e (wk_e (wk_e (wk_e (wk_e (wk_e (wk_9 wk_n)))))))) ?_
        exact ih_6_0 (p62_0) ((p6_1 + 1)) (by omega) (by omega) (by omega) (by omega) (by omega) (by omega)
      have J59_0 : ∀ (p59_0 : Int), p6_0 ≤ 19 → p6_1 ≤ 19 → 0 ≤ p59_0 → p59_0 ≤ 236 → p6_0 ≤ p6_1 → wp l rho (d + 1) 20 59 [(2, x0), (0, x1), (0, x2), (0, x3), (0, x4), (0, p6_0), (0, p6_1), (0, p59_0)] [] h Q := by
        intro p59_0 q0_59_0 q1_59_0 q2_59_0 q3_59_0 q4_59_0
        refine w_iinc (ls' := [(2, x0), (0, x1), (0, x2), (0, x3), (0, x4), (0, (p6_0 + 1)), (0, p6_1), (0, p59_0)]) gz_20_59 rfl gm_20 rfl rfl rfl ⟨by omega, by omega⟩ ?_
        exact J62_0 ((p6_0 + 1)) (p59_0) (by omega) (by omega) (by omega) (by omega) (by omega) (by omega) (by omega) (by omega) (by omega) (by omega)
      refine w_iload gz_20_6 rfl ?_
      refine w_bipush gz_20_8 (by decide) ?_
      refine w_icge (t := 68) gz_20_10 rfl (fun u1 => ?_) (fun u1 => ?_)
      ·
        refine w_iload gz_20_68 rfl ?_
        exact w_iret gz_20_70 gm_20 (k0 (p6_0) (by omega) (by omega))
      ·
        refine w_iload_n gz_20_13 rfl ?_
        refine w_iload gz_20_14 rfl ?_
        refine w_inS (k := 0) (as := [(0, p6_1), (0, x1)]) (r := []) (ls0 := [(0, x1), (0, p6_1)]) gz_20_16 gm_17 rfl rfl rfl rfl rfl rfl ?_
        refine w_iload_n gz_17_0 rfl ?_
        refine w_bipush gz_17_1 (by decide) ?_
        refine w_imul gz_17_3 ⟨by omega, by omega⟩ ?_
        refine w_iload_n gz_17_4 rfl ?_
        refine w_iadd gz_17_5 ⟨by omega, by omega⟩ ?_
        refine w_iconst gz_17_6 (by decide) ?_
        refine w_imul gz_17_7 ⟨by omega, by omega⟩ ?_
        refine w_iret gz_17_8 gm_17 ?_
        show wp l rho (d + 1) 20 19 [(2, x0), (0, x1), (0, x2), (0, x3), (0, x4), (0, p6_0), (0, p6_1), (9, 0)] [(0, (((x1 * 20) + p6_1) * 4))] h Q
        refine w_istore (ls' := [(2, x0), (0, x1), (0, x2), (0, x3), (0, x4), (0, p6_0), (0, p6_1), (0, (((x1 * 20) + p6_1) * 4))]) gz_20_19 gm_20 rfl rfl rfl ?_
        refine w_aload_n gz_20_21 rfl ?_
        refine w_getR gz_20_22 t0 rd_6 rfl (fun v2 ev2 tv2 => ?_)
        refine w_iload gz_20_25 rfl ?_
        refine w_iald gz_20_27 tv2 rd_30 (by omega) (by omega) (fun v3 ev3 pv3 qv3 => ?_)
        refine w_iconst gz_20_28 (by decide) ?_
        refine w_iceq (t := 62) gz_20_29 rfl (fun u4 => ?_) (fun u4 => ?_)
        ·
          exact J62_0 (p6_0) ((((x1 * 20) + p6_1) * 4)) (by omega) (by omega) (by omega) (by omega) (by omega) (by omega) (by omega) (by omega) (by omega) (by omega)
        ·
          refine w_aload_n gz_20_32 rfl ?_
          refine w_getR gz_20_33 t0 rd_6 rfl (fun v5 ev5 tv5 => ?_)
          have zv5 : v2 = v5 := (ev5.trans ev2.symm).symm
          subst zv5
          refine w_iload gz_20_36 rfl ?_
          refine w_iload_n gz_20_38 rfl ?_
          refine w_iadd gz_20_39 ⟨by omega, by omega⟩ ?_
          refine w_iald gz_20_40 tv2 rd_30 (by omega) (by omega) (fun v6 ev6 pv6 qv6 => ?_)
          refine w_iload_n gz_20_41 rfl ?_
          refine w_iclt (t := 59) gz_20_42 rfl (fun u7 => ?_) (fun u7 => ?_)
          ·
            exact J59_0 ((((x1 * 20) + p6_1) * 4)) (by omega) (by omega) (by omega) (by omega) (by omega)
          ·
            refine w_aload_n gz_20_45 rfl ?_
            refine w_getR gz_20_46 t0 rd_6 rfl (fun v8 ev8 tv8 => ?_)
            have zv8 : v2 = v8 := (ev8.trans ev2.symm).symm
            subst zv8
            refine w_iload gz_20_49 rfl ?_
            refine w_iload_n gz_20_51 rfl ?_
            refine w_iadd gz_20_52 ⟨by omega, by omega⟩ ?_
            refine w_iald gz_20_53 tv2 rd_30 (by omega) (by omega) (fun v9 ev9 pv9 qv9 => ?_)
            refine w_iload gz_20_54 rfl ?_
            refine w_icle (t := 62) gz_20_56 rfl (fun u10 => ?_) (fun u10 => ?_)
            ·
              exact J62_0 (p6_0) ((((x1 * 20) + p6_1) * 4)) (by omega) (by omega) (by omega) (by omega) (by omega) (by omega) (by omega) (by omega) (by omega) (by omega)
            ·
              exact J59_0 ((((x1 * 20) + p6_1) * 4)) (by omega) (by omega) (by omega) (by omega) (by omega)
  refine w_iconst gz_20_0 (by decide) ?_
  refine w_istore (ls' := [(2, x0), (0, x1), (0, x2), (0, x3), (0, x4), (0, 0), (9, 0), (9, 0)]) gz_20_1 gm_20 rfl rfl rfl ?_
  refine w_iconst gz_20_3 (by decide) ?_
  refine w_istore (ls' := [(2, x0), (0, x1), (0, x2), (0, x3), (0, x4), (0, 0), (0, 0), (9, 0)]) gz_20_4 gm_20 rfl rfl rfl ?_
  exact J6_0 21 (0) (0) (by omega) (by omega) (by omega) (by omega) (by omega) (by omega)
theorem gz_200_0 : mz_pg 200 0 = some (.iconst 0, 0, 0, 0) := by decide +kernel
theorem gz_200_1 : mz_pg 200 1 = some (.istore_n 3, 0, 0, 0) := by decide +kernel
theorem gz_200_2 : mz_pg 200 2 = some (.iload_n 3, 0, 0, 0) := by decide +kernel
theorem gz_200_3 : mz_pg 200 3 = some (.aload_n 0, 0, 0, 0) := by decide +kernel
theorem gz_200_4 : mz_pg 200 4 = some (.getfield 299, 10, 27, 1240) := by decide +kernel
theorem gz_200_7 : mz_pg 200 7 = some (.if_icmp .ge 65, 0, 0, 0) := by decide +kernel
theorem gz_200_10 : mz_pg 200 10 = some (.aload_n 0, 0, 0, 0) := by decide +kernel
theorem gz_200_11 : mz_pg 200 11 = some (.getfield 137, 10, 39, 1252) := by decide +kernel
theorem gz_200_14 : mz_pg 200 14 = some (.bipush 8, 0, 0, 0) := by decide +kernel
theorem gz_200_16 : mz_pg 200 16 = some (.iload_n 1, 0, 0, 0) := by decide +kernel
theorem gz_200_17 : mz_pg 200 17 = some (.imul, 0, 0, 0) := by decide +kernel
theorem gz_200_18 : mz_pg 200 18 = some (.iload_n 3, 0, 0, 0) := by decide +kernel
theorem gz_200_19 : mz_pg 200 19 = some (.iadd, 0, 0, 0) := by decide +kernel
theorem gz_200_20 : mz_pg 200 20 = some (.iaload, 0, 0, 0) := by decide +kernel
theorem gz_200_21 : mz_pg 200 21 = some (.aload_n 0, 0, 0, 0) := by decide +kernel
theorem gz_200_22 : mz_pg 200 22 = some (.getfield 137, 10, 39, 1252) := by decide +kernel
theorem gz_200_25 : mz_pg 200 25 = some (.bipush 8, 0, 0, 0) := by decide +kernel
theorem gz_200_27 : mz_pg 200 27 = some (.iload_n 2, 0, 0, 0) := by decide +kernel
theorem gz_200_28 : mz_pg 200 28 = some (.imul, 0, 0, 0) := by decide +kernel
theorem gz_200_29 : mz_pg 200 29 = some (.iload_n 3, 0, 0, 0) := by decide +kernel
theorem gz_200_30 : mz_pg 200 30 = some (.iadd, 0, 0, 0) := by decide +kernel
theorem gz_200_31 : mz_pg 200 31 = some (.iaload, 0, 0, 0) := by decide +kernel
theorem gz_200_32 : mz_pg 200 32 = some (.if_icmp .eq 34, 0, 0, 0) := by decide +kernel
theorem gz_200_35 : mz_pg 200 35 = some (.aload_n 0, 0, 0, 0) := by decide +kernel
theorem gz_200_36 : mz_pg 200 36 = some (.getfield 137, 10, 39, 1252) := by decide +kernel
theorem gz_200_39 : mz_pg 200 39 = some (.bipush 8, 0, 0, 0) := by decide +kernel
theorem gz_200_41 : mz_pg 200 41 = some (.iload_n 1, 0, 0, 0) := by decide +kernel
theorem gz_200_42 : mz_pg 200 42 = some (.imul, 0, 0, 0) := by decide +kernel
theorem gz_200_43 : mz_pg 200 43 = some (.iload_n 3, 0, 0, 0) := by decide +kernel
theorem gz_200_44 : mz_pg 200 44 = some (.iadd, 0, 0, 0) := by decide +kernel
theorem gz_200_45 : mz_pg 200 45 = some (.iaload, 0, 0, 0) := by decide +kernel
theorem gz_200_46 : mz_pg 200 46 = some (.aload_n 0, 0, 0, 0) := by decide +kernel
theorem gz_200_47 : mz_pg 200 47 = some (.getfield 137, 10, 39, 1252) := by decide +kernel
theorem gz_200_50 : mz_pg 200 50 = some (.bipush 8, 0, 0, 0) := by decide +kernel
theorem gz_200_52 : mz_pg 200 52 = some (.iload_n 2, 0, 0, 0) := by decide +kernel
theorem gz_200_53 : mz_pg 200 53 = some (.imul, 0, 0, 0) := by decide +kernel
theorem gz_200_54 : mz_pg 200 54 = some (.iload_n 3, 0, 0, 0) := by decide +kernel
theorem gz_200_55 : mz_pg 200 55 = some (.iadd, 0, 0, 0) := by decide +kernel
theorem gz_200_56 : mz_pg 200 56 = some (.iaload, 0, 0, 0) := by decide +kernel
theorem gz_200_57 : mz_pg 200 57 = some (.if_icmp .ge 7, 0, 0, 0) := by decide +kernel
theorem gz_200_60 : mz_pg 200 60 = some (.iconst 1, 0, 0, 0) := by decide +kernel
theorem gz_200_61 : mz_pg 200 61 = some (.goto 4, 0, 0, 0) := by decide +kernel
theorem gz_200_64 : mz_pg 200 64 = some (.iconst 0, 0, 0, 0) := by decide +kernel
theorem gz_200_65 : mz_pg 200 65 = some (.ireturn, 0, 0, 0) := by decide +kernel
theorem gz_200_66 : mz_pg 200 66 = some (.iinc 3 1, 0, 0, 0) := by decide +kernel
theorem gz_200_69 : mz_pg 200 69 = some (.goto (-67), 0, 0, 0) := by decide +kernel
theorem gz_200_72 : mz_pg 200 72 = some (.aload_n 0, 0, 0, 0) := by decide +kernel
theorem gz_200_73 : mz_pg 200 73 = some (.getfield 134, 10, 38, 1251) := by decide +kernel
theorem gz_200_76 : mz_pg 200 76 = some (.iload_n 1, 0, 0, 0) := by decide +kernel
theorem gz_200_77 : mz_pg 200 77 = some (.iaload, 0, 0, 0) := by decide +kernel
theorem gz_200_78 : mz_pg 200 78 = some (.aload_n 0, 0, 0, 0) := by decide +kernel
theorem gz_200_79 : mz_pg 200 79 = some (.getfield 134, 10, 38, 1251) := by decide +kernel
theorem gz_200_82 : mz_pg 200 82 = some (.iload_n 2, 0, 0, 0) := by decide +kernel
theorem gz_200_83 : mz_pg 200 83 = some (.iaload, 0, 0, 0) := by decide +kernel
theorem gz_200_84 : mz_pg 200 84 = some (.if_icmp .ge 7, 0, 0, 0) := by decide +kernel
theorem gz_200_87 : mz_pg 200 87 = some (.iconst 1, 0, 0, 0) := by decide +kernel
theorem gz_200_88 : mz_pg 200 88 = some (.goto 4, 0, 0, 0) := by decide +kernel
theorem gz_200_91 : mz_pg 200 91 = some (.iconst 0, 0, 0, 0) := by decide +kernel
theorem gz_200_92 : mz_pg 200 92 = some (.ireturn, 0, 0, 0) := by decide +kernel
theorem gm_200 : my_mm 200 4 (some .boolean) 2 10 := by unfold my_mm; decide +kernel
theorem c27_Model_isBefore {l : Launch} {rho : Nat → Int32} {d : Nat} {h : my_H} {Q : my_H → my_V → Prop} {x0 x1 x2 : Int} (t0 : my_is 10 x0) (a1 : 1 ≤ x1) (b1 : x1 ≤ 9) (a2 : 0 ≤ x2) (b2 : x2 ≤ 8) (k0 : Q h (0, 0)) (k1 : Q h (0, 1)) : wp l rho d 200 0 [(2, x0), (0, x1), (0, x2), (9, 0)] [] h Q := by
  have J2_0 : ∀ (n : Nat) (p2_0 : Int), 0 ≤ p2_0 → p2_0 ≤ 8 → 9 - p2_0 ≤ (n : Int) → wp l rho d 200 2 [(2, x0), (0, x1), (0, x2), (0, p2_0)] [] h Q := by
    intro n
    induction n with
    | zero => intro p2_0 q0_2_0 q1_2_0 hm_2_0; exfalso; omega
    | succ n ih_2_0 =>
      intro p2_0 q0_2_0 q1_2_0 hm_2_0
      refine w_iload_n gz_200_2 rfl ?_
      refine w_aload_n gz_200_3 rfl ?_
      refine w_getI gz_200_4 t0 rd_10 rfl (fun v1 ev1 pv1 qv1 => ?_)
      refine w_icge (t := 72) gz_200_7 rfl (fun u2 => ?_) (fun u2 => ?_)
      ·
        refine w_aload_n gz_200_72 rfl ?_
        refine w_getR gz_200_73 t0 rd_10 rfl (fun v3 ev3 tv3 => ?_)
        refine w_iload_n gz_200_76 rfl ?_
        refine w_iald gz_200_77 tv3 rd_80 (by omega) (by omega) (fun v4 ev4 pv4 qv4 => ?_)
        refine w_aload_n gz_200_78 rfl ?_
        refine w_getR gz_200_79 t0 rd_10 rfl (fun v5 ev5 tv5 => ?_)
        have zv5 : v3 = v5 := (ev5.trans ev3.symm).symm
        subst zv5
        refine w_iload_n gz_200_82 rfl ?_
        refine w_iald gz_200_83 tv3 rd_80 (by omega) (by omega) (fun v6 ev6 pv6 qv6 => ?_)
        refine w_icge (t := 91) gz_200_84 rfl (fun u7 => ?_) (fun u7 => ?_)
        ·
          refine w_iconst gz_200_91 (by decide) ?_
          exact w_bret gz_200_92 gm_200 (by omega) (by omega) (k0 )
        ·
          refine w_iconst gz_200_87 (by decide) ?_
          refine w_goto (t := 92) gz_200_88 rfl ?_
          exact w_bret gz_200_92 gm_200 (by omega) (by omega) (k1 )
      ·
        refine w_aload_n gz_200_10 rfl ?_
        refine w_getR gz_200_11 t0 rd_10 rfl (fun v8 ev8 tv8 => ?_)
        refine w_bipush gz_200_14 (by decide) ?_
        refine w_iload_n gz_200_16 rfl ?_
        refine w_imul gz_200_17 ⟨by omega, by omega⟩ ?_
        refine w_iload_n gz_200_18 rfl ?_
        refine w_iadd gz_200_19 ⟨by omega, by omega⟩ ?_
        refine w_iald gz_200_20 tv8 rd_81 (by omega) (by omega) (fun v9 ev9 pv9 qv9 => ?_)
        refine w_aload_n gz_200_21 rfl ?_
        refine w_getR gz_200_22 t0 rd_10 rfl (fun v10 ev10 tv10 => ?_)
        have zv10 : v8 = v10 := (ev10.trans ev8.symm).symm
        subst zv10
        refine w_bipush gz_200_25 (by decide) ?_
        refine w_iload_n gz_200_27 rfl ?_
        refine w_imul gz_200_28 ⟨by omega, by omega⟩ ?_
        refine w_iload_n gz_200_29 rfl ?_
        refine w_iadd gz_200_30 ⟨by omega, by omega⟩ ?_
        refine w_iald gz_200_31 tv8 rd_81 (by omega) (by omega) (fun v11 ev11 pv11 qv11 => ?_)
        refine w_iceq (t := 66) gz_200_32 rfl (fun u12 => ?_) (fun u12 => ?_)
        ·
          refine w_iinc (ls' := [(2, x0), (0, x1), (0, x2), (0, (p2_0 + 1))]) gz_200_66 rfl gm_200 rfl rfl rfl ⟨by omega, by omega⟩ ?_
          refine w_goto (t := 2) gz_200_69 rfl ?_
          exact ih_2_0 ((p2_0 + 1)) (by omega) (by omega) (by omega)
        ·
          refine w_aload_n gz_200_35 rfl ?_
          refine w_getR gz_200_36 t0 rd_10 rfl (fun v13 ev13 tv13 => ?_)
          have zv13 : v8 = v13 := (ev13.trans ev8.symm).symm
          subst zv13
          refine w_bipush gz_200_39 (by decide) ?_
          refine w_iload_n gz_200_41 rfl ?_
          refine w_imul gz_200_42 ⟨by omega, by omega⟩ ?_
          refine w_iload_n gz_200_43 rfl ?_
          refine w_iadd gz_200_44 ⟨by omega, by omega⟩ ?_
          refine w_iald gz_200_45 tv8 rd_81 (by omega) (by omega) (fun v14 ev14 pv14 qv14 => ?_)
          refine w_aload_n gz_200_46 rfl ?_
          refine w_getR gz_200_47 t0 rd_10 rfl (fun v15 ev15 tv15 => ?_)
          have zv15 : v8 = v15 := (ev15.trans ev8.symm).symm
          subst zv15
          refine w_bipush gz_200_50 (by decide) ?_
          refine w_iload_n gz_200_52 rfl ?_
          refine w_imul gz_200_53 ⟨by omega, by omega⟩ ?_
          refine w_iload_n gz_200_54 rfl ?_
          refine w_iadd gz_200_55 ⟨by omega, by omega⟩ ?_
          refine w_iald gz_200_56 tv8 rd_81 (by omega) (by omega) (fun v16 ev16 pv16 qv16 => ?_)
          refine w_icge (t := 64) gz_200_57 rfl (fun u17 => ?_) (fun u17 => ?_)
          ·
            refine w_iconst gz_200_64 (by decide) ?_
            exact w_bret gz_200_65 gm_200 (by omega) (by omega) (k0 )
          ·
            refine w_iconst gz_200_60 (by decide) ?_
            refine w_goto (t := 65) gz_200_61 rfl ?_
            exact w_bret gz_200_65 gm_200 (by omega) (by omega) (k1 )
  refine w_iconst gz_200_0 (by decide) ?_
  refine w_istore_n (ls' := [(2, x0), (0, x1), (0, x2), (0, 0)]) gz_200_1 gm_200 rfl rfl rfl ?_
  exact J2_0 9 (0) (by omega) (by omega) (by omega)
theorem gz_201_0 : mz_pg 201 0 = some (.aload_n 0, 0, 0, 0) := by decide +kernel
theorem gz_201_1 : mz_pg 201 1 = some (.getfield 134, 10, 38, 1251) := by decide +kernel
theorem gz_201_4 : mz_pg 201 4 = some (.iload_n 1, 0, 0, 0) := by decide +kernel
theorem gz_201_5 : mz_pg 201 5 = some (.iaload, 0, 0, 0) := by decide +kernel
theorem gz_201_6 : mz_pg 201 6 = some (.istore_n 3, 0, 0, 0) := by decide +kernel
theorem gz_201_7 : mz_pg 201 7 = some (.aload_n 0, 0, 0, 0) := by decide +kernel
theorem gz_201_8 : mz_pg 201 8 = some (.getfield 134, 10, 38, 1251) := by decide +kernel
theorem gz_201_11 : mz_pg 201 11 = some (.iload_n 1, 0, 0, 0) := by decide +kernel
theorem gz_201_12 : mz_pg 201 12 = some (.aload_n 0, 0, 0, 0) := by decide +kernel
theorem gz_201_13 : mz_pg 201 13 = some (.getfield 134, 10, 38, 1251) := by decide +kernel
theorem gz_201_16 : mz_pg 201 16 = some (.iload_n 2, 0, 0, 0) := by decide +kernel
theorem gz_201_17 : mz_pg 201 17 = some (.iaload, 0, 0, 0) := by decide +kernel
theorem gz_201_18 : mz_pg 201 18 = some (.iastore, 0, 0, 0) := by decide +kernel
theorem gz_201_19 : mz_pg 201 19 = some (.aload_n 0, 0, 0, 0) := by decide +kernel
theorem gz_201_20 : mz_pg 201 20 = some (.getfield 134, 10, 38, 1251) := by decide +kernel
theorem gz_201_23 : mz_pg 201 23 = some (.iload_n 2, 0, 0, 0) := by decide +kernel
theorem gz_201_24 : mz_pg 201 24 = some (.iload_n 3, 0, 0, 0) := by decide +kernel
theorem gz_201_25 : mz_pg 201 25 = some (.iastore, 0, 0, 0) := by decide +kernel
theorem gz_201_26 : mz_pg 201 26 = some (.iconst 0, 0, 0, 0) := by decide +kernel
theorem gz_201_27 : mz_pg 201 27 = some (.istore 4, 0, 0, 0) := by decide +kernel
theorem gz_201_29 : mz_pg 201 29 = some (.iload 4, 0, 0, 0) := by decide +kernel
theorem gz_201_31 : mz_pg 201 31 = some (.bipush 8, 0, 0, 0) := by decide +kernel
theorem gz_201_33 : mz_pg 201 33 = some (.if_icmp .ge 113, 0, 0, 0) := by decide +kernel
theorem gz_201_36 : mz_pg 201 36 = some (.aload_n 0, 0, 0, 0) := by decide +kernel
theorem gz_201_37 : mz_pg 201 37 = some (.getfield 137, 10, 39, 1252) := by decide +kernel
theorem gz_201_40 : mz_pg 201 40 = some (.bipush 8, 0, 0, 0) := by decide +kernel
theorem gz_201_42 : mz_pg 201 42 = some (.iload_n 1, 0, 0, 0) := by decide +kernel
theorem gz_201_43 : mz_pg 201 43 = some (.imul, 0, 0, 0) := by decide +kernel
theorem gz_201_44 : mz_pg 201 44 = some (.iload 4, 0, 0, 0) := by decide +kernel
theorem gz_201_46 : mz_pg 201 46 = some (.iadd, 0, 0, 0) := by decide +kernel
theorem gz_201_47 : mz_pg 201 47 = some (.iaload, 0, 0, 0) := by decide +kernel
theorem gz_201_48 : mz_pg 201 48 = some (.istore 5, 0, 0, 0) := by decide +kernel
theorem gz_201_50 : mz_pg 201 50 = some (.aload_n 0, 0, 0, 0) := by decide +kernel
theorem gz_201_51 : mz_pg 201 51 = some (.getfield 140, 10, 40, 1253) := by decide +kernel
theorem gz_201_54 : mz_pg 201 54 = some (.bipush 8, 0, 0, 0) := by decide +kernel
theorem gz_201_56 : mz_pg 201 56 = some (.iload_n 1, 0, 0, 0) := by decide +kernel
theorem gz_201_57 : mz_pg 201 57 = some (.imul, 0, 0, 0) := by decide +kernel
theorem gz_201_58 : mz_pg 201 58 = some (.iload 4, 0, 0, 0) := by decide +kernel
theorem gz_201_60 : mz_pg 201 60 = some (.iadd, 0, 0, 0) := by decide +kernel
theorem gz_201_61 : mz_pg 201 61 = some (.iaload, 0, 0, 0) := by decide +kernel
theorem gz_201_62 : mz_pg 201 62 = some (.istore 6, 0, 0, 0) := by decide +kernel
theorem gz_201_64 : mz_pg 201 64 = some (.aload_n 0, 0, 0, 0) := by decide +kernel
theorem gz_201_65 : mz_pg 201 65 = some (.getfield 137, 10, 39, 1252) := by decide +kernel
theorem gz_201_68 : mz_pg 201 68 = some (.bipush 8, 0, 0, 0) := by decide +kernel
theorem gz_201_70 : mz_pg 201 70 = some (.iload_n 1, 0, 0, 0) := by decide +kernel
theorem gz_201_71 : mz_pg 201 71 = some (.imul, 0, 0, 0) := by decide +kernel
theorem gz_201_72 : mz_pg 201 72 = some (.iload 4, 0, 0, 0) := by decide +kernel
theorem gz_201_74 : mz_pg 201 74 = some (.iadd, 0, 0, 0) := by decide +kernel
theorem gz_201_75 : mz_pg 201 75 = some (.aload_n 0, 0, 0, 0) := by decide +kernel
theorem gz_201_76 : mz_pg 201 76 = some (.getfield 137, 10, 39, 1252) := by decide +kernel
theorem gz_201_79 : mz_pg 201 79 = some (.bipush 8, 0, 0, 0) := by decide +kernel
theorem gz_201_81 : mz_pg 201 81 = some (.iload_n 2, 0, 0, 0) := by decide +kernel
theorem gz_201_82 : mz_pg 201 82 = some (.imul, 0, 0, 0) := by decide +kernel
theorem gz_201_83 : mz_pg 201 83 = some (.iload 4, 0, 0, 0) := by decide +kernel
theorem gz_201_85 : mz_pg 201 85 = some (.iadd, 0, 0, 0) := by decide +kernel
theorem gz_201_86 : mz_pg 201 86 = some (.iaload, 0, 0, 0) := by decide +kernel
theorem gz_201_87 : mz_pg 201 87 = some (.iastore, 0, 0, 0) := by decide +kernel
theorem gz_201_88 : mz_pg 201 88 = some (.aload_n 0, 0, 0, 0) := by decide +kernel
theorem gz_201_89 : mz_pg 201 89 = some (.getfield 140, 10, 40, 1253) := by decide +kernel
theorem gz_201_92 : mz_pg 201 92 = some (.bipush 8, 0, 0, 0) := by decide +kernel
theorem gz_201_94 : mz_pg 201 94 = some (.iload_n 1, 0, 0, 0) := by decide +kernel
theorem gz_201_95 : mz_pg 201 95 = some (.imul, 0, 0, 0) := by decide +kernel
theorem gz_201_96 : mz_pg 201 96 = some (.iload 4, 0, 0, 0) := by decide +kernel
theorem gz_201_98 : mz_pg 201 98 = some (.iadd, 0, 0, 0) := by decide +kernel
theorem gz_201_99 : mz_pg 201 99 = some (.aload_n 0, 0, 0, 0) := by decide +kernel
theorem gz_201_100 : mz_pg 201 100 = some (.getfield 140, 10, 40, 1253) := by decide +kernel
theorem gz_201_103 : mz_pg 201 103 = some (.bipush 8, 0, 0, 0) := by decide +kernel
theorem gz_201_105 : mz_pg 201 105 = some (.iload_n 2, 0, 0, 0) := by decide +kernel
theorem gz_201_106 : mz_pg 201 106 = some (.imul, 0, 0, 0) := by decide +kernel
theorem gz_201_107 : mz_pg 201 107 = some (.iload 4, 0, 0, 0) := by decide +kernel
theorem gz_201_109 : mz_pg 201 109 = some (.iadd, 0, 0, 0) := by decide +kernel
theorem gz_201_110 : mz_pg 201 110 = some (.iaload, 0, 0, 0) := by decide +kernel
theorem gz_201_111 : mz_pg 201 111 = some (.iastore, 0, 0, 0) := by decide +kernel
theorem gz_201_112 : mz_pg 201 112 = some (.aload_n 0, 0, 0, 0) := by decide +kernel
theorem gz_201_113 : mz_pg 201 113 = some (.getfield 137, 10, 39, 1252) := by decide +kernel
theorem gz_201_116 : mz_pg 201 116 = some (.bipush 8, 0, 0, 0) := by decide +kernel
theorem gz_201_118 : mz_pg 201 118 = some (.iload_n 2, 0, 0, 0) := by decide +kernel
theorem gz_201_119 : mz_pg 201 119 = some (.imul, 0, 0, 0) := by decide +kernel
theorem gz_201_120 : mz_pg 201 120 = some (.iload 4, 0, 0, 0) := by decide +kernel
theorem gz_201_122 : mz_pg 201 122 = some (.iadd, 0, 0, 0) := by decide +kernel
theorem gz_201_123 : mz_pg 201 123 = some (.iload 5, 0, 0, 0) := by decide +kernel
theorem gz_201_125 : mz_pg 201 125 = some (.iastore, 0, 0, 0) := by decide +kernel
theorem gz_201_126 : mz_pg 201 126 = some (.aload_n 0, 0, 0, 0) := by decide +kernel
theorem gz_201_127 : mz_pg 201 127 = some (.getfield 140, 10, 40, 1253) := by decide +kernel
theorem gz_201_130 : mz_pg 201 130 = some (.bipush 8, 0, 0, 0) := by decide +kernel
theorem gz_201_132 : mz_pg 201 132 = some (.iload_n 2, 0, 0, 0) := by decide +kernel
theorem gz_201_133 : mz_pg 201 133 = some (.imul, 0, 0, 0) := by decide +kernel
theorem gz_201_134 : mz_pg 201 134 = some (.iload 4, 0, 0, 0) := by decide +kernel
theorem gz_201_136 : mz_pg 201 136 = some (.iadd, 0, 0, 0) := by decide +kernel
theorem gz_201_137 : mz_pg 201 137 = some (.iload 6, 0, 0, 0) := by decide +kernel
theorem gz_201_139 : mz_pg 201 139 = some (.iastore, 0, 0, 0) := by decide +kernel
theorem gz_201_140 : mz_pg 201 140 = some (.iinc 4 1, 0, 0, 0) := by decide +kernel
theorem gz_201_143 : mz_pg 201 143 = some (.goto (-114), 0, 0, 0) := by decide +kernel
theorem gz_201_146 : mz_pg 201 146 = some (.return_, 0, 0, 0) := by decide +kernel
theorem gm_201 : my_mm 201 7 none 2 10 := by unfold my_mm; decide +kernel
theorem c28_Model_swaps {l : Launch} {rho : Nat → Int32} {d : Nat} {h : my_H} {Q : my_H → my_V → Prop} {x0 x1 x2 : Int} (t0 : my_is 10 x0) (a1 : 0 ≤ x1) (b1 : x1 ≤ 8) (a2 : 1 ≤ x2) (b2 : x2 ≤ 9) (k0 : ∀ (h' : my_H), my_fr [(80, -1), (81, -1), (82, -1)] h h' → Q h' (9, 0)) : wp l rho d 201 0 [(2, x0), (0, x1), (0, x2), (9, 0), (9, 0), (9, 0), (9, 0)] [] h Q := by
  have J29_0 : ∀ (n : Nat) (p29_0 p29_1 : Int) (h29_0 : my_H), my_fr [(80, -1), (81, -1), (82, -1)] h h29_0 → 0 ≤ p29_0 → p29_0 ≤ 19 → 0 ≤ p29_1 → p29_1 ≤ 8 → 9 - p29_1 ≤ (n : Int) → wp l rho d 201 29 [(2, x0), (0, x1), (0, x2), (0, p29_0), (0, p29_1), (9, 0), (9, 0)] [] h29_0 Q := by
    intro n
    induction n with
    | zero => intro p29_0 p29_1 h29_0 gh_29_0 q0_29_0 q1_29_0 q2_29_0 q3_29_0 hm_29_0; exfalso; omega
    | succ n ih_29_0 =>
      intro p29_0 p29_1 h29_0 gh_29_0 q0_29_0 q1_29_0 q2_29_0 q3_29_0 hm_29_0
      refine w_iload gz_201_29 rfl ?_
      refine w_bipush gz_201_31 (by decide) ?_
      refine w_icge (t := 146) gz_201_33 rfl (fun u1 => ?_) (fun u1 => ?_)
      ·
        exact w_vret gz_201_146 gm_201 (k0 h29_0 (gh_29_0))
      ·
        refine w_aload_n gz_201_36 rfl ?_
        refine w_getR gz_201_37 t0 rd_10 rfl (fun v2 ev2 tv2 => ?_)
        refine w_bipush gz_201_40 (by decide) ?_
        refine w_iload_n gz_201_42 rfl ?_
        refine w_imul gz_201_43 ⟨by omega, by omega⟩ ?_
        refine w_iload gz_201_44 rfl ?_
        refine w_iadd gz_201_46 ⟨by omega, by omega⟩ ?_
        refine w_iald gz_201_47 tv2 rd_81 (by omega) (by omega) (fun v3 ev3 pv3 qv3 => ?_)
        refine w_istore (ls' := [(2, x0), (0, x1), (0, x2), (0, p29_0), (0, p29_1), (0, v3), (9, 0)]) gz_201_48 gm_201 rfl rfl rfl ?_
        refine w_aload_n gz_201_50 rfl ?_
        refine w_getR gz_201_51 t0 rd_10 rfl (fun v4 ev4 tv4 => ?_)
        refine w_bipush gz_201_54 (by decide) ?_
        refine w_iload_n gz_201_56 rfl ?_
        refine w_imul gz_201_57 ⟨by omega, by omega⟩ ?_
        refine w_iload gz_201_58 rfl ?_
        refine w_iadd gz_201_60 ⟨by omega, by omega⟩ ?_
        refine w_iald gz_201_61 tv4 rd_82 (by omega) (by omega) (fun v5 ev5 pv5 qv5 => ?_)
        refine w_istore (ls' := [(2, x0), (0, x1), (0, x2), (0, p29_0), (0, p29_1), (0, v3), (0, v5)]) gz_201_62 gm_201 rfl rfl rfl ?_
        refine w_aload_n gz_201_64 rfl ?_
        refine w_getR gz_201_65 t0 rd_10 rfl (fun v6 ev6 tv6 => ?_)
        have zv6 : v2 = v6 := (ev6.trans ev2.symm).symm
        subst zv6
        refine w_bipush gz_201_68 (by decide) ?_
        refine w_iload_n gz_201_70 rfl ?_
        refine w_imul gz_201_71 ⟨by omega, by omega⟩ ?_
        refine w_iload gz_201_72 rfl ?_
        refine w_iadd gz_201_74 ⟨by omega, by omega⟩ ?_
        refine w_aload_n gz_201_75 rfl ?_
        refine w_getR gz_201_76 t0 rd_10 rfl (fun v7 ev7 tv7 => ?_)
        have zv7 : v2 = v7 := (ev7.trans ev2.symm).symm
        subst zv7
        refine w_bipush gz_201_79 (by decide) ?_
        refine w_iload_n gz_201_81 rfl ?_
        refine w_imul gz_201_82 ⟨by omega, by omega⟩ ?_
        refine w_iload gz_201_83 rfl ?_
        refine w_iadd gz_201_85 ⟨by omega, by omega⟩ ?_
        refine w_iald gz_201_86 tv2 rd_81 (by omega) (by omega) (fun v8 ev8 pv8 qv8 => ?_)
        refine w_iast gz_201_87 tv2 rd_81 (by omega) (by omega) (by omega) (by omega) (fun h9 fh9 => ?_)
        have gh9 : my_fr [(80, -1), (81, -1), (82, -1)] h h9 := my_fr.up gh_29_0 tv2 fh9 rfl
        refine w_aload_n gz_201_88 rfl ?_
        refine w_getR gz_201_89 t0 rd_10 rfl (fun v10 ev10 tv10 => ?_)
        have zv10 : v4 = v10 := (ev10.trans ((my_up_role fh9 t0 tv2 rfl).trans ev4.symm)).symm
        subst zv10
        refine w_bipush gz_201_92 (by decide) ?_
        refine w_iload_n gz_201_94 rfl ?_
        refine w_imul gz_201_95 ⟨by omega, by omega⟩ ?_
        refine w_iload gz_201_96 rfl ?_
        refine w_iadd gz_201_98 ⟨by omega, by omega⟩ ?_
        refine w_aload_n gz_201_99 rfl ?_
        refine w_getR gz_201_100 t0 rd_10 rfl (fun v11 ev11 tv11 => ?_)
        have zv11 : v4 = v11 := (ev11.trans ((my_up_role fh9 t0 tv2 rfl).trans ev4.symm)).symm
        subst zv11
        refine w_bipush gz_201_103 (by decide) ?_
        refine w_iload_n gz_201_105 rfl ?_
        refine w_imul gz_201_106 ⟨by omega, by omega⟩ ?_
        refine w_iload gz_201_107 rfl ?_
        refine w_iadd gz_201_109 ⟨by omega, by omega⟩ ?_
        refine w_iald gz_201_110 tv4 rd_82 (by omega) (by omega) (fun v12 ev12 pv12 qv12 => ?_)
        refine w_iast gz_201_111 tv4 rd_82 (by omega) (by omega) (by omega) (by omega) (fun h13 fh13 => ?_)
        have gh13 : my_fr [(80, -1), (81, -1), (82, -1)] h h13 := my_fr.up gh9 tv4 fh13 rfl
        refine w_aload_n gz_201_112 rfl ?_
        refine w_getR gz_201_113 t0 rd_10 rfl (fun v14 ev14 tv14 => ?_)
        have zv14 : v2 = v14 := (ev14.trans ((my_up_role fh13 t0 tv4 rfl).trans ((my_up_role fh9 t0 tv2 rfl).trans ev2.symm))).symm
        subst zv14
        refine w_bipush gz_201_116 (by decide) ?_
        refine w_iload_n gz_201_118 rfl ?_
        refine w_imul gz_201_119 ⟨by omega, by omega⟩ ?_
        refine w_iload gz_201_120 rfl ?_
        refine w_iadd gz_201_122 ⟨by omega, by omega⟩ ?_
        refine w_iload gz_201_123 rfl ?_
        refine w_iast gz_201_125 tv2 rd_81 (by omega) (by omega) (by omega) (by omega) (fun h15 fh15 => ?_)
        have gh15 : my_fr [(80, -1), (81, -1), (82, -1)] h h15 := my_fr.up gh13 tv2 fh15 rfl
        refine w_aload_n gz_201_126 rfl ?_
        refine w_getR gz_201_127 t0 rd_10 rfl (fun v16 ev16 tv16 => ?_)
        have zv16 : v4 = v16 := (ev16.trans ((my_up_role fh15 t0 tv2 rfl).trans ((my_up_role fh13 t0 tv4 rfl).trans ((my_up_role fh9 t0 tv2 rfl).trans ev4.symm)))).symm
        subst zv16
        refine w_bipush gz_201_130 (by decide) ?_
        refine w_iload_n gz_201_132 rfl ?_
        refine w_imul gz_201_133 ⟨by omega, by omega⟩ ?_
        refine w_iload gz_201_134 rfl ?_
        refine w_iadd gz_201_136 ⟨by omega, by omega⟩ ?_
        refine w_iload gz_201_137 rfl ?_
        refine w_iast gz_201_139 tv4 rd_82 (by omega) (by omega) (by omega) (by omega) (fun h17 fh17 => ?_)
        have gh17 : my_fr [(80, -1), (81, -1), (82, -1)] h h17 := my_fr.up gh15 tv4 fh17 rfl
        refine w_iinc (ls' := [(2, x0), (0, x1), (0, x2), (0, p29_0), (0, (p29_1 + 1)), (0, v3), (0, v5)]) gz_201_140 rfl gm_201 rfl rfl rfl ⟨by omega, by omega⟩ ?_
        refine w_goto (t := 29) gz_201_143 rfl ?_
        refine w_weak (ls' := [(2, x0), (0, x1), (0, x2), (0, p29_0), (0, (p29_1 + 1)), (9, 0), (9, 0)]) (wk_e (wk_e (wk_e (wk_e (wk_e (wk_9 (wk_9 wk_n))))))) ?_
        exact ih_29_0 (p29_0) ((p29_1 + 1)) h17 (gh17) (by omega) (by omega) (by omega) (by omega) (by omega)
  refine w_aload_n gz_201_0 rfl ?_
  refine w_getR gz_201_1 t0 rd_10 rfl (fun v18 ev18 tv18 => ?_)
  refine w_iload_n gz_201_4 rfl ?_
  refine w_iald gz_201_5 tv18 rd_80 (by omega) (by omega) (fun v19 ev19 pv19 qv19 => ?_)
  refine w_istore_n (ls' := [(2, x0), (0, x1), (0, x2), (0, v19), (9, 0), (9, 0), (9, 0)]) gz_201_6 gm_201 rfl rfl rfl ?_
  refine w_aload_n gz_201_7 rfl ?_
  refine w_getR gz_201_8 t0 rd_10 rfl (fun v20 ev20 tv20 => ?_)
  have zv20 : v18 = v20 := (ev20.trans ev18.symm).symm
  subst zv20
  refine w_iload_n gz_201_11 rfl ?_
  refine w_aload_n gz_201_12 rfl ?_
  refine w_getR gz_201_13 t0 rd_10 rfl (fun v21 ev21 tv21 => ?_)
  have zv21 : v18 = v21 := (ev21.trans ev18.symm).symm
  subst zv21
  refine w_iload_n gz_201_16 rfl ?_
  refine w_iald gz_201_17 tv18 rd_80 (by omega) (by omega) (fun v22 ev22 pv22 qv22 => ?_)
  refine w_iast gz_201_18 tv18 rd_80 (by omega) (by omega) (by omega) (by omega) (fun h23 fh23 => ?_)
  have gh23 : my_fr [(80, -1), (81, -1), (82, -1)] h h23 := my_fr.up my_fr.rf tv18 fh23 rfl
  refine w_aload_n gz_201_19 rfl ?_
  refine w_getR gz_201_20 t0 rd_10 rfl (fun v24 ev24 tv24 => ?_)
  have zv24 : v18 = v24 := (ev24.trans ((my_up_role fh23 t0 tv18 rfl).trans ev18.symm)).symm
  subst zv24
  refine w_iload_n gz_201_23 rfl ?_
  refine w_iload_n gz_201_24 rfl ?_
  refine w_iast gz_201_25 tv18 rd_80 (by omega) (by omega) (by omega) (by omega) (fun h25 fh25 => ?_)
  have gh25 : my_fr [(80, -1), (81, -1), (82, -1)] h h25 := my_fr.up gh23 tv18 fh25 rfl
  refine w_iconst gz_201_26 (by decide) ?_
  refine w_istore (ls' := [(2, x0), (0, x1), (0, x2), (0, v19), (0, 0), (9, 0), (9, 0)]) gz_201_27 gm_201 rfl rfl rfl ?_
  exact J29_0 9 (v19) (0) h25 (gh25) (by omega) (by omega) (by omega) (by omega) (by omega)
theorem gz_206_0 : mz_pg 206 0 = some (.aload_n 0, 0, 0, 0) := by decide +kernel
theorem gz_206_1 : mz_pg 206 1 = some (.iconst 0, 0, 0, 0) := by decide +kernel
theorem gz_206_2 : mz_pg 206 2 = some (.putfield 1, 10, 0, 1213) := by decide +kernel
theorem gz_206_5 : mz_pg 206 5 = some (.iload_n 1, 0, 0, 0) := by decide +kernel
theorem gz_206_6 : mz_pg 206 6 = some (.iconst 0, 0, 0, 0) := by decide +kernel
theorem gz_206_7 : mz_pg 206 7 = some (.bipush 7, 0, 0, 0) := by decide +kernel
theorem gz_206_9 : mz_pg 206 9 = some (.invokestatic 250, 1, 147, 1419) := by decide +kernel
theorem gz_206_12 : mz_pg 206 12 = some (.ifCond .eq 13, 0, 0, 0) := by decide +kernel
theorem gz_206_15 : mz_pg 206 15 = some (.iload_n 2, 0, 0, 0) := by decide +kernel
theorem gz_206_16 : mz_pg 206 16 = some (.iconst 0, 0, 0, 0) := by decide +kernel
theorem gz_206_17 : mz_pg 206 17 = some (.bipush 19, 0, 0, 0) := by decide +kernel
theorem gz_206_19 : mz_pg 206 19 = some (.invokestatic 250, 1, 147, 1419) := by decide +kernel
theorem gz_206_22 : mz_pg 206 22 = some (.ifCond .ne 5, 0, 0, 0) := by decide +kernel
theorem gz_206_25 : mz_pg 206 25 = some (.iconst 0, 0, 0, 0) := by decide +kernel
theorem gz_206_26 : mz_pg 206 26 = some (.ireturn, 0, 0, 0) := by decide +kernel
theorem gz_206_27 : mz_pg 206 27 = some (.aload_n 0, 0, 0, 0) := by decide +kernel
theorem gz_206_28 : mz_pg 206 28 = some (.getfield 155, 10, 45, 1258) := by decide +kernel
theorem gz_206_31 : mz_pg 206 31 = some (.iload_n 1, 0, 0, 0) := by decide +kernel
theorem gz_206_32 : mz_pg 206 32 = some (.iload_n 2, 0, 0, 0) := by decide +kernel
theorem gz_206_33 : mz_pg 206 33 = some (.iastore, 0, 0, 0) := by decide +kernel
theorem gz_206_34 : mz_pg 206 34 = some (.iconst 1, 0, 0, 0) := by decide +kernel
theorem gz_206_35 : mz_pg 206 35 = some (.ireturn, 0, 0, 0) := by decide +kernel
theorem gm_206 : my_mm 206 3 (some .boolean) 2 10 := by unfold my_mm; decide +kernel
theorem rd_87 : my_rd 87 = .inl (0, 8, [(0, 0, 19)]) := rfl
theorem c29_Model_draft {l : Launch} {rho : Nat → Int32} {d : Nat} {h : my_H} {Q : my_H → my_V → Prop} {x0 x1 x2 : Int} (t0 : my_is 10 x0) (k0 : ∀ (h' : my_H), my_fr [(10, 0), (87, -1)] h h' → h' x0 ((0 : Nat) : Int) = 0 → Q h' (0, 0)) (k1 : ∀ (h' : my_H), my_fr [(10, 0), (87, -1)] h h' → 0 ≤ x1 → x1 ≤ 7 → 0 ≤ x2 → x2 ≤ 19 → h' x0 ((0 : Nat) : Int) = 0 → Q h' (0, 1)) : wp l rho (d + 1) 206 0 [(2, x0), (0, x1), (0, x2)] [] h Q := by
  refine w_aload_n gz_206_0 rfl ?_
  refine w_iconst gz_206_1 (by decide) ?_
  refine w_putI gz_206_2 t0 rd_10 rfl (by omega) (by omega) rfl (fun h1 fh1 => ?_)
  have gh1 : my_fr [(10, 0), (87, -1)] h h1 := my_fr.up my_fr.rf t0 fh1 rfl
  refine w_iload_n gz_206_5 rfl ?_
  refine w_iconst gz_206_6 (by decide) ?_
  refine w_bipush gz_206_7 (by decide) ?_
  refine w_inS (k := 0) (as := [(0, 7), (0, 0), (0, x1)]) (r := []) (ls0 := [(0, x1), (0, 0), (0, 7)]) gz_206_9 gm_147 rfl rfl rfl rfl rfl rfl ?_
  refine w_iload_n gz_147_0 rfl ?_
  refine w_iload_n gz_147_1 rfl ?_
  refine w_iclt (t := 14) gz_147_2 rfl (fun u2 => ?_) (fun u2 => ?_)
  ·
    refine w_iconst gz_147_14 (by decide) ?_
    refine w_bret gz_147_15 gm_147 (by omega) (by omega) ?_
    show wp l rho (d + 1) 206 12 [(2, x0), (0, x1), (0, x2)] [(0, 0)] h1 Q
    refine w_ifeq (t := 25) gz_206_12 rfl (fun u3 => ?_) (fun u3 => by exfalso; omega)
    refine w_iconst gz_206_25 (by decide) ?_
    have c4 := (my_up_self fh1)
    exact w_bret gz_206_26 gm_206 (by omega) (by omega) (k0 h1 (gh1) (by omega))
  ·
    refine w_iload_n gz_147_5 rfl ?_
    refine w_iload_n gz_147_6 rfl ?_
    refine w_icgt (t := 14) gz_147_7 rfl (fun u5 => ?_) (fun u5 => ?_)
    ·
      refine w_iconst gz_147_14 (by decide) ?_
      refine w_bret gz_147_15 gm_147 (by omega) (by omega) ?_
      show wp l rho (d + 1) 206 12 [(2, x0), (0, x1), (0, x2)] [(0, 0)] h1 Q
      refine w_ifeq (t := 25) gz_206_12 rfl (fun u6 => ?_) (fun u6 => by exfalso; omega)
      refine w_iconst gz_206_25 (by decide) ?_
      have c7 := (my_up_self fh1)
      exact w_bret gz_206_26 gm_206 (by omega) (by omega) (k0 h1 (gh1) (by omega))
    ·
      refine w_iconst gz_147_10 (by decide) ?_
      refine w_goto (t := 15) gz_147_11 rfl ?_
      refine w_bret gz_147_15 gm_147 (by omega) (by omega) ?_
      show wp l rho (d + 1) 206 12 [(2, x0), (0, x1), (0, x2)] [(0, 1)] h1 Q
      refine w_ifeq (t := 25) gz_206_12 rfl (fun u8 => by exfalso; omega) (fun u8 => ?_)
      refine w_iload_n gz_206_15 rfl ?_
      refine w_iconst gz_206_16 (by decide) ?_
      refine w_bipush gz_206_17 (by decide) ?_
      refine w_inS (k := 0) (as := [(0, 19), (0, 0), (0, x2)]) (r := []) (ls0 := [(0, x2), (0, 0), (0, 19)]) gz_206_19 gm_147 rfl rfl rfl rfl rfl rfl ?_
      refine w_iload_n gz_147_0 rfl ?_
      refine w_iload_n gz_147_1 rfl ?_
      refine w_iclt (t := 14) gz_147_2 rfl (fun u9 => ?_) (fun u9 => ?_)
      ·
        refine w_iconst gz_147_14 (by decide) ?_
        refine w_bret gz_147_15 gm_147 (by omega) (by omega) ?_
        show wp l rho (d + 1) 206 22 [(2, x0), (0, x1), (0, x2)] [(0, 0)] h1 Q
        refine w_ifne (t := 27) gz_206_22 rfl (fun u10 => by exfalso; omega) (fun u10 => ?_)
        refine w_iconst gz_206_25 (by decide) ?_
        have c11 := (my_up_self fh1)
        exact w_bret gz_206_26 gm_206 (by omega) (by omega) (k0 h1 (gh1) (by omega))
      ·
        refine w_iload_n gz_147_5 rfl ?_
        refine w_iload_n gz_147_6 rfl ?_
        refine w_icgt (t := 14) gz_147_7 rfl (fun u12 => ?_) (fun u12 => ?_)
        ·
          refine w_iconst gz_147_14 (by decide) ?_
          refine w_bret gz_147_15 gm_147 (by omega) (by omega) ?_
          show wp l rho (d + 1) 206 22 [(2, x0), (0, x1), (0, x2)] [(0, 0)] h1 Q
          refine w_ifne (t := 27) gz_206_22 rfl (fun u13 => by exfalso; omega) (fun u13 => ?_)
          refine w_iconst gz_206_25 (by decide) ?_
          have c14 := (my_up_self fh1)
          exact w_bret gz_206_26 gm_206 (by omega) (by omega) (k0 h1 (gh1) (by omega))
        ·
          refine w_iconst gz_147_10 (by decide) ?_
          refine w_goto (t := 15) gz_147_11 rfl ?_
          refine w_bret gz_147_15 gm_147 (by omega) (by omega) ?_
          show wp l rho (d + 1) 206 22 [(2, x0), (0, x1), (0, x2)] [(0, 1)] h1 Q
          refine w_ifne (t := 27) gz_206_22 rfl (fun u15 => ?_) (fun u15 => by exfalso; omega)
          refine w_aload_n gz_206_27 rfl ?_
          refine w_getR gz_206_28 t0 rd_10 rfl (fun v16 ev16 tv16 => ?_)
          refine w_iload_n gz_206_31 rfl ?_
          refine w_iload_n gz_206_32 rfl ?_
          refine w_iast gz_206_33 tv16 rd_87 (by omega) (by omega) (by omega) (by omega) (fun h17 fh17 => ?_)
          have gh17 : my_fr [(10, 0), (87, -1)] h h17 := my_fr.up gh1 tv16 fh17 rfl
          refine w_iconst gz_206_34 (by decide) ?_
          have c18 := ((my_up_role fh17 t0 tv16 rfl).trans (my_up_self fh1))
          exact w_bret gz_206_35 gm_206 (by omega) (by omega) (k1 h17 (gh17) (by omega) (by omega) (by omega) (by omega) (by omega))
theorem gz_21_0 : mz_pg 21 0 = some (.iconst 0, 0, 0, 0) := by decide +kernel
theorem gz_21_1 : mz_pg 21 1 = some (.istore 4, 0, 0, 0) := by decide +kernel
theorem gz_21_3 : mz_pg 21 3 = some (.iload 4, 0, 0, 0) := by decide +kernel
theorem gz_21_5 : mz_pg 21 5 = some (.bipush 20, 0, 0, 0) := by decide +kernel
theorem gz_21_7 : mz_pg 21 7 = some (.if_icmp .ge 47, 0, 0, 0) := by decide +kernel
theorem gz_21_10 : mz_pg 21 10 = some (.iload_n 1, 0, 0, 0) := by decide +kernel
theorem gz_21_11 : mz_pg 21 11 = some (.iload 4, 0, 0, 0) := by decide +kernel
theorem gz_21_13 : mz_pg 21 13 = some (.invokestatic 62, 2, 17, 5) := by decide +kernel
theorem gz_21_16 : mz_pg 21 16 = some (.istore 5, 0, 0, 0) := by decide +kernel
theorem gz_21_18 : mz_pg 21 18 = some (.aload_n 0, 0, 0, 0) := by decide +kernel
theorem gz_21_19 : mz_pg 21 19 = some (.getfield 65, 6, 0, 179) := by decide +kernel
theorem gz_21_22 : mz_pg 21 22 = some (.iload 5, 0, 0, 0) := by decide +kernel
theorem gz_21_24 : mz_pg 21 24 = some (.iaload, 0, 0, 0) := by decide +kernel
theorem gz_21_25 : mz_pg 21 25 = some (.iconst (-1), 0, 0, 0) := by decide +kernel
theorem gz_21_26 : mz_pg 21 26 = some (.if_icmp .eq 22, 0, 0, 0) := by decide +kernel
theorem gz_21_29 : mz_pg 21 29 = some (.aload_n 0, 0, 0, 0) := by decide +kernel
theorem gz_21_30 : mz_pg 21 30 = some (.iload_n 3, 0, 0, 0) := by decide +kernel
theorem gz_21_31 : mz_pg 21 31 = some (.aload_n 0, 0, 0, 0) := by decide +kernel
theorem gz_21_32 : mz_pg 21 32 = some (.getfield 65, 6, 0, 179) := by decide +kernel
theorem gz_21_35 : mz_pg 21 35 = some (.iload 5, 0, 0, 0) := by decide +kernel
theorem gz_21_37 : mz_pg 21 37 = some (.iload_n 2, 0, 0, 0) := by decide +kernel
theorem gz_21_38 : mz_pg 21 38 = some (.iadd, 0, 0, 0) := by decide +kernel
theorem gz_21_39 : mz_pg 21 39 = some (.iaload, 0, 0, 0) := by decide +kernel
theorem gz_21_40 : mz_pg 21 40 = some (.invokevirtual 54, 1, 15, 614) := by decide +kernel
theorem gz_21_43 : mz_pg 21 43 = some (.ifCond .ne 5, 0, 0, 0) := by decide +kernel
theorem gz_21_46 : mz_pg 21 46 = some (.iconst 0, 0, 0, 0) := by decide +kernel
theorem gz_21_47 : mz_pg 21 47 = some (.ireturn, 0, 0, 0) := by decide +kernel
theorem gz_21_48 : mz_pg 21 48 = some (.iinc 4 1, 0, 0, 0) := by decide +kernel
theorem gz_21_51 : mz_pg 21 51 = some (.goto (-48), 0, 0, 0) := by decide +kernel
theorem gz_21_54 : mz_pg 21 54 = some (.iconst 1, 0, 0, 0) := by decide +kernel
theorem gz_21_55 : mz_pg 21 55 = some (.ireturn, 0, 0, 0) := by decide +kernel
theorem gm_21 : my_mm 21 6 (some .boolean) 4 3 := by unfold my_mm; decide +kernel
theorem c30_Laws_namesKeys {l : Launch} {rho : Nat → Int32} {d : Nat} {h : my_H} {Q : my_H → my_V → Prop} {x0 x1 x2 x3 : Int} (t0 : my_is 6 x0) (a1 : 0 ≤ x1) (b1 : x1 ≤ 2) (a2 : 0 ≤ x2) (b2 : x2 ≤ 3) (a3 : 0 ≤ x3) (b3 : x3 ≤ 2) (k0 : Q h (0, 0)) (k1 : Q h (0, 1)) : wp l rho (d + 1) 21 0 [(2, x0), (0, x1), (0, x2), (0, x3), (9, 0), (9, 0)] [] h Q := by
  have J3_0 : ∀ (n : Nat) (p3_0 : Int), 0 ≤ p3_0 → p3_0 ≤ 20 → 21 - p3_0 ≤ (n : Int) → wp l rho (d + 1) 21 3 [(2, x0), (0, x1), (0, x2), (0, x3), (0, p3_0), (9, 0)] [] h Q := by
    intro n
    induction n with
    | zero => intro p3_0 q0_3_0 q1_3_0 hm_3_0; exfalso; omega
    | succ n ih_3_0 =>
      intro p3_0 q0_3_0 q1_3_0 hm_3_0
      have J48_0 : ∀ (p48_0 : Int), p3_0 ≤ 19 → 0 ≤ p48_0 → p48_0 ≤ 236 → wp l rho (d + 1) 21 48 [(2, x0), (0, x1), (0, x2), (0, x3), (0, p3_0), (0, p48_0)] [] h Q := by
        intro p48_0 q0_48_0 q1_48_0 q2_48_0
        refine w_iinc (ls' := [(2, x0), (0, x1), (0, x2), (0, x3), (0, (p3_0 + 1)), (0, p48_0)]) gz_21_48 rfl gm_21 rfl rfl rfl ⟨by omega, by omega⟩ ?_
        refine w_goto (t := 3) gz_21_51 rfl ?_
        refine w_weak (ls' := [(2, x0), (0, x1), (0, x2), (0, x3), (0, (p3_0 + 1)), (9, 0)]) (wk_e (wk_e (wk_e (wk_e (wk_e (wk_9 wk_n)))))) ?_
        exact ih_3_0 ((p3_0 + 1)) (by omega) (by omega) (by omega)
      refine w_iload gz_21_3 rfl ?_
      refine w_bipush gz_21_5 (by decide) ?_
      refine w_icge (t := 54) gz_21_7 rfl (fun u1 => ?_) (fun u1 => ?_)
      ·
        refine w_iconst gz_21_54 (by decide) ?_
        exact w_bret gz_21_55 gm_21 (by omega) (by omega) (k1 )
      ·
        refine w_iload_n gz_21_10 rfl ?_
        refine w_iload gz_21_11 rfl ?_
        refine w_inS (k := 0) (as := [(0, p3_0), (0, x1)]) (r := []) (ls0 := [(0, x1), (0, p3_0)]) gz_21_13 gm_17 rfl rfl rfl rfl rfl rfl ?_
        refine w_iload_n gz_17_0 rfl ?_
        refine w_bipush gz_17_1 (by decide) ?_
        refine w_imul gz_17_3 ⟨by omega, by omega⟩ ?_
        refine w_iload_n gz_17_4 rfl ?_
        refine w_iadd gz_17_5 ⟨by omega, by omega⟩ ?_
        refine w_iconst gz_17_6 (by decide) ?_
        refine w_imul gz_17_7 ⟨by omega, by omega⟩ ?_
        refine w_iret gz_17_8 gm_17 ?_
        show wp l rho (d + 1) 21 16 [(2, x0), (0, x1), (0, x2), (0, x3), (0, p3_0), (9, 0)] [(0, (((x1 * 20) + p3_0) * 4))] h Q
        refine w_istore (ls' := [(2, x0), (0, x1), (0, x2), (0, x3), (0, p3_0), (0, (((x1 * 20) + p3_0) * 4))]) gz_21_16 gm_21 rfl rfl rfl ?_
        refine w_aload_n gz_21_18 rfl ?_
        refine w_getR gz_21_19 t0 rd_6 rfl (fun v2 ev2 tv2 => ?_)
        refine w_iload gz_21_22 rfl ?_
        refine w_iald gz_21_24 tv2 rd_30 (by omega) (by omega) (fun v3 ev3 pv3 qv3 => ?_)
        refine w_iconst gz_21_25 (by decide) ?_
        refine w_iceq (t := 48) gz_21_26 rfl (fun u4 => ?_) (fun u4 => ?_)
        ·
          exact J48_0 ((((x1 * 20) + p3_0) * 4)) (by omega) (by omega) (by omega)
        ·
          refine w_aload_n gz_21_29 rfl ?_
          refine w_iload_n gz_21_30 rfl ?_
          refine w_aload_n gz_21_31 rfl ?_
          refine w_getR gz_21_32 t0 rd_6 rfl (fun v5 ev5 tv5 => ?_)
          have zv5 : v2 = v5 := (ev5.trans ev2.symm).symm
          subst zv5
          refine w_iload gz_21_35 rfl ?_
          refine w_iload_n gz_21_37 rfl ?_
          refine w_iadd gz_21_38 ⟨by omega, by omega⟩ ?_
          refine w_iald gz_21_39 tv2 rd_30 (by omega) (by omega) (fun v6 ev6 pv6 qv6 => ?_)
          refine w_inv (k := 0) (as := [(0, v6), (0, x3)]) (r := []) (x := x0) (ls0 := [(2, x0), (0, x3), (0, v6)]) gz_21_40 gm_15 rfl t0 rd_6 rfl rfl rfl rfl rfl ?_
          refine w_iload_n gz_15_0 rfl ?_
          refine w_iflt (t := 31) gz_15_1 rfl (fun u7 => ?_) (fun u7 => ?_)
          ·
            refine w_iconst gz_15_31 (by decide) ?_
            refine w_bret gz_15_32 gm_15 (by omega) (by omega) ?_
            show wp l rho (d + 1) 21 43 [(2, x0), (0, x1), (0, x2), (0, x3), (0, p3_0), (0, (((x1 * 20) + p3_0) * 4))] [(0, 0)] h Q
            refine w_ifne (t := 48) gz_21_43 rfl (fun u8 => by exfalso; omega) (fun u8 => ?_)
            refine w_iconst gz_21_46 (by decide) ?_
            exact w_bret gz_21_47 gm_21 (by omega) (by omega) (k0 )
          ·
            refine w_iload_n gz_15_4 rfl ?_
            refine w_bipush gz_15_5 (by decide) ?_
            refine w_icge (t := 31) gz_15_7 rfl (fun u9 => by exfalso; omega) (fun u9 => ?_)
            refine w_aload_n gz_15_10 rfl ?_
            refine w_getR gz_15_11 t0 rd_6 rfl (fun v10 ev10 tv10 => ?_)
            have zv10 : v2 = v10 := (ev10.trans ev2.symm).symm
            subst zv10
            refine w_iload_n gz_15_14 rfl ?_
            refine w_bipush gz_15_15 (by decide) ?_
            refine w_imul gz_15_17 ⟨by omega, by omega⟩ ?_
            refine w_iload_n gz_15_18 rfl ?_
            refine w_iadd gz_15_19 ⟨by omega, by omega⟩ ?_
            refine w_iconst gz_15_20 (by decide) ?_
            refine w_imul gz_15_21 ⟨by omega, by omega⟩ ?_
            refine w_iald gz_15_22 tv2 rd_30 (by omega) (by omega) (fun v11 ev11 pv11 qv11 => ?_)
            refine w_iconst gz_15_23 (by decide) ?_
            refine w_iceq (t := 31) gz_15_24 rfl (fun u12 => ?_) (fun u12 => ?_)
            ·
              refine w_iconst gz_15_31 (by decide) ?_
              refine w_bret gz_15_32 gm_15 (by omega) (by omega) ?_
              show wp l rho (d + 1) 21 43 [(2, x0), (0, x1), (0, x2), (0, x3), (0, p3_0), (0, (((x1 * 20) + p3_0) * 4))] [(0, 0)] h Q
              refine w_ifne (t := 48) gz_21_43 rfl (fun u13 => by exfalso; omega) (fun u13 => ?_)
              refine w_iconst gz_21_46 (by decide) ?_
              exact w_bret gz_21_47 gm_21 (by omega) (by omega) (k0 )
            ·
              refine w_iconst gz_15_27 (by decide) ?_
              refine w_goto (t := 32) gz_15_28 rfl ?_
              refine w_bret gz_15_32 gm_15 (by omega) (by omega) ?_
              show wp l rho (d + 1) 21 43 [(2, x0), (0, x1), (0, x2), (0, x3), (0, p3_0), (0, (((x1 * 20) + p3_0) * 4))] [(0, 1)] h Q
              refine w_ifne (t := 48) gz_21_43 rfl (fun u14 => ?_) (fun u14 => by exfalso; omega)
              exact J48_0 ((((x1 * 20) + p3_0) * 4)) (by omega) (by omega) (by omega)
  refine w_iconst gz_21_0 (by decide) ?_
  refine w_istore (ls' := [(2, x0), (0, x1), (0, x2), (0, x3), (0, 0), (9, 0)]) gz_21_1 gm_21 rfl rfl rfl ?_
  exact J3_0 21 (0) (by omega) (by omega) (by omega)
theorem gz_211_0 : mz_pg 211 0 = some (.iconst 0, 0, 0, 0) := by decide +kernel
theorem gz_211_1 : mz_pg 211 1 = some (.istore_n 3, 0, 0, 0) := by decide +kernel
theorem gz_211_2 : mz_pg 211 2 = some (.iload_n 3, 0, 0, 0) := by decide +kernel
theorem gz_211_3 : mz_pg 211 3 = some (.aload_n 0, 0, 0, 0) := by decide +kernel
theorem gz_211_4 : mz_pg 211 4 = some (.getfield 299, 10, 27, 1240) := by decide +kernel
theorem gz_211_7 : mz_pg 211 7 = some (.if_icmp .ge 65, 0, 0, 0) := by decide +kernel
theorem gz_211_10 : mz_pg 211 10 = some (.aload_n 0, 0, 0, 0) := by decide +kernel
theorem gz_211_11 : mz_pg 211 11 = some (.getfield 158, 10, 47, 1260) := by decide +kernel
theorem gz_211_14 : mz_pg 211 14 = some (.bipush 8, 0, 0, 0) := by decide +kernel
theorem gz_211_16 : mz_pg 211 16 = some (.iload_n 1, 0, 0, 0) := by decide +kernel
theorem gz_211_17 : mz_pg 211 17 = some (.imul, 0, 0, 0) := by decide +kernel
theorem gz_211_18 : mz_pg 211 18 = some (.iload_n 3, 0, 0, 0) := by decide +kernel
theorem gz_211_19 : mz_pg 211 19 = some (.iadd, 0, 0, 0) := by decide +kernel
theorem gz_211_20 : mz_pg 211 20 = some (.iaload, 0, 0, 0) := by decide +kernel
theorem gz_211_21 : mz_pg 211 21 = some (.aload_n 0, 0, 0, 0) := by decide +kernel
theorem gz_211_22 : mz_pg 211 22 = some (.getfield 158, 10, 47, 1260) := by decide +kernel
theorem gz_211_25 : mz_pg 211 25 = some (.bipush 8, 0, 0, 0) := by decide +kernel
theorem gz_211_27 : mz_pg 211 27 = some (.iload_n 2, 0, 0, 0) := by decide +kernel
theorem gz_211_28 : mz_pg 211 28 = some (.imul, 0, 0, 0) := by decide +kernel
theorem gz_211_29 : mz_pg 211 29 = some (.iload_n 3, 0, 0, 0) := by decide +kernel
theorem gz_211_30 : mz_pg 211 30 = some (.iadd, 0, 0, 0) := by decide +kernel
theorem gz_211_31 : mz_pg 211 31 = some (.iaload, 0, 0, 0) := by decide +kernel
theorem gz_211_32 : mz_pg 211 32 = some (.if_icmp .eq 34, 0, 0, 0) := by decide +kernel
theorem gz_211_35 : mz_pg 211 35 = some (.aload_n 0, 0, 0, 0) := by decide +kernel
theorem gz_211_36 : mz_pg 211 36 = some (.getfield 158, 10, 47, 1260) := by decide +kernel
theorem gz_211_39 : mz_pg 211 39 = some (.bipush 8, 0, 0, 0) := by decide +kernel
theorem gz_211_41 : mz_pg 211 41 = some (.iload_n 1, 0, 0, 0) := by decide +kernel
theorem gz_211_42 : mz_pg 211 42 = some (.imul, 0, 0, 0) := by decide +kernel
theorem gz_211_43 : mz_pg 211 43 = some (.iload_n 3, 0, 0, 0) := by decide +kernel
theorem gz_211_44 : mz_pg 211 44 = some (.iadd, 0, 0, 0) := by decide +kernel
theorem gz_211_45 : mz_pg 211 45 = some (.iaload, 0, 0, 0) := by decide +kernel
theorem gz_211_46 : mz_pg 211 46 = some (.aload_n 0, 0, 0, 0) := by decide +kernel
theorem gz_211_47 : mz_pg 211 47 = some (.getfield 158, 10, 47, 1260) := by decide +kernel
theorem gz_211_50 : mz_pg 211 50 = some (.bipush 8, 0, 0, 0) := by decide +kernel
theorem gz_211_52 : mz_pg 211 52 = some (.iload_n 2, 0, 0, 0) := by decide +kernel
theorem gz_211_53 : mz_pg 211 53 = some (.imul, 0, 0, 0) := by decide +kernel
theorem gz_211_54 : mz_pg 211 54 = some (.iload_n 3, 0, 0, 0) := by decide +kernel
theorem gz_211_55 : mz_pg 211 55 = some (.iadd, 0, 0, 0) := by decide +kernel
theorem gz_211_56 : mz_pg 211 56 = some (.iaload, 0, 0, 0) := by decide +kernel
theorem gz_211_57 : mz_pg 211 57 = some (.if_icmp .ge 7, 0, 0, 0) := by decide +kernel
theorem gz_211_60 : mz_pg 211 60 = some (.iconst 1, 0, 0, 0) := by decide +kernel
theorem gz_211_61 : mz_pg 211 61 = some (.goto 4, 0, 0, 0) := by decide +kernel
theorem gz_211_64 : mz_pg 211 64 = some (.iconst 0, 0, 0, 0) := by decide +kernel
theorem gz_211_65 : mz_pg 211 65 = some (.ireturn, 0, 0, 0) := by decide +kernel
theorem gz_211_66 : mz_pg 211 66 = some (.iinc 3 1, 0, 0, 0) := by decide +kernel
theorem gz_211_69 : mz_pg 211 69 = some (.goto (-67), 0, 0, 0) := by decide +kernel
theorem gz_211_72 : mz_pg 211 72 = some (.iconst 0, 0, 0, 0) := by decide +kernel
theorem gz_211_73 : mz_pg 211 73 = some (.ireturn, 0, 0, 0) := by decide +kernel
theorem gm_211 : my_mm 211 4 (some .boolean) 2 10 := by unfold my_mm; decide +kernel
theorem rd_88 : my_rd 88 = .inl (0, 88, [(0, 0, 2147483647)]) := rfl
theorem c31_Model_isLess {l : Launch} {rho : Nat → Int32} {d : Nat} {h : my_H} {Q : my_H → my_V → Prop} {x0 x1 x2 : Int} (t0 : my_is 10 x0) (a1 : 1 ≤ x1) (b1 : x1 ≤ 10) (a2 : 0 ≤ x2) (b2 : x2 ≤ 9) (k0 : Q h (0, 0)) (k1 : 1 ≤ h x0 ((27 : Nat) : Int) → h x0 ((27 : Nat) : Int) ≤ 8 → Q h (0, 1)) : wp l rho d 211 0 [(2, x0), (0, x1), (0, x2), (9, 0)] [] h Q := by
  have J2_0 : ∀ (n : Nat) (p2_0 : Int), 0 ≤ p2_0 → p2_0 ≤ 8 → 9 - p2_0 ≤ (n : Int) → wp l rho d 211 2 [(2, x0), (0, x1), (0, x2), (0, p2_0)] [] h Q := by
    intro n
    induction n with
    | zero => intro p2_0 q0_2_0 q1_2_0 hm_2_0; exfalso; omega
    | succ n ih_2_0 =>
      intro p2_0 q0_2_0 q1_2_0 hm_2_0
      refine w_iload_n gz_211_2 rfl ?_
      refine w_aload_n gz_211_3 rfl ?_
      refine w_getI gz_211_4 t0 rd_10 rfl (fun v1 ev1 pv1 qv1 => ?_)
      refine w_icge (t := 72) gz_211_7 rfl (fun u2 => ?_) (fun u2 => ?_)
      ·
        refine w_iconst gz_211_72 (by decide) ?_
        exact w_bret gz_211_73 gm_211 (by omega) (by omega) (k0 )
      ·
        refine w_aload_n gz_211_10 rfl ?_
        refine w_getR gz_211_11 t0 rd_10 rfl (fun v3 ev3 tv3 => ?_)
        refine w_bipush gz_211_14 (by decide) ?_
        refine w_iload_n gz_211_16 rfl ?_
        refine w_imul gz_211_17 ⟨by omega, by omega⟩ ?_
        refine w_iload_n gz_211_18 rfl ?_
        refine w_iadd gz_211_19 ⟨by omega, by omega⟩ ?_
        refine w_iald gz_211_20 tv3 rd_88 (by omega) (by omega) (fun v4 ev4 pv4 qv4 => ?_)
        refine w_aload_n gz_211_21 rfl ?_
        refine w_getR gz_211_22 t0 rd_10 rfl (fun v5 ev5 tv5 => ?_)
        have zv5 : v3 = v5 := (ev5.trans ev3.symm).symm
        subst zv5
        refine w_bipush gz_211_25 (by decide) ?_
        refine w_iload_n gz_211_27 rfl ?_
        refine w_imul gz_211_28 ⟨by omega, by omega⟩ ?_
        refine w_iload_n gz_211_29 rfl ?_
        refine w_iadd gz_211_30 ⟨by omega, by omega⟩ ?_
        refine w_iald gz_211_31 tv3 rd_88 (by omega) (by omega) (fun v6 ev6 pv6 qv6 => ?_)
        refine w_iceq (t := 66) gz_211_32 rfl (fun u7 => ?_) (fun u7 => ?_)
        ·
          refine w_iinc (ls' := [(2, x0), (0, x1), (0, x2), (0, (p2_0 + 1))]) gz_211_66 rfl gm_211 rfl rfl rfl ⟨by omega, by omega⟩ ?_
          refine w_goto (t := 2) gz_211_69 rfl ?_
          exact ih_2_0 ((p2_0 + 1)) (by omega) (by omega) (by omega)
        ·
          refine w_aload_n gz_211_35 rfl ?_
          refine w_getR gz_211_36 t0 rd_10 rfl (fun v8 ev8 tv8 => ?_)
          have zv8 : v3 = v8 := (ev8.trans ev3.symm).symm
          subst zv8
          refine w_bipush gz_211_39 (by decide) ?_
          refine w_iload_n gz_211_41 rfl ?_
          refine w_imul gz_211_42 ⟨by omega, by omega⟩ ?_
          refine w_iload_n gz_211_43 rfl ?_
          refine w_iadd gz_211_44 ⟨by omega, by omega⟩ ?_
          refine w_iald gz_211_45 tv3 rd_88 (by omega) (by omega) (fun v9 ev9 pv9 qv9 => ?_)
          refine w_aload_n gz_211_46 rfl ?_
          refine w_getR gz_211_47 t0 rd_10 rfl (fun v10 ev10 tv10 => ?_)
          have zv10 : v3 = v10 := (ev10.trans ev3.symm).symm
          subst zv10
          refine w_bipush gz_211_50 (by decide) ?_
          refine w_iload_n gz_211_52 rfl ?_
          refine w_imul gz_211_53 ⟨by omega, by omega⟩ ?_
          refine w_iload_n gz_211_54 rfl ?_
          refine w_iadd gz_211_55 ⟨by omega, by omega⟩ ?_
          refine w_iald gz_211_56 tv3 rd_88 (by omega) (by omega) (fun v11 ev11 pv11 qv11 => ?_)
          refine w_icge (t := 64) gz_211_57 rfl (fun u12 => ?_) (fun u12 => ?_)
          ·
            refine w_iconst gz_211_64 (by decide) ?_
            exact w_bret gz_211_65 gm_211 (by omega) (by omega) (k0 )
          ·
            refine w_iconst gz_211_60 (by decide) ?_
            refine w_goto (t := 65) gz_211_61 rfl ?_
            have c13 := ev1.symm
            exact w_bret gz_211_65 gm_211 (by omega) (by omega) (k1 (by omega) (by omega))
  refine w_iconst gz_211_0 (by decide) ?_
  refine w_istore_n (ls' := [(2, x0), (0, x1), (0, x2), (0, 0)]) gz_211_1 gm_211 rfl rfl rfl ?_
  exact J2_0 9 (0) (by omega) (by omega) (by omega)
theorem gz_212_0 : mz_pg 212 0 = some (.iconst 0, 0, 0, 0) := by decide +kernel
theorem gz_212_1 : mz_pg 212 1 = some (.istore_n 3, 0, 0, 0) := by decide +kernel
theorem gz_212_2 : mz_pg 212 2 = some (.iload_n 3, 0, 0, 0) := by decide +kernel
theorem gz_212_3 : mz_pg 212 3 = some (.aload_n 0, 0, 0, 0) := by decide +kernel
theorem gz_212_4 : mz_pg 212 4 = some (.getfield 299, 10, 27, 1240) := by decide +kernel
theorem gz_212_7 : mz_pg 212 7 = some (.if_icmp .ge 57, 0, 0, 0) := by decide +kernel
theorem gz_212_10 : mz_pg 212 10 = some (.aload_n 0, 0, 0, 0) := by decide +kernel
theorem gz_212_11 : mz_pg 212 11 = some (.getfield 158, 10, 47, 1260) := by decide +kernel
theorem gz_212_14 : mz_pg 212 14 = some (.bipush 8, 0, 0, 0) := by decide +kernel
theorem gz_212_16 : mz_pg 212 16 = some (.iload_n 1, 0, 0, 0) := by decide +kernel
theorem gz_212_17 : mz_pg 212 17 = some (.imul, 0, 0, 0) := by decide +kernel
theorem gz_212_18 : mz_pg 212 18 = some (.iload_n 3, 0, 0, 0) := by decide +kernel
theorem gz_212_19 : mz_pg 212 19 = some (.iadd, 0, 0, 0) := by decide +kernel
theorem gz_212_20 : mz_pg 212 20 = some (.iaload, 0, 0, 0) := by decide +kernel
theorem gz_212_21 : mz_pg 212 21 = some (.istore 4, 0, 0, 0) := by decide +kernel
theorem gz_212_23 : mz_pg 212 23 = some (.aload_n 0, 0, 0, 0) := by decide +kernel
theorem gz_212_24 : mz_pg 212 24 = some (.getfield 158, 10, 47, 1260) := by decide +kernel
theorem gz_212_27 : mz_pg 212 27 = some (.bipush 8, 0, 0, 0) := by decide +kernel
theorem gz_212_29 : mz_pg 212 29 = some (.iload_n 1, 0, 0, 0) := by decide +kernel
theorem gz_212_30 : mz_pg 212 30 = some (.imul, 0, 0, 0) := by decide +kernel
theorem gz_212_31 : mz_pg 212 31 = some (.iload_n 3, 0, 0, 0) := by decide +kernel
theorem gz_212_32 : mz_pg 212 32 = some (.iadd, 0, 0, 0) := by decide +kernel
theorem gz_212_33 : mz_pg 212 33 = some (.aload_n 0, 0, 0, 0) := by decide +kernel
theorem gz_212_34 : mz_pg 212 34 = some (.getfield 158, 10, 47, 1260) := by decide +kernel
theorem gz_212_37 : mz_pg 212 37 = some (.bipush 8, 0, 0, 0) := by decide +kernel
theorem gz_212_39 : mz_pg 212 39 = some (.iload_n 2, 0, 0, 0) := by decide +kernel
theorem gz_212_40 : mz_pg 212 40 = some (.imul, 0, 0, 0) := by decide +kernel
theorem gz_212_41 : mz_pg 212 41 = some (.iload_n 3, 0, 0, 0) := by decide +kernel
theorem gz_212_42 : mz_pg 212 42 = some (.iadd, 0, 0, 0) := by decide +kernel
theorem gz_212_43 : mz_pg 212 43 = some (.iaload, 0, 0, 0) := by decide +kernel
theorem gz_212_44 : mz_pg 212 44 = some (.iastore, 0, 0, 0) := by decide +kernel
theorem gz_212_45 : mz_pg 212 45 = some (.aload_n 0, 0, 0, 0) := by decide +kernel
theorem gz_212_46 : mz_pg 212 46 = some (.getfield 158, 10, 47, 1260) := by decide +kernel
theorem gz_212_49 : mz_pg 212 49 = some (.bipush 8, 0, 0, 0) := by decide +kernel
theorem gz_212_51 : mz_pg 212 51 = some (.iload_n 2, 0, 0, 0) := by decide +kernel
theorem gz_212_52 : mz_pg 212 52 = some (.imul, 0, 0, 0) := by decide +kernel
theorem gz_212_53 : mz_pg 212 53 = some (.iload_n 3, 0, 0, 0) := by decide +kernel
theorem gz_212_54 : mz_pg 212 54 = some (.iadd, 0, 0, 0) := by decide +kernel
theorem gz_212_55 : mz_pg 212 55 = some (.iload 4, 0, 0, 0) := by decide +kernel
theorem gz_212_57 : mz_pg 212 57 = some (.iastore, 0, 0, 0) := by decide +kernel
theorem gz_212_58 : mz_pg 212 58 = some (.iinc 3 1, 0, 0, 0) := by decide +kernel
theorem gz_212_61 : mz_pg 212 61 = some (.goto (-59), 0, 0, 0) := by decide +kernel
theorem gz_212_64 : mz_pg 212 64 = some (.return_, 0, 0, 0) := by decide +kernel
theorem gm_212 : my_mm 212 5 none 2 10 := by unfold my_mm; decide +kernel
theorem c32_Model_exchanges {l : Launch} {rho : Nat → Int32} {d : Nat} {h : my_H} {Q : my_H → my_V → Prop} {x0 x1 x2 : Int} (t0 : my_is 10 x0) (a1 : 0 ≤ x1) (b1 : x1 ≤ 9) (a2 : 1 ≤ x2) (b2 : x2 ≤ 10) (k0 : ∀ (h' : my_H), my_fr [(88, -1)] h h' → Q h' (9, 0)) : wp l rho d 212 0 [(2, x0), (0, x1), (0, x2), (9, 0), (9, 0)] [] h Q := by
  have J2_0 : ∀ (n : Nat) (p2_0 : Int) (h2_0 : my_H), my_fr [(88, -1)] h h2_0 → 0 ≤ p2_0 → p2_0 ≤ 8 → 9 - p2_0 ≤ (n : Int) → wp l rho d 212 2 [(2, x0), (0, x1), (0, x2), (0, p2_0), (9, 0)] [] h2_0 Q := by
    intro n
    induction n with
    | zero => intro p2_0 h2_0 gh_2_0 q0_2_0 q1_2_0 hm_2_0; exfalso; omega
    | succ n ih_2_0 =>
      intro p2_0 h2_0 gh_2_0 q0_2_0 q1_2_0 hm_2_0
      refine w_iload_n gz_212_2 rfl ?_
      refine w_aload_n gz_212_3 rfl ?_
      refine w_getI gz_212_4 t0 rd_10 rfl (fun v1 ev1 pv1 qv1 => ?_)
      refine w_icge (t := 64) gz_212_7 rfl (fun u2 => ?_) (fun u2 => ?_)
      ·
        exact w_vret gz_212_64 gm_212 (k0 h2_0 (gh_2_0))
      ·
        refine w_aload_n gz_212_10 rfl ?_
        refine w_getR gz_212_11 t0 rd_10 rfl (fun v3 ev3 tv3 => ?_)
        refine w_bipush gz_212_14 (by decide) ?_
        refine w_iload_n gz_212_16 rfl ?_
        refine w_imul gz_212_17 ⟨by omega, by omega⟩ ?_
        refine w_iload_n gz_212_18 rfl ?_
        refine w_iadd gz_212_19 ⟨by omega, by omega⟩ ?_
        refine w_iald gz_212_20 tv3 rd_88 (by omega) (by omega) (fun v4 ev4 pv4 qv4 => ?_)
        refine w_istore (ls' := [(2, x0), (0, x1), (0, x2), (0, p2_0), (0, v4)]) gz_212_21 gm_212 rfl rfl rfl ?_
        refine w_aload_n gz_212_23 rfl ?_
        refine w_getR gz_212_24 t0 rd_10 rfl (fun v5 ev5 tv5 => ?_)
        have zv5 : v3 = v5 := (ev5.trans ev3.symm).symm
        subst zv5
        refine w_bipush gz_212_27 (by decide) ?_
        refine w_iload_n gz_212_29 rfl ?_
        refine w_imul gz_212_30 ⟨by omega, by omega⟩ ?_
        refine w_iload_n gz_212_31 rfl ?_
        refine w_iadd gz_212_32 ⟨by omega, by omega⟩ ?_
        refine w_aload_n gz_212_33 rfl ?_
        refine w_getR gz_212_34 t0 rd_10 rfl (fun v6 ev6 tv6 => ?_)
        have zv6 : v3 = v6 := (ev6.trans ev3.symm).symm
        subst zv6
        refine w_bipush gz_212_37 (by decide) ?_
        refine w_iload_n gz_212_39 rfl ?_
        refine w_imul gz_212_40 ⟨by omega, by omega⟩ ?_
        refine w_iload_n gz_212_41 rfl ?_
        refine w_iadd gz_212_42 ⟨by omega, by omega⟩ ?_
        refine w_iald gz_212_43 tv3 rd_88 (by omega) (by omega) (fun v7 ev7 pv7 qv7 => ?_)
        refine w_iast gz_212_44 tv3 rd_88 (by omega) (by omega) (by omega) (by omega) (fun h8 fh8 => ?_)
        have gh8 : my_fr [(88, -1)] h h8 := my_fr.up gh_2_0 tv3 fh8 rfl
        refine w_aload_n gz_212_45 rfl ?_
        refine w_getR gz_212_46 t0 rd_10 rfl (fun v9 ev9 tv9 => ?_)
        have zv9 : v3 = v9 := (ev9.trans ((my_up_role fh8 t0 tv3 rfl).trans ev3.symm)).symm
        subst zv9
        refine w_bipush gz_212_49 (by decide) ?_
        refine w_iload_n gz_212_51 rfl ?_
        refine w_imul gz_212_52 ⟨by omega, by omega⟩ ?_
        refine w_iload_n gz_212_53 rfl ?_
        refine w_iadd gz_212_54 ⟨by omega, by omega⟩ ?_
        refine w_iload gz_212_55 rfl ?_
        refine w_iast gz_212_57 tv3 rd_88 (by omega) (by omega) (by omega) (by omega) (fun h10 fh10 => ?_)
        have gh10 : my_fr [(88, -1)] h h10 := my_fr.up gh8 tv3 fh10 rfl
        refine w_iinc (ls' := [(2, x0), (0, x1), (0, x2), (0, (p2_0 + 1)), (0, v4)]) gz_212_58 rfl gm_212 rfl rfl rfl ⟨by omega, by omega⟩ ?_
        refine w_goto (t := 2) gz_212_61 rfl ?_
        refine w_weak (ls' := [(2, x0), (0, x1), (0, x2), (0, (p2_0 + 1)), (9, 0)]) (wk_e (wk_e (wk_e (wk_e (wk_9 wk_n))))) ?_
        exact ih_2_0 ((p2_0 + 1)) h10 (gh10) (by omega) (by omega) (by omega)
  refine w_iconst gz_212_0 (by decide) ?_
  refine w_istore_n (ls' := [(2, x0), (0, x1), (0, x2), (0, 0), (9, 0)]) gz_212_1 gm_212 rfl rfl rfl ?_
  exact J2_0 9 (0) h (my_fr.rf) (by omega) (by omega) (by omega)
theorem gz_218_0 : mz_pg 218 0 = some (.aload_n 0, 0, 0, 0) := by decide +kernel
theorem gz_218_1 : mz_pg 218 1 = some (.getfield 293, 10, 32, 1245) := by decide +kernel
theorem gz_218_4 : mz_pg 218 4 = some (.iconst 1, 0, 0, 0) := by decide +kernel
theorem gz_218_5 : mz_pg 218 5 = some (.isub, 0, 0, 0) := by decide +kernel
theorem gz_218_6 : mz_pg 218 6 = some (.istore_n 2, 0, 0, 0) := by decide +kernel
theorem gz_218_7 : mz_pg 218 7 = some (.iload_n 2, 0, 0, 0) := by decide +kernel
theorem gz_218_8 : mz_pg 218 8 = some (.ifCond .lt 43, 0, 0, 0) := by decide +kernel
theorem gz_218_11 : mz_pg 218 11 = some (.aload_n 0, 0, 0, 0) := by decide +kernel
theorem gz_218_12 : mz_pg 218 12 = some (.getfield 110, 10, 26, 1239) := by decide +kernel
theorem gz_218_15 : mz_pg 218 15 = some (.iconst 4, 0, 0, 0) := by decide +kernel
theorem gz_218_16 : mz_pg 218 16 = some (.aload_n 0, 0, 0, 0) := by decide +kernel
theorem gz_218_17 : mz_pg 218 17 = some (.getfield 122, 10, 31, 1244) := by decide +kernel
theorem gz_218_20 : mz_pg 218 20 = some (.iload_n 2, 0, 0, 0) := by decide +kernel
theorem gz_218_21 : mz_pg 218 21 = some (.iaload, 0, 0, 0) := by decide +kernel
theorem gz_218_22 : mz_pg 218 22 = some (.imul, 0, 0, 0) := by decide +kernel
theorem gz_218_23 : mz_pg 218 23 = some (.iload_n 1, 0, 0, 0) := by decide +kernel
theorem gz_218_24 : mz_pg 218 24 = some (.iadd, 0, 0, 0) := by decide +kernel
theorem gz_218_25 : mz_pg 218 25 = some (.iaload, 0, 0, 0) := by decide +kernel
theorem gz_218_26 : mz_pg 218 26 = some (.ifCond .lt 19, 0, 0, 0) := by decide +kernel
theorem gz_218_29 : mz_pg 218 29 = some (.aload_n 0, 0, 0, 0) := by decide +kernel
theorem gz_218_30 : mz_pg 218 30 = some (.getfield 110, 10, 26, 1239) := by decide +kernel
theorem gz_218_33 : mz_pg 218 33 = some (.iconst 4, 0, 0, 0) := by decide +kernel
theorem gz_218_34 : mz_pg 218 34 = some (.aload_n 0, 0, 0, 0) := by decide +kernel
theorem gz_218_35 : mz_pg 218 35 = some (.getfield 122, 10, 31, 1244) := by decide +kernel
theorem gz_218_38 : mz_pg 218 38 = some (.iload_n 2, 0, 0, 0) := by decide +kernel
theorem gz_218_39 : mz_pg 218 39 = some (.iaload, 0, 0, 0) := by decide +kernel
theorem gz_218_40 : mz_pg 218 40 = some (.imul, 0, 0, 0) := by decide +kernel
theorem gz_218_41 : mz_pg 218 41 = some (.iload_n 1, 0, 0, 0) := by decide +kernel
theorem gz_218_42 : mz_pg 218 42 = some (.iadd, 0, 0, 0) := by decide +kernel
theorem gz_218_43 : mz_pg 218 43 = some (.iaload, 0, 0, 0) := by decide +kernel
theorem gz_218_44 : mz_pg 218 44 = some (.ireturn, 0, 0, 0) := by decide +kernel
theorem gz_218_45 : mz_pg 218 45 = some (.iinc 2 (-1), 0, 0, 0) := by decide +kernel
theorem gz_218_48 : mz_pg 218 48 = some (.goto (-41), 0, 0, 0) := by decide +kernel
theorem gz_218_51 : mz_pg 218 51 = some (.iconst 0, 0, 0, 0) := by decide +kernel
theorem gz_218_52 : mz_pg 218 52 = some (.ireturn, 0, 0, 0) := by decide +kernel
theorem gm_218 : my_mm 218 3 (some .int) 1 10 := by unfold my_mm; decide +kernel
theorem rd_76 : my_rd 76 = .inl (0, 6, [(0, 0, 6)]) := rfl
theorem c33_Model_fillOf {l : Launch} {rho : Nat → Int32} {d : Nat} {h : my_H} {Q : my_H → my_V → Prop} {x0 x1 : Int} (t0 : my_is 10 x0) (a1 : 0 ≤ x1) (b1 : x1 ≤ 3) (k0 : Q h (0, 0)) (k1 : ∀ (y : Int), (-1) ≤ y → y ≤ 19 → 1 ≤ h x0 ((32 : Nat) : Int) → h x0 ((32 : Nat) : Int) ≤ 6 → Q h (0, y)) : wp l rho d 218 0 [(2, x0), (0, x1), (9, 0)] [] h Q := by
  have J7_0 : ∀ (n : Nat) (p7_0 p7_1 : Int), (-1) ≤ p7_0 → p7_0 ≤ 5 → 0 ≤ p7_1 → p7_1 ≤ 6 → p7_0 ≤ (p7_1 - 1) → h x0 ((32 : Nat) : Int) = p7_1 → p7_0 - (-2) ≤ (n : Int) → wp l rho d 218 7 [(2, x0), (0, x1), (0, p7_0)] [] h Q := by
    intro n
    induction n with
    | zero => intro p7_0 p7_1 q0_7_0 q1_7_0 q2_7_0 q3_7_0 q4_7_0 c32_7_0 hm_7_0; exfalso; omega
    | succ n ih_7_0 =>
      intro p7_0 p7_1 q0_7_0 q1_7_0 q2_7_0 q3_7_0 q4_7_0 c32_7_0 hm_7_0
      refine w_iload_n gz_218_7 rfl ?_
      refine w_iflt (t := 51) gz_218_8 rfl (fun u1 => ?_) (fun u1 => ?_)
      ·
        refine w_iconst gz_218_51 (by decide) ?_
        exact w_iret gz_218_52 gm_218 (k0 )
      ·
        refine w_aload_n gz_218_11 rfl ?_
        refine w_getR gz_218_12 t0 rd_10 rfl (fun v2 ev2 tv2 => ?_)
        refine w_iconst gz_218_15 (by decide) ?_
        refine w_aload_n gz_218_16 rfl ?_
        refine w_getR gz_218_17 t0 rd_10 rfl (fun v3 ev3 tv3 => ?_)
        refine w_iload_n gz_218_20 rfl ?_
        refine w_iald gz_218_21 tv3 rd_76 (by omega) (by omega) (fun v4 ev4 pv4 qv4 => ?_)
        refine w_imul gz_218_22 ⟨by omega, by omega⟩ ?_
        refine w_iload_n gz_218_23 rfl ?_
        refine w_iadd gz_218_24 ⟨by omega, by omega⟩ ?_
        refine w_iald gz_218_25 tv2 rd_72 (by omega) (by omega) (fun v5 ev5 pv5 qv5 => ?_)
        refine w_iflt (t := 45) gz_218_26 rfl (fun u6 => ?_) (fun u6 => ?_)
        ·
          refine w_iinc (ls' := [(2, x0), (0, x1), (0, (p7_0 + (-1)))]) gz_218_45 rfl gm_218 rfl rfl rfl ⟨by omega, by omega⟩ ?_
          refine w_goto (t := 7) gz_218_48 rfl ?_
          exact ih_7_0 ((p7_0 + (-1))) (p7_1) (by omega) (by omega) (by omega) (by omega) (by omega) (c32_7_0.trans (by omega)) (by omega)
        ·
          refine w_aload_n gz_218_29 rfl ?_
          refine w_getR gz_218_30 t0 rd_10 rfl (fun v7 ev7 tv7 => ?_)
          have zv7 : v2 = v7 := (ev7.trans ev2.symm).symm
          subst zv7
          refine w_iconst gz_218_33 (by decide) ?_
          refine w_aload_n gz_218_34 rfl ?_
          refine w_getR gz_218_35 t0 rd_10 rfl (fun v8 ev8 tv8 => ?_)
          have zv8 : v3 = v8 := (ev8.trans ev3.symm).symm
          subst zv8
          refine w_iload_n gz_218_38 rfl ?_
          refine w_iald gz_218_39 tv3 rd_76 (by omega) (by omega) (fun v9 ev9 pv9 qv9 => ?_)
          have zv9 := ev9.trans ev4.symm
          refine w_imul gz_218_40 ⟨by omega, by omega⟩ ?_
          refine w_iload_n gz_218_41 rfl ?_
          refine w_iadd gz_218_42 ⟨by omega, by omega⟩ ?_
          refine w_iald gz_218_43 tv2 rd_72 (by omega) (by omega) (fun v10 ev10 pv10 qv10 => ?_)
          have c11 := c32_7_0
          exact w_iret gz_218_44 gm_218 (k1 (v10) (by omega) (by omega) (by omega) (by omega))
  refine w_aload_n gz_218_0 rfl ?_
  refine w_getI gz_218_1 t0 rd_10 rfl (fun v12 ev12 pv12 qv12 => ?_)
  refine w_iconst gz_218_4 (by decide) ?_
  refine w_isub gz_218_5 ⟨by omega, by omega⟩ ?_
  refine w_istore_n (ls' := [(2, x0), (0, x1), (0, (v12 - 1))]) gz_218_6 gm_218 rfl rfl rfl ?_
  exact J7_0 7 ((v12 - 1)) (v12) (by omega) (by omega) (by omega) (by omega) (by omega) (ev12.symm.trans (by omega)) (by omega)
theorem gz_22_0 : mz_pg 22 0 = some (.iconst 0, 0, 0, 0) := by decide +kernel
theorem gz_22_1 : mz_pg 22 1 = some (.istore_n 3, 0, 0, 0) := by decide +kernel
theorem gz_22_2 : mz_pg 22 2 = some (.iconst 0, 0, 0, 0) := by decide +kernel
theorem gz_22_3 : mz_pg 22 3 = some (.istore 4, 0, 0, 0) := by decide +kernel
theorem gz_22_5 : mz_pg 22 5 = some (.iload 4, 0, 0, 0) := by decide +kernel
theorem gz_22_7 : mz_pg 22 7 = some (.bipush 20, 0, 0, 0) := by decide +kernel
theorem gz_22_9 : mz_pg 22 9 = some (.if_icmp .ge 55, 0, 0, 0) := by decide +kernel
theorem gz_22_12 : mz_pg 22 12 = some (.iload_n 1, 0, 0, 0) := by decide +kernel
theorem gz_22_13 : mz_pg 22 13 = some (.iload 4, 0, 0, 0) := by decide +kernel
theorem gz_22_15 : mz_pg 22 15 = some (.invokestatic 62, 2, 17, 5) := by decide +kernel
theorem gz_22_18 : mz_pg 22 18 = some (.istore 5, 0, 0, 0) := by decide +kernel
theorem gz_22_20 : mz_pg 22 20 = some (.aload_n 0, 0, 0, 0) := by decide +kernel
theorem gz_22_21 : mz_pg 22 21 = some (.getfield 65, 6, 0, 179) := by decide +kernel
theorem gz_22_24 : mz_pg 22 24 = some (.iload 5, 0, 0, 0) := by decide +kernel
theorem gz_22_26 : mz_pg 22 26 = some (.iaload, 0, 0, 0) := by decide +kernel
theorem gz_22_27 : mz_pg 22 27 = some (.iconst (-1), 0, 0, 0) := by decide +kernel
theorem gz_22_28 : mz_pg 22 28 = some (.if_icmp .eq 30, 0, 0, 0) := by decide +kernel
theorem gz_22_31 : mz_pg 22 31 = some (.iconst 1, 0, 0, 0) := by decide +kernel
theorem gz_22_32 : mz_pg 22 32 = some (.aload_n 0, 0, 0, 0) := by decide +kernel
theorem gz_22_33 : mz_pg 22 33 = some (.getfield 65, 6, 0, 179) := by decide +kernel
theorem gz_22_36 : mz_pg 22 36 = some (.iload 5, 0, 0, 0) := by decide +kernel
theorem gz_22_38 : mz_pg 22 38 = some (.iload_n 2, 0, 0, 0) := by decide +kernel
theorem gz_22_39 : mz_pg 22 39 = some (.iadd, 0, 0, 0) := by decide +kernel
theorem gz_22_40 : mz_pg 22 40 = some (.iaload, 0, 0, 0) := by decide +kernel
theorem gz_22_41 : mz_pg 22 41 = some (.ishl, 0, 0, 0) := by decide +kernel
theorem gz_22_42 : mz_pg 22 42 = some (.istore 6, 0, 0, 0) := by decide +kernel
theorem gz_22_44 : mz_pg 22 44 = some (.iload_n 3, 0, 0, 0) := by decide +kernel
theorem gz_22_45 : mz_pg 22 45 = some (.iload 6, 0, 0, 0) := by decide +kernel
theorem gz_22_47 : mz_pg 22 47 = some (.iand, 0, 0, 0) := by decide +kernel
theorem gz_22_48 : mz_pg 22 48 = some (.ifCond .eq 5, 0, 0, 0) := by decide +kernel
theorem gz_22_51 : mz_pg 22 51 = some (.iconst 0, 0, 0, 0) := by decide +kernel
theorem gz_22_52 : mz_pg 22 52 = some (.ireturn, 0, 0, 0) := by decide +kernel
theorem gz_22_53 : mz_pg 22 53 = some (.iload_n 3, 0, 0, 0) := by decide +kernel
theorem gz_22_54 : mz_pg 22 54 = some (.iload 6, 0, 0, 0) := by decide +kernel
theorem gz_22_56 : mz_pg 22 56 = some (.ior, 0, 0, 0) := by decide +kernel
theorem gz_22_57 : mz_pg 22 57 = some (.istore_n 3, 0, 0, 0) := by decide +kernel
theorem gz_22_58 : mz_pg 22 58 = some (.iinc 4 1, 0, 0, 0) := by decide +kernel
theorem gz_22_61 : mz_pg 22 61 = some (.goto (-56), 0, 0, 0) := by decide +kernel
theorem gz_22_64 : mz_pg 22 64 = some (.iconst 1, 0, 0, 0) := by decide +kernel
theorem gz_22_65 : mz_pg 22 65 = some (.ireturn, 0, 0, 0) := by decide +kernel
theorem gm_22 : my_mm 22 7 (some .boolean) 3 3 := by unfold my_mm; decide +kernel
theorem c34_Laws_isSingle {l : Launch} {rho : Nat → Int32} {d : Nat} {h : my_H} {Q : my_H → my_V → Prop} {x0 x1 x2 : Int} (t0 : my_is 6 x0) (a1 : 0 ≤ x1) (b1 : x1 ≤ 2) (a2 : 0 ≤ x2) (b2 : x2 ≤ 3) (k0 : Q h (0, 0)) (k1 : Q h (0, 1)) : wp l rho (d + 1) 22 0 [(2, x0), (0, x1), (0, x2), (9, 0), (9, 0), (9, 0), (9, 0)] [] h Q := by
  have J5_0 : ∀ (n : Nat) (p5_0 p5_1 : Int), 0 ≤ p5_1 → p5_1 ≤ 20 → 21 - p5_1 ≤ (n : Int) → wp l rho (d + 1) 22 5 [(2, x0), (0, x1), (0, x2), (0, p5_0), (0, p5_1), (9, 0), (9, 0)] [] h Q := by
    intro n
    induction n with
    | zero => intro p5_0 p5_1 q0_5_0 q1_5_0 hm_5_0; exfalso; omega
    | succ n ih_5_0 =>
      intro p5_0 p5_1 q0_5_0 q1_5_0 hm_5_0
      have J58_0 : ∀ (p58_0 p58_1 : Int), p5_1 ≤ 19 → 0 ≤ p58_1 → p58_1 ≤ 236 → wp l rho (d + 1) 22 58 [(2, x0), (0, x1), (0, x2), (0, p58_0), (0, p5_1), (0, p58_1), (9, 0)] [] h Q := by
        intro p58_0 p58_1 q0_58_0 q1_58_0 q2_58_0
        refine w_iinc (ls' := [(2, x0), (0, x1), (0, x2), (0, p58_0), (0, (p5_1 + 1)), (0, p58_1), (9, 0)]) gz_22_58 rfl gm_22 rfl rfl rfl ⟨by omega, by omega⟩ ?_
        refine w_goto (t := 5) gz_22_61 rfl ?_
        refine w_weak (ls' := [(2, x0), (0, x1), (0, x2), (0, p58_0), (0, (p5_1 + 1)), (9, 0), (9, 0)]) (wk_e (wk_e (wk_e (wk_e (wk_e (wk_9 (wk_9 wk_n))))))) ?_
        exact ih_5_0 (p58_0) ((p5_1 + 1)) (by omega) (by omega) (by omega)
      refine w_iload gz_22_5 rfl ?_
      refine w_bipush gz_22_7 (by decide) ?_
      refine w_icge (t := 64) gz_22_9 rfl (fun u1 => ?_) (fun u1 => ?_)
      ·
        refine w_iconst gz_22_64 (by decide) ?_
        exact w_bret gz_22_65 gm_22 (by omega) (by omega) (k1 )
      ·
        refine w_iload_n gz_22_12 rfl ?_
        refine w_iload gz_22_13 rfl ?_
        refine w_inS (k := 0) (as := [(0, p5_1), (0, x1)]) (r := []) (ls0 := [(0, x1), (0, p5_1)]) gz_22_15 gm_17 rfl rfl rfl rfl rfl rfl ?_
        refine w_iload_n gz_17_0 rfl ?_
        refine w_bipush gz_17_1 (by decide) ?_
        refine w_imul gz_17_3 ⟨by omega, by omega⟩ ?_
        refine w_iload_n gz_17_4 rfl ?_
        refine w_iadd gz_17_5 ⟨by omega, by omega⟩ ?_
        refine w_iconst gz_17_6 (by decide) ?_
        refine w_imul gz_17_7 ⟨by omega, by omega⟩ ?_
        refine w_iret gz_17_8 gm_17 ?_
        show wp l rho (d + 1) 22 18 [(2, x0), (0, x1), (0, x2), (0, p5_0), (0, p5_1), (9, 0), (9, 0)] [(0, (((x1 * 20) + p5_1) * 4))] h Q
        refine w_istore (ls' := [(2, x0), (0, x1), (0, x2), (0, p5_0), (0, p5_1), (0, (((x1 * 20) + p5_1) * 4)), (9, 0)]) gz_22_18 gm_22 rfl rfl rfl ?_
        refine w_aload_n gz_22_20 rfl ?_
        refine w_getR gz_22_21 t0 rd_6 rfl (fun v2 ev2 tv2 => ?_)
        refine w_iload gz_22_24 rfl ?_
        refine w_iald gz_22_26 tv2 rd_30 (by omega) (by omega) (fun v3 ev3 pv3 qv3 => ?_)
        refine w_iconst gz_22_27 (by decide) ?_
        refine w_iceq (t := 58) gz_22_28 rfl (fun u4 => ?_) (fun u4 => ?_)
        ·
          exact J58_0 (p5_0) ((((x1 * 20) + p5_1) * 4)) (by omega) (by omega) (by omega)
        ·
          refine w_iconst gz_22_31 (by decide) ?_
          refine w_aload_n gz_22_32 rfl ?_
          refine w_getR gz_22_33 t0 rd_6 rfl (fun v5 ev5 tv5 => ?_)
          have zv5 : v2 = v5 := (ev5.trans ev2.symm).symm
          subst zv5
          refine w_iload gz_22_36 rfl ?_
          refine w_iload_n gz_22_38 rfl ?_
          refine w_iadd gz_22_39 ⟨by omega, by omega⟩ ?_
          refine w_iald gz_22_40 tv2 rd_30 (by omega) (by omega) (fun v6 ev6 pv6 qv6 => ?_)
          refine w_ianyL gz_22_41 (fun v7 pv7 qv7 => ?_)
          refine w_istore (ls' := [(2, x0), (0, x1), (0, x2), (0, p5_0), (0, p5_1), (0, (((x1 * 20) + p5_1) * 4)), (0, v7)]) gz_22_42 gm_22 rfl rfl rfl ?_
          refine w_iload_n gz_22_44 rfl ?_
          refine w_iload gz_22_45 rfl ?_
          refine w_ianyN gz_22_47 (fun v8 pv8 qv8 => ?_)
          refine w_ifeq (t := 53) gz_22_48 rfl (fun u9 => ?_) (fun u9 => ?_)
          ·
            refine w_iload_n gz_22_53 rfl ?_
            refine w_iload gz_22_54 rfl ?_
            refine w_ianyO gz_22_56 (fun v10 pv10 qv10 => ?_)
            refine w_istore_n (ls' := [(2, x0), (0, x1), (0, x2), (0, v10), (0, p5_1), (0, (((x1 * 20) + p5_1) * 4)), (0, v7)]) gz_22_57 gm_22 rfl rfl rfl ?_
            refine w_weak (ls' := [(2, x0), (0, x1), (0, x2), (0, v10), (0, p5_1), (0, (((x1 * 20) + p5_1) * 4)), (9, 0)]) (wk_e (wk_e (wk_e (wk_e (wk_e (wk_e (wk_9 wk_n))))))) ?_
            exact J58_0 (v10) ((((x1 * 20) + p5_1) * 4)) (by omega) (by omega) (by omega)
          ·
            refine w_iconst gz_22_51 (by decide) ?_
            exact w_bret gz_22_52 gm_22 (by omega) (by omega) (k0 )
  refine w_iconst gz_22_0 (by decide) ?_
  refine w_istore_n (ls' := [(2, x0), (0, x1), (0, x2), (0, 0), (9, 0), (9, 0), (9, 0)]) gz_22_1 gm_22 rfl rfl rfl ?_
  refine w_iconst gz_22_2 (by decide) ?_
  refine w_istore (ls' := [(2, x0), (0, x1), (0, x2), (0, 0), (0, 0), (9, 0), (9, 0)]) gz_22_3 gm_22 rfl rfl rfl ?_
  exact J5_0 21 (0) (0) (by omega) (by omega) (by omega)
theorem gz_227_0 : mz_pg 227 0 = some (.iconst 4, 0, 0, 0) := by decide +kernel
theorem gz_227_1 : mz_pg 227 1 = some (.iload_n 2, 0, 0, 0) := by decide +kernel
theorem gz_227_2 : mz_pg 227 2 = some (.imul, 0, 0, 0) := by decide +kernel
theorem gz_227_3 : mz_pg 227 3 = some (.iload 4, 0, 0, 0) := by decide +kernel
theorem gz_227_5 : mz_pg 227 5 = some (.iadd, 0, 0, 0) := by decide +kernel
theorem gz_227_6 : mz_pg 227 6 = some (.istore 5, 0, 0, 0) := by decide +kernel
theorem gz_227_8 : mz_pg 227 8 = some (.aload_n 0, 0, 0, 0) := by decide +kernel
theorem gz_227_9 : mz_pg 227 9 = some (.iload_n 1, 0, 0, 0) := by decide +kernel
theorem gz_227_10 : mz_pg 227 10 = some (.iload_n 2, 0, 0, 0) := by decide +kernel
theorem gz_227_11 : mz_pg 227 11 = some (.iload_n 3, 0, 0, 0) := by decide +kernel
theorem gz_227_12 : mz_pg 227 12 = some (.iload 4, 0, 0, 0) := by decide +kernel
theorem gz_227_14 : mz_pg 227 14 = some (.invokevirtual 246, 1, 157, 1450) := by decide +kernel
theorem gz_227_17 : mz_pg 227 17 = some (.istore 6, 0, 0, 0) := by decide +kernel
theorem gz_227_19 : mz_pg 227 19 = some (.iload 6, 0, 0, 0) := by decide +kernel
theorem gz_227_21 : mz_pg 227 21 = some (.aload_n 0, 0, 0, 0) := by decide +kernel
theorem gz_227_22 : mz_pg 227 22 = some (.getfield 64, 10, 11, 1224) := by decide +kernel
theorem gz_227_25 : mz_pg 227 25 = some (.iload 5, 0, 0, 0) := by decide +kernel
theorem gz_227_27 : mz_pg 227 27 = some (.iaload, 0, 0, 0) := by decide +kernel
theorem gz_227_28 : mz_pg 227 28 = some (.aload_n 0, 0, 0, 0) := by decide +kernel
theorem gz_227_29 : mz_pg 227 29 = some (.getfield 67, 10, 12, 1225) := by decide +kernel
theorem gz_227_32 : mz_pg 227 32 = some (.iload 5, 0, 0, 0) := by decide +kernel
theorem gz_227_34 : mz_pg 227 34 = some (.iaload, 0, 0, 0) := by decide +kernel
theorem gz_227_35 : mz_pg 227 35 = some (.invokestatic 250, 1, 147, 1419) := by decide +kernel
theorem gz_227_38 : mz_pg 227 38 = some (.ifCond .ne 5, 0, 0, 0) := by decide +kernel
theorem gz_227_41 : mz_pg 227 41 = some (.iconst 1, 0, 0, 0) := by decide +kernel
theorem gz_227_42 : mz_pg 227 42 = some (.ireturn, 0, 0, 0) := by decide +kernel
theorem gz_227_43 : mz_pg 227 43 = some (.aload_n 0, 0, 0, 0) := by decide +kernel
theorem gz_227_44 : mz_pg 227 44 = some (.getfield 70, 10, 13, 1226) := by decide +kernel
theorem gz_227_47 : mz_pg 227 47 = some (.iload 5, 0, 0, 0) := by decide +kernel
theorem gz_227_49 : mz_pg 227 49 = some (.iaload, 0, 0, 0) := by decide +kernel
theorem gz_227_50 : mz_pg 227 50 = some (.ifCond .lt 26, 0, 0, 0) := by decide +kernel
theorem gz_227_53 : mz_pg 227 53 = some (.aload_n 0, 0, 0, 0) := by decide +kernel
theorem gz_227_54 : mz_pg 227 54 = some (.getfield 77, 10, 15, 1228) := by decide +kernel
theorem gz_227_57 : mz_pg 227 57 = some (.iload_n 1, 0, 0, 0) := by decide +kernel
theorem gz_227_58 : mz_pg 227 58 = some (.aload_n 0, 0, 0, 0) := by decide +kernel
theorem gz_227_59 : mz_pg 227 59 = some (.getfield 70, 10, 13, 1226) := by decide +kernel
theorem gz_227_62 : mz_pg 227 62 = some (.iload 5, 0, 0, 0) := by decide +kernel
theorem gz_227_64 : mz_pg 227 64 = some (.iaload, 0, 0, 0) := by decide +kernel
theorem gz_227_65 : mz_pg 227 65 = some (.iload 6, 0, 0, 0) := by decide +kernel
theorem gz_227_67 : mz_pg 227 67 = some (.invokestatic 242, 1, 150, 1429) := by decide +kernel
theorem gz_227_70 : mz_pg 227 70 = some (.baload, 0, 0, 0) := by decide +kernel
theorem gz_227_71 : mz_pg 227 71 = some (.ifCond .ne 5, 0, 0, 0) := by decide +kernel
theorem gz_227_74 : mz_pg 227 74 = some (.iconst 2, 0, 0, 0) := by decide +kernel
theorem gz_227_75 : mz_pg 227 75 = some (.ireturn, 0, 0, 0) := by decide +kernel
theorem gz_227_76 : mz_pg 227 76 = some (.iconst 0, 0, 0, 0) := by decide +kernel
theorem gz_227_77 : mz_pg 227 77 = some (.istore 7, 0, 0, 0) := by decide +kernel
theorem gz_227_79 : mz_pg 227 79 = some (.iload 7, 0, 0, 0) := by decide +kernel
theorem gz_227_81 : mz_pg 227 81 = some (.iload_n 3, 0, 0, 0) := by decide +kernel
theorem gz_227_82 : mz_pg 227 82 = some (.if_icmp .ge 51, 0, 0, 0) := by decide +kernel
theorem gz_227_85 : mz_pg 227 85 = some (.aload_n 0, 0, 0, 0) := by decide +kernel
theorem gz_227_86 : mz_pg 227 86 = some (.getfield 73, 10, 14, 1227) := by decide +kernel
theorem gz_227_89 : mz_pg 227 89 = some (.iload 5, 0, 0, 0) := by decide +kernel
theorem gz_227_91 : mz_pg 227 91 = some (.baload, 0, 0, 0) := by decide +kernel
theorem gz_227_92 : mz_pg 227 92 = some (.ifCond .eq 41, 0, 0, 0) := by decide +kernel
theorem gz_227_95 : mz_pg 227 95 = some (.aload_n 0, 0, 0, 0) := by decide +kernel
theorem gz_227_96 : mz_pg 227 96 = some (.getfield 77, 10, 15, 1228) := by decide +kernel
theorem gz_227_99 : mz_pg 227 99 = some (.iload_n 1, 0, 0, 0) := by decide +kernel
theorem gz_227_100 : mz_pg 227 100 = some (.iload_n 2, 0, 0, 0) := by decide +kernel
theorem gz_227_101 : mz_pg 227 101 = some (.iload 7, 0, 0, 0) := by decide +kernel
theorem gz_227_103 : mz_pg 227 103 = some (.invokestatic 242, 1, 150, 1429) := by decide +kernel
theorem gz_227_106 : mz_pg 227 106 = some (.baload, 0, 0, 0) := by decide +kernel
theorem gz_227_107 : mz_pg 227 107 = some (.ifCond .eq 20, 0, 0, 0) := by decide +kernel
theorem gz_227_110 : mz_pg 227 110 = some (.aload_n 0, 0, 0, 0) := by decide +kernel
theorem gz_227_111 : mz_pg 227 111 = some (.iload_n 1, 0, 0, 0) := by decide +kernel
theorem gz_227_112 : mz_pg 227 112 = some (.iload_n 2, 0, 0, 0) := by decide +kernel
theorem gz_227_113 : mz_pg 227 113 = some (.iload 7, 0, 0, 0) := by decide +kernel
theorem gz_227_115 : mz_pg 227 115 = some (.iload 4, 0, 0, 0) := by decide +kernel
theorem gz_227_117 : mz_pg 227 117 = some (.invokevirtual 246, 1, 157, 1450) := by decide +kernel
theorem gz_227_120 : mz_pg 227 120 = some (.iload 6, 0, 0, 0) := by decide +kernel
theorem gz_227_122 : mz_pg 227 122 = some (.if_icmp .ne 5, 0, 0, 0) := by decide +kernel
theorem gz_227_125 : mz_pg 227 125 = some (.iconst 3, 0, 0, 0) := by decide +kernel
theorem gz_227_126 : mz_pg 227 126 = some (.ireturn, 0, 0, 0) := by decide +kernel
theorem gz_227_127 : mz_pg 227 127 = some (.iinc 7 1, 0, 0, 0) := by decide +kernel
theorem gz_227_130 : mz_pg 227 130 = some (.goto (-51), 0, 0, 0) := by decide +kernel
theorem gz_227_133 : mz_pg 227 133 = some (.iconst 0, 0, 0, 0) := by decide +kernel
theorem gz_227_134 : mz_pg 227 134 = some (.ireturn, 0, 0, 0) := by decide +kernel
theorem gm_227 : my_mm 227 8 (some .int) 4 10 := by unfold my_mm; decide +kernel
theorem c35_Model_breaks {l : Launch} {rho : Nat → Int32} {d : Nat} {h : my_H} {Q : my_H → my_V → Prop} {x0 x2 x3 x4 : Int} (t0 : my_is 10 x0) (a2 : 0 ≤ x2) (b2 : x2 ≤ 2) (a3 : 0 ≤ x3) (b3 : x3 ≤ 19) (a4 : 0 ≤ x4) (b4 : x4 ≤ 3) (k0 : Q h (0, 0)) (k1 : Q h (0, 1)) (k2 : ∀ (y : Int), 2 ≤ y → y ≤ 3 → Q h (0, y)) : wp l rho (d + 2) 227 0 [(2, x0), (0, 5), (0, x2), (0, x3), (0, x4), (9, 0), (9, 0), (9, 0)] [] h Q := by
  have J79_0 : ∀ (n : Nat) (p79_0 p79_1 p79_2 : Int), 0 ≤ p79_0 → p79_0 ≤ 11 → 0 ≤ p79_1 → p79_1 ≤ 19 → 0 ≤ p79_2 → p79_2 ≤ 19 → p79_2 ≤ x3 → 20 - p79_2 ≤ (n : Int) → wp l rho (d + 2) 227 79 [(2, x0), (0, 5), (0, x2), (0, x3), (0, x4), (0, p79_0), (0, p79_1), (0, p79_2)] [] h Q := by
    intro n
    induction n with
    | zero => intro p79_0 p79_1 p79_2 q0_79_0 q1_79_0 q2_79_0 q3_79_0 q4_79_0 q5_79_0 q6_79_0 hm_79_0; exfalso; omega
    | succ n ih_79_0 =>
      intro p79_0 p79_1 p79_2 q0_79_0 q1_79_0 q2_79_0 q3_79_0 q4_79_0 q5_79_0 q6_79_0 hm_79_0
      have J127_0 : 1 ≤ x3 → p79_2 ≤ 18 → p79_2 ≤ (x3 - 1) → wp l rho (d + 2) 227 127 [(2, x0), (0, 5), (0, x2), (0, x3), (0, x4), (0, p79_0), (0, p79_1), (0, p79_2)] [] h Q := by
        intro q0_127_0 q1_127_0 q2_127_0
        refine w_iinc (ls' := [(2, x0), (0, 5), (0, x2), (0, x3), (0, x4), (0, p79_0), (0, p79_1), (0, (p79_2 + 1))]) gz_227_127 rfl gm_227 rfl rfl rfl ⟨by omega, by omega⟩ ?_
        refine w_goto (t := 79) gz_227_130 rfl ?_
        exact ih_79_0 (p79_0) (p79_1) ((p79_2 + 1)) (by omega) (by omega) (by omega) (by omega) (by omega) (by omega) (by omega) (by omega)
      refine w_iload gz_227_79 rfl ?_
      refine w_iload_n gz_227_81 rfl ?_
      refine w_icge (t := 133) gz_227_82 rfl (fun u1 => ?_) (fun u1 => ?_)
      ·
        refine w_iconst gz_227_133 (by decide) ?_
        exact w_iret gz_227_134 gm_227 (k0 )
      ·
        refine w_aload_n gz_227_85 rfl ?_
        refine w_getR gz_227_86 t0 rd_10 rfl (fun v2 ev2 tv2 => ?_)
        refine w_iload gz_227_89 rfl ?_
        refine w_bald gz_227_91 tv2 rd_60 (by omega) (by omega) (fun v3 ev3 pv3 qv3 => ?_)
        refine w_ifeq (t := 133) gz_227_92 rfl (fun u4 => ?_) (fun u4 => ?_)
        ·
          refine w_iconst gz_227_133 (by decide) ?_
          exact w_iret gz_227_134 gm_227 (k0 )
        ·
          refine w_aload_n gz_227_95 rfl ?_
          refine w_getR gz_227_96 t0 rd_10 rfl (fun v5 ev5 tv5 => ?_)
          refine w_iload_n gz_227_99 rfl ?_
          refine w_iload_n gz_227_100 rfl ?_
          refine w_iload gz_227_101 rfl ?_
          refine w_inS (k := 0) (as := [(0, p79_2), (0, x2), (0, 5)]) (r := [(2, v5)]) (ls0 := [(0, 5), (0, x2), (0, p79_2)]) gz_227_103 gm_150 rfl rfl rfl rfl rfl rfl ?_
          refine w_bipush gz_150_0 (by decide) ?_
          refine w_iload_n gz_150_2 rfl ?_
          refine w_imul gz_150_3 ⟨by omega, by omega⟩ ?_
          refine w_bipush gz_150_4 (by decide) ?_
          refine w_iload_n gz_150_6 rfl ?_
          refine w_imul gz_150_7 ⟨by omega, by omega⟩ ?_
          refine w_iadd gz_150_8 ⟨by omega, by omega⟩ ?_
          refine w_iload_n gz_150_9 rfl ?_
          refine w_iadd gz_150_10 ⟨by omega, by omega⟩ ?_
          refine w_iret gz_150_11 gm_150 ?_
          show wp l rho (d + 2) 227 106 [(2, x0), (0, 5), (0, x2), (0, x3), (0, x4), (0, p79_0), (0, p79_1), (0, p79_2)] [(0, (((60 * 5) + (20 * x2)) + p79_2)), (2, v5)] h Q
          refine w_bald gz_227_106 tv5 rd_61 (by omega) (by omega) (fun v6 ev6 pv6 qv6 => ?_)
          refine w_ifeq (t := 127) gz_227_107 rfl (fun u7 => ?_) (fun u7 => ?_)
          ·
            exact J127_0 (by omega) (by omega) (by omega)
          ·
            refine w_aload_n gz_227_110 rfl ?_
            refine w_iload_n gz_227_111 rfl ?_
            refine w_iload_n gz_227_112 rfl ?_
            refine w_iload gz_227_113 rfl ?_
            refine w_iload gz_227_115 rfl ?_
            refine w_inv (k := 0) (as := [(0, x4), (0, p79_2), (0, x2), (0, 5)]) (r := []) (x := x0) (ls0 := [(2, x0), (0, 5), (0, x2), (0, p79_2), (0, x4)]) gz_227_117 gm_157 rfl t0 rd_10 rfl rfl rfl rfl rfl ?_
            refine w_aload_n gz_157_0 rfl ?_
            refine w_getR gz_157_1 t0 rd_10 rfl (fun v8 ev8 tv8 => ?_)
            refine w_iconst gz_157_4 (by decide) ?_
            refine w_iload_n gz_157_5 rfl ?_
            refine w_iload_n gz_157_6 rfl ?_
            refine w_iload_n gz_157_7 rfl ?_
            refine w_inS (k := 0) (as := [(0, p79_2), (0, x2), (0, 5)]) (r := [(0, 4), (2, v8)]) (ls0 := [(0, 5), (0, x2), (0, p79_2)]) gz_157_8 gm_150 rfl rfl rfl rfl rfl rfl ?_
            refine w_bipush gz_150_0 (by decide) ?_
            refine w_iload_n gz_150_2 rfl ?_
            refine w_imul gz_150_3 ⟨by omega, by omega⟩ ?_
            refine w_bipush gz_150_4 (by decide) ?_
            refine w_iload_n gz_150_6 rfl ?_
            refine w_imul gz_150_7 ⟨by omega, by omega⟩ ?_
            refine w_iadd gz_150_8 ⟨by omega, by omega⟩ ?_
            refine w_iload_n gz_150_9 rfl ?_
            refine w_iadd gz_150_10 ⟨by omega, by omega⟩ ?_
            refine w_iret gz_150_11 gm_150 ?_
            show wp l rho (d + 1) 157 11 [(2, x0), (0, 5), (0, x2), (0, p79_2), (0, x4)] [(0, (((60 * 5) + (20 * x2)) + p79_2)), (0, 4), (2, v8)] h _
            refine w_imul gz_157_11 ⟨by omega, by omega⟩ ?_
            refine w_iload gz_157_12 rfl ?_
            refine w_iadd gz_157_14 ⟨by omega, by omega⟩ ?_
            refine w_iald gz_157_15 tv8 rd_62 (by omega) (by omega) (fun v9 ev9 pv9 qv9 => ?_)
            refine w_iret gz_157_16 gm_157 ?_
            show wp l rho (d + 2) 227 120 [(2, x0), (0, 5), (0, x2), (0, x3), (0, x4), (0, p79_0), (0, p79_1), (0, p79_2)] [(0, v9)] h Q
            refine w_iload gz_227_120 rfl ?_
            refine w_icne (t := 127) gz_227_122 rfl (fun u10 => ?_) (fun u10 => ?_)
            ·
              exact J127_0 (by omega) (by omega) (by omega)
            ·
              refine w_iconst gz_227_125 (by decide) ?_
              exact w_iret gz_227_126 gm_227 (k2 (3) (by omega) (by omega))
  have J76_0 : ∀ (p76_0 p76_1 : Int), 0 ≤ p76_0 → p76_0 ≤ 11 → 0 ≤ p76_1 → p76_1 ≤ 19 → wp l rho (d + 2) 227 76 [(2, x0), (0, 5), (0, x2), (0, x3), (0, x4), (0, p76_0), (0, p76_1), (9, 0)] [] h Q := by
    intro p76_0 p76_1 q0_76_0 q1_76_0 q2_76_0 q3_76_0
    refine w_iconst gz_227_76 (by decide) ?_
    refine w_istore (ls' := [(2, x0), (0, 5), (0, x2), (0, x3), (0, x4), (0, p76_0), (0, p76_1), (0, 0)]) gz_227_77 gm_227 rfl rfl rfl ?_
    exact J79_0 20 (p76_0) (p76_1) (0) (by omega) (by omega) (by omega) (by omega) (by omega) (by omega) (by omega) (by omega)
  refine w_iconst gz_227_0 (by decide) ?_
  refine w_iload_n gz_227_1 rfl ?_
  refine w_imul gz_227_2 ⟨by omega, by omega⟩ ?_
  refine w_iload gz_227_3 rfl ?_
  refine w_iadd gz_227_5 ⟨by omega, by omega⟩ ?_
  refine w_istore (ls' := [(2, x0), (0, 5), (0, x2), (0, x3), (0, x4), (0, ((4 * x2) + x4)), (9, 0), (9, 0)]) gz_227_6 gm_227 rfl rfl rfl ?_
  refine w_aload_n gz_227_8 rfl ?_
  refine w_iload_n gz_227_9 rfl ?_
  refine w_iload_n gz_227_10 rfl ?_
  refine w_iload_n gz_227_11 rfl ?_
  refine w_iload gz_227_12 rfl ?_
  refine w_inv (k := 0) (as := [(0, x4), (0, x3), (0, x2), (0, 5)]) (r := []) (x := x0) (ls0 := [(2, x0), (0, 5), (0, x2), (0, x3), (0, x4)]) gz_227_14 gm_157 rfl t0 rd_10 rfl rfl rfl rfl rfl ?_
  refine w_aload_n gz_157_0 rfl ?_
  refine w_getR gz_157_1 t0 rd_10 rfl (fun v11 ev11 tv11 => ?_)
  refine w_iconst gz_157_4 (by decide) ?_
  refine w_iload_n gz_157_5 rfl ?_
  refine w_iload_n gz_157_6 rfl ?_
  refine w_iload_n gz_157_7 rfl ?_
  refine w_inS (k := 0) (as := [(0, x3), (0, x2), (0, 5)]) (r := [(0, 4), (2, v11)]) (ls0 := [(0, 5), (0, x2), (0, x3)]) gz_157_8 gm_150 rfl rfl rfl rfl rfl rfl ?_
  refine w_bipush gz_150_0 (by decide) ?_
  refine w_iload_n gz_150_2 rfl ?_
  refine w_imul gz_150_3 ⟨by omega, by omega⟩ ?_
  refine w_bipush gz_150_4 (by decide) ?_
  refine w_iload_n gz_150_6 rfl ?_
  refine w_imul gz_150_7 ⟨by omega, by omega⟩ ?_
  refine w_iadd gz_150_8 ⟨by omega, by omega⟩ ?_
  refine w_iload_n gz_150_9 rfl ?_
  refine w_iadd gz_150_10 ⟨by omega, by omega⟩ ?_
  refine w_iret gz_150_11 gm_150 ?_
  show wp l rho (d + 1) 157 11 [(2, x0), (0, 5), (0, x2), (0, x3), (0, x4)] [(0, (((60 * 5) + (20 * x2)) + x3)), (0, 4), (2, v11)] h _
  refine w_imul gz_157_11 ⟨by omega, by omega⟩ ?_
  refine w_iload gz_157_12 rfl ?_
  refine w_iadd gz_157_14 ⟨by omega, by omega⟩ ?_
  refine w_iald gz_157_15 tv11 rd_62 (by omega) (by omega) (fun v12 ev12 pv12 qv12 => ?_)
  refine w_iret gz_157_16 gm_157 ?_
  show wp l rho (d + 2) 227 17 [(2, x0), (0, 5), (0, x2), (0, x3), (0, x4), (0, ((4 * x2) + x4)), (9, 0), (9, 0)] [(0, v12)] h Q
  refine w_istore (ls' := [(2, x0), (0, 5), (0, x2), (0, x3), (0, x4), (0, ((4 * x2) + x4)), (0, v12), (9, 0)]) gz_227_17 gm_227 rfl rfl rfl ?_
  refine w_iload gz_227_19 rfl ?_
  refine w_aload_n gz_227_21 rfl ?_
  refine w_getR gz_227_22 t0 rd_10 rfl (fun v13 ev13 tv13 => ?_)
  refine w_iload gz_227_25 rfl ?_
  refine w_iald gz_227_27 tv13 rd_57 (by omega) (by omega) (fun v14 ev14 pv14 qv14 => ?_)
  refine w_aload_n gz_227_28 rfl ?_
  refine w_getR gz_227_29 t0 rd_10 rfl (fun v15 ev15 tv15 => ?_)
  refine w_iload gz_227_32 rfl ?_
  refine w_iald gz_227_34 tv15 rd_58 (by omega) (by omega) (fun v16 ev16 pv16 qv16 => ?_)
  refine w_inS (k := 0) (as := [(0, v16), (0, v14), (0, v12)]) (r := []) (ls0 := [(0, v12), (0, v14), (0, v16)]) gz_227_35 gm_147 rfl rfl rfl rfl rfl rfl ?_
  refine w_iload_n gz_147_0 rfl ?_
  refine w_iload_n gz_147_1 rfl ?_
  refine w_iclt (t := 14) gz_147_2 rfl (fun u17 => ?_) (fun u17 => ?_)
  ·
    refine w_iconst gz_147_14 (by decide) ?_
    refine w_bret gz_147_15 gm_147 (by omega) (by omega) ?_
    show wp l rho (d + 2) 227 38 [(2, x0), (0, 5), (0, x2), (0, x3), (0, x4), (0, ((4 * x2) + x4)), (0, v12), (9, 0)] [(0, 0)] h Q
    refine w_ifne (t := 43) gz_227_38 rfl (fun u18 => by exfalso; omega) (fun u18 => ?_)
    refine w_iconst gz_227_41 (by decide) ?_
    exact w_iret gz_227_42 gm_227 (k1 )
  ·
    refine w_iload_n gz_147_5 rfl ?_
    refine w_iload_n gz_147_6 rfl ?_
    refine w_icgt (t := 14) gz_147_7 rfl (fun u19 => ?_) (fun u19 => ?_)
    ·
      refine w_iconst gz_147_14 (by decide) ?_
      refine w_bret gz_147_15 gm_147 (by omega) (by omega) ?_
      show wp l rho (d + 2) 227 38 [(2, x0), (0, 5), (0, x2), (0, x3), (0, x4), (0, ((4 * x2) + x4)), (0, v12), (9, 0)] [(0, 0)] h Q
      refine w_ifne (t := 43) gz_227_38 rfl (fun u20 => by exfalso; omega) (fun u20 => ?_)
      refine w_iconst gz_227_41 (by decide) ?_
      exact w_iret gz_227_42 gm_227 (k1 )
    ·
      refine w_iconst gz_147_10 (by decide) ?_
      refine w_goto (t := 15) gz_147_11 rfl ?_
      refine w_bret gz_147_15 gm_147 (by omega) (by omega) ?_
      show wp l rho (d + 2) 227 38 [(2, x0), (0, 5), (0, x2), (0, x3), (0, x4), (0, ((4 * x2) + x4)), (0, v12), (9, 0)] [(0, 1)] h Q
      refine w_ifne (t := 43) gz_227_38 rfl (fun u21 => ?_) (fun u21 => by exfalso; omega)
      refine w_aload_n gz_227_43 rfl ?_
      refine w_getR gz_227_44 t0 rd_10 rfl (fun v22 ev22 tv22 => ?_)
      refine w_iload gz_227_47 rfl ?_
      refine w_iald gz_227_49 tv22 rd_59 (by omega) (by omega) (fun v23 ev23 pv23 qv23 => ?_)
      refine w_iflt (t := 76) gz_227_50 rfl (fun u24 => ?_) (fun u24 => ?_)
      ·
        exact J76_0 (((4 * x2) + x4)) (v12) (by omega) (by omega) (by omega) (by omega)
      ·
        refine w_aload_n gz_227_53 rfl ?_
        refine w_getR gz_227_54 t0 rd_10 rfl (fun v25 ev25 tv25 => ?_)
        refine w_iload_n gz_227_57 rfl ?_
        refine w_aload_n gz_227_58 rfl ?_
        refine w_getR gz_227_59 t0 rd_10 rfl (fun v26 ev26 tv26 => ?_)
        have zv26 : v22 = v26 := (ev26.trans ev22.symm).symm
        subst zv26
        refine w_iload gz_227_62 rfl ?_
        refine w_iald gz_227_64 tv22 rd_59 (by omega) (by omega) (fun v27 ev27 pv27 qv27 => ?_)
        have zv27 := ev27.trans ev23.symm
        refine w_iload gz_227_65 rfl ?_
        refine w_inS (k := 0) (as := [(0, v12), (0, v27), (0, 5)]) (r := [(2, v25)]) (ls0 := [(0, 5), (0, v27), (0, v12)]) gz_227_67 gm_150 rfl rfl rfl rfl rfl rfl ?_
        refine w_bipush gz_150_0 (by decide) ?_
        refine w_iload_n gz_150_2 rfl ?_
        refine w_imul gz_150_3 ⟨by omega, by omega⟩ ?_
        refine w_bipush gz_150_4 (by decide) ?_
        refine w_iload_n gz_150_6 rfl ?_
        refine w_imul gz_150_7 ⟨by omega, by omega⟩ ?_
        refine w_iadd gz_150_8 ⟨by omega, by omega⟩ ?_
        refine w_iload_n gz_150_9 rfl ?_
        refine w_iadd gz_150_10 ⟨by omega, by omega⟩ ?_
        refine w_iret gz_150_11 gm_150 ?_
        show wp l rho (d + 2) 227 70 [(2, x0), (0, 5), (0, x2), (0, x3), (0, x4), (0, ((4 * x2) + x4)), (0, v12), (9, 0)] [(0, (((60 * 5) + (20 * v27)) + v12)), (2, v25)] h Q
        refine w_bald gz_227_70 tv25 rd_61 (by omega) (by omega) (fun v28 ev28 pv28 qv28 => ?_)
        refine w_ifne (t := 76) gz_227_71 rfl (fun u29 => ?_) (fun u29 => ?_)
        ·
          exact J76_0 (((4 * x2) + x4)) (v12) (by omega) (by omega) (by omega) (by omega)
        ·
          refine w_iconst gz_227_74 (by decide) ?_
          exact w_iret gz_227_75 gm_227 (k2 (2) (by omega) (by omega))
theorem gz_230_0 : mz_pg 230 0 = some (.iconst 1, 0, 0, 0) := by decide +kernel
theorem gz_230_1 : mz_pg 230 1 = some (.istore_n 3, 0, 0, 0) := by decide +kernel
theorem gz_230_2 : mz_pg 230 2 = some (.iconst 0, 0, 0, 0) := by decide +kernel
theorem gz_230_3 : mz_pg 230 3 = some (.istore 4, 0, 0, 0) := by decide +kernel
theorem gz_230_5 : mz_pg 230 5 = some (.iload 4, 0, 0, 0) := by decide +kernel
theorem gz_230_7 : mz_pg 230 7 = some (.bipush 60, 0, 0, 0) := by decide +kernel
theorem gz_230_9 : mz_pg 230 9 = some (.if_icmp .ge 123, 0, 0, 0) := by decide +kernel
theorem gz_230_12 : mz_pg 230 12 = some (.iload_n 3, 0, 0, 0) := by decide +kernel
theorem gz_230_13 : mz_pg 230 13 = some (.ifCond .eq 34, 0, 0, 0) := by decide +kernel
theorem gz_230_16 : mz_pg 230 16 = some (.aload_n 0, 0, 0, 0) := by decide +kernel
theorem gz_230_17 : mz_pg 230 17 = some (.getfield 77, 10, 15, 1228) := by decide +kernel
theorem gz_230_20 : mz_pg 230 20 = some (.bipush 60, 0, 0, 0) := by decide +kernel
theorem gz_230_22 : mz_pg 230 22 = some (.iload_n 1, 0, 0, 0) := by decide +kernel
theorem gz_230_23 : mz_pg 230 23 = some (.imul, 0, 0, 0) := by decide +kernel
theorem gz_230_24 : mz_pg 230 24 = some (.iload 4, 0, 0, 0) := by decide +kernel
theorem gz_230_26 : mz_pg 230 26 = some (.iadd, 0, 0, 0) := by decide +kernel
theorem gz_230_27 : mz_pg 230 27 = some (.baload, 0, 0, 0) := by decide +kernel
theorem gz_230_28 : mz_pg 230 28 = some (.aload_n 0, 0, 0, 0) := by decide +kernel
theorem gz_230_29 : mz_pg 230 29 = some (.getfield 77, 10, 15, 1228) := by decide +kernel
theorem gz_230_32 : mz_pg 230 32 = some (.bipush 60, 0, 0, 0) := by decide +kernel
theorem gz_230_34 : mz_pg 230 34 = some (.iload_n 2, 0, 0, 0) := by decide +kernel
theorem gz_230_35 : mz_pg 230 35 = some (.imul, 0, 0, 0) := by decide +kernel
theorem gz_230_36 : mz_pg 230 36 = some (.iload 4, 0, 0, 0) := by decide +kernel
theorem gz_230_38 : mz_pg 230 38 = some (.iadd, 0, 0, 0) := by decide +kernel
theorem gz_230_39 : mz_pg 230 39 = some (.baload, 0, 0, 0) := by decide +kernel
theorem gz_230_40 : mz_pg 230 40 = some (.if_icmp .ne 7, 0, 0, 0) := by decide +kernel
theorem gz_230_43 : mz_pg 230 43 = some (.iconst 1, 0, 0, 0) := by decide +kernel
theorem gz_230_44 : mz_pg 230 44 = some (.goto 4, 0, 0, 0) := by decide +kernel
theorem gz_230_47 : mz_pg 230 47 = some (.iconst 0, 0, 0, 0) := by decide +kernel
theorem gz_230_48 : mz_pg 230 48 = some (.istore_n 3, 0, 0, 0) := by decide +kernel
theorem gz_230_49 : mz_pg 230 49 = some (.iconst 0, 0, 0, 0) := by decide +kernel
theorem gz_230_50 : mz_pg 230 50 = some (.istore 5, 0, 0, 0) := by decide +kernel
theorem gz_230_52 : mz_pg 230 52 = some (.iload 5, 0, 0, 0) := by decide +kernel
theorem gz_230_54 : mz_pg 230 54 = some (.iconst 4, 0, 0, 0) := by decide +kernel
theorem gz_230_55 : mz_pg 230 55 = some (.if_icmp .ge 71, 0, 0, 0) := by decide +kernel
theorem gz_230_58 : mz_pg 230 58 = some (.iload_n 3, 0, 0, 0) := by decide +kernel
theorem gz_230_59 : mz_pg 230 59 = some (.ifCond .eq 67, 0, 0, 0) := by decide +kernel
theorem gz_230_62 : mz_pg 230 62 = some (.aload_n 0, 0, 0, 0) := by decide +kernel
theorem gz_230_63 : mz_pg 230 63 = some (.getfield 77, 10, 15, 1228) := by decide +kernel
theorem gz_230_66 : mz_pg 230 66 = some (.bipush 60, 0, 0, 0) := by decide +kernel
theorem gz_230_68 : mz_pg 230 68 = some (.iload_n 1, 0, 0, 0) := by decide +kernel
theorem gz_230_69 : mz_pg 230 69 = some (.imul, 0, 0, 0) := by decide +kernel
theorem gz_230_70 : mz_pg 230 70 = some (.iload 4, 0, 0, 0) := by decide +kernel
theorem gz_230_72 : mz_pg 230 72 = some (.iadd, 0, 0, 0) := by decide +kernel
theorem gz_230_73 : mz_pg 230 73 = some (.baload, 0, 0, 0) := by decide +kernel
theorem gz_230_74 : mz_pg 230 74 = some (.ifCond .eq 52, 0, 0, 0) := by decide +kernel
theorem gz_230_77 : mz_pg 230 77 = some (.aload_n 0, 0, 0, 0) := by decide +kernel
theorem gz_230_78 : mz_pg 230 78 = some (.getfield 80, 10, 16, 1229) := by decide +kernel
theorem gz_230_81 : mz_pg 230 81 = some (.iconst 4, 0, 0, 0) := by decide +kernel
theorem gz_230_82 : mz_pg 230 82 = some (.bipush 60, 0, 0, 0) := by decide +kernel
theorem gz_230_84 : mz_pg 230 84 = some (.iload_n 1, 0, 0, 0) := by decide +kernel
theorem gz_230_85 : mz_pg 230 85 = some (.imul, 0, 0, 0) := by decide +kernel
theorem gz_230_86 : mz_pg 230 86 = some (.iload 4, 0, 0, 0) := by decide +kernel
theorem gz_230_88 : mz_pg 230 88 = some (.iadd, 0, 0, 0) := by decide +kernel
theorem gz_230_89 : mz_pg 230 89 = some (.imul, 0, 0, 0) := by decide +kernel
theorem gz_230_90 : mz_pg 230 90 = some (.iload 5, 0, 0, 0) := by decide +kernel
theorem gz_230_92 : mz_pg 230 92 = some (.iadd, 0, 0, 0) := by decide +kernel
theorem gz_230_93 : mz_pg 230 93 = some (.iaload, 0, 0, 0) := by decide +kernel
theorem gz_230_94 : mz_pg 230 94 = some (.aload_n 0, 0, 0, 0) := by decide +kernel
theorem gz_230_95 : mz_pg 230 95 = some (.getfield 80, 10, 16, 1229) := by decide +kernel
theorem gz_230_98 : mz_pg 230 98 = some (.iconst 4, 0, 0, 0) := by decide +kernel
theorem gz_230_99 : mz_pg 230 99 = some (.bipush 60, 0, 0, 0) := by decide +kernel
theorem gz_230_101 : mz_pg 230 101 = some (.iload_n 2, 0, 0, 0) := by decide +kernel
theorem gz_230_102 : mz_pg 230 102 = some (.imul, 0, 0, 0) := by decide +kernel
theorem gz_230_103 : mz_pg 230 103 = some (.iload 4, 0, 0, 0) := by decide +kernel
theorem gz_230_105 : mz_pg 230 105 = some (.iadd, 0, 0, 0) := by decide +kernel
theorem gz_230_106 : mz_pg 230 106 = some (.imul, 0, 0, 0) := by decide +kernel
theorem gz_230_107 : mz_pg 230 107 = some (.iload 5, 0, 0, 0) := by decide +kernel
theorem gz_230_109 : mz_pg 230 109 = some (.iadd, 0, 0, 0) := by decide +kernel
theorem gz_230_110 : mz_pg 230 110 = some (.iaload, 0, 0, 0) := by decide +kernel
theorem gz_230_111 : mz_pg 230 111 = some (.if_icmp .ne 7, 0, 0, 0) := by decide +kernel
theorem gz_230_114 : mz_pg 230 114 = some (.iconst 1, 0, 0, 0) := by decide +kernel
theorem gz_230_115 : mz_pg 230 115 = some (.goto 4, 0, 0, 0) := by decide +kernel
theorem gz_230_118 : mz_pg 230 118 = some (.iconst 0, 0, 0, 0) := by decide +kernel
theorem gz_230_119 : mz_pg 230 119 = some (.istore_n 3, 0, 0, 0) := by decide +kernel
theorem gz_230_120 : mz_pg 230 120 = some (.iinc 5 1, 0, 0, 0) := by decide +kernel
theorem gz_230_123 : mz_pg 230 123 = some (.goto (-71), 0, 0, 0) := by decide +kernel
theorem gz_230_126 : mz_pg 230 126 = some (.iinc 4 1, 0, 0, 0) := by decide +kernel
theorem gz_230_129 : mz_pg 230 129 = some (.goto (-124), 0, 0, 0) := by decide +kernel
theorem gz_230_132 : mz_pg 230 132 = some (.iload_n 3, 0, 0, 0) := by decide +kernel
theorem gz_230_133 : mz_pg 230 133 = some (.ireturn, 0, 0, 0) := by decide +kernel
theorem gm_230 : my_mm 230 6 (some .boolean) 2 10 := by unfold my_mm; decide +kernel
theorem c36_Model_areAlike {l : Launch} {rho : Nat → Int32} {d : Nat} {h : my_H} {Q : my_H → my_V → Prop} {x0 x1 x2 : Int} (t0 : my_is 10 x0) (a1 : 5 ≤ x1) (b1 : x1 ≤ 6) (a2 : 0 ≤ x2) (b2 : x2 ≤ 15) (k0 : ∀ (y : Int), 0 ≤ y → y ≤ 1 → Q h (0, y)) : wp l rho d 230 0 [(2, x0), (0, x1), (0, x2), (9, 0), (9, 0), (9, 0)] [] h Q := by
  have J5_0 : ∀ (n : Nat) (p5_0 p5_1 : Int), 0 ≤ p5_0 → p5_0 ≤ 1 → 0 ≤ p5_1 → p5_1 ≤ 60 → 61 - p5_1 ≤ (n : Int) → wp l rho d 230 5 [(2, x0), (0, x1), (0, x2), (0, p5_0), (0, p5_1), (9, 0)] [] h Q := by
    intro n
    induction n with
    | zero => intro p5_0 p5_1 q0_5_0 q1_5_0 q2_5_0 q3_5_0 hm_5_0; exfalso; omega
    | succ n ih_5_0 =>
      intro p5_0 p5_1 q0_5_0 q1_5_0 q2_5_0 q3_5_0 hm_5_0
      have J126_0 : ∀ (p126_0 p126_1 : Int), 0 ≤ p126_0 → p126_0 ≤ 1 → p5_1 ≤ 59 → 0 ≤ p126_1 → p126_1 ≤ 4 → p126_0 ≤ p5_0 → wp l rho d 230 126 [(2, x0), (0, x1), (0, x2), (0, p126_0), (0, p5_1), (0, p126_1)] [] h Q := by
        intro p126_0 p126_1 q0_126_0 q1_126_0 q2_126_0 q3_126_0 q4_126_0 q5_126_0
        refine w_iinc (ls' := [(2, x0), (0, x1), (0, x2), (0, p126_0), (0, (p5_1 + 1)), (0, p126_1)]) gz_230_126 rfl gm_230 rfl rfl rfl ⟨by omega, by omega⟩ ?_
        refine w_goto (t := 5) gz_230_129 rfl ?_
        refine w_weak (ls' := [(2, x0), (0, x1), (0, x2), (0, p126_0), (0, (p5_1 + 1)), (9, 0)]) (wk_e (wk_e (wk_e (wk_e (wk_e (wk_9 wk_n)))))) ?_
        exact ih_5_0 (p126_0) ((p5_1 + 1)) (by omega) (by omega) (by omega) (by omega) (by omega)
      have J52_0 : ∀ (n : Nat) (p52_0 p52_1 : Int), 0 ≤ p52_0 → p52_0 ≤ 1 → p5_1 ≤ 59 → 0 ≤ p52_1 → p52_1 ≤ 4 → p52_0 ≤ p5_0 → 5 - p52_1 ≤ (n : Int) → wp l rho d 230 52 [(2, x0), (0, x1), (0, x2), (0, p52_0), (0, p5_1), (0, p52_1)] [] h Q := by
        intro n
        induction n with
        | zero => intro p52_0 p52_1 q0_52_0 q1_52_0 q2_52_0 q3_52_0 q4_52_0 q5_52_0 hm_52_0; exfalso; omega
        | succ n ih_52_0 =>
          intro p52_0 p52_1 q0_52_0 q1_52_0 q2_52_0 q3_52_0 q4_52_0 q5_52_0 hm_52_0
          refine w_iload gz_230_52 rfl ?_
          refine w_iconst gz_230_54 (by decide) ?_
          refine w_icge (t := 126) gz_230_55 rfl (fun u1 => ?_) (fun u1 => ?_)
          ·
            exact J126_0 (p52_0) (p52_1) (by omega) (by omega) (by omega) (by omega) (by omega) (by omega)
          ·
            refine w_iload_n gz_230_58 rfl ?_
            refine w_ifeq (t := 126) gz_230_59 rfl (fun u2 => ?_) (fun u2 => ?_)
            ·
              exact J126_0 (p52_0) (p52_1) (by omega) (by omega) (by omega) (by omega) (by omega) (by omega)
            ·
              refine w_aload_n gz_230_62 rfl ?_
              refine w_getR gz_230_63 t0 rd_10 rfl (fun v3 ev3 tv3 => ?_)
              refine w_bipush gz_230_66 (by decide) ?_
              refine w_iload_n gz_230_68 rfl ?_
              refine w_imul gz_230_69 ⟨by omega, by omega⟩ ?_
              refine w_iload gz_230_70 rfl ?_
              refine w_iadd gz_230_72 ⟨by omega, by omega⟩ ?_
              refine w_bald gz_230_73 tv3 rd_61 (by omega) (by omega) (fun v4 ev4 pv4 qv4 => ?_)
              refine w_ifeq (t := 126) gz_230_74 rfl (fun u5 => ?_) (fun u5 => ?_)
              ·
                exact J126_0 (p52_0) (p52_1) (by omega) (by omega) (by omega) (by omega) (by omega) (by omega)
              ·
                refine w_aload_n gz_230_77 rfl ?_
                refine w_getR gz_230_78 t0 rd_10 rfl (fun v6 ev6 tv6 => ?_)
                refine w_iconst gz_230_81 (by decide) ?_
                refine w_bipush gz_230_82 (by decide) ?_
                refine w_iload_n gz_230_84 rfl ?_
                refine w_imul gz_230_85 ⟨by omega, by omega⟩ ?_
                refine w_iload gz_230_86 rfl ?_
                refine w_iadd gz_230_88 ⟨by omega, by omega⟩ ?_
                refine w_imul gz_230_89 ⟨by omega, by omega⟩ ?_
                refine w_iload gz_230_90 rfl ?_
                refine w_iadd gz_230_92 ⟨by omega, by omega⟩ ?_
                refine w_iald gz_230_93 tv6 rd_62 (by omega) (by omega) (fun v7 ev7 pv7 qv7 => ?_)
                refine w_aload_n gz_230_94 rfl ?_
                refine w_getR gz_230_95 t0 rd_10 rfl (fun v8 ev8 tv8 => ?_)
                have zv8 : v6 = v8 := (ev8.trans ev6.symm).symm
                subst zv8
                refine w_iconst gz_230_98 (by decide) ?_
                refine w_bipush gz_230_99 (by decide) ?_
                refine w_iload_n gz_230_101 rfl ?_
                refine w_imul gz_230_102 ⟨by omega, by omega⟩ ?_
                refine w_iload gz_230_103 rfl ?_
                refine w_iadd gz_230_105 ⟨by omega, by omega⟩ ?_
                refine w_imul gz_230_106 ⟨by omega, by omega⟩ ?_
                refine w_iload gz_230_107 rfl ?_
                refine w_iadd gz_230_109 ⟨by omega, by omega⟩ ?_
                refine w_iald gz_230_110 tv6 rd_62 (by omega) (by omega) (fun v9 ev9 pv9 qv9 => ?_)
                refine w_icne (t := 118) gz_230_111 rfl (fun u10 => ?_) (fun u10 => ?_)
                ·
                  refine w_iconst gz_230_118 (by decide) ?_
                  refine w_istore_n (ls' := [(2, x0), (0, x1), (0, x2), (0, 0), (0, p5_1), (0, p52_1)]) gz_230_119 gm_230 rfl rfl rfl ?_
                  refine w_iinc (ls' := [(2, x0), (0, x1), (0, x2), (0, 0), (0, p5_1), (0, (p52_1 + 1))]) gz_230_120 rfl gm_230 rfl rfl rfl ⟨by omega, by omega⟩ ?_
                  refine w_goto (t := 52) gz_230_123 rfl ?_
                  exact ih_52_0 (0) ((p52_1 + 1)) (by omega) (by omega) (by omega) (by omega) (by omega) (by omega) (by omega)
                ·
                  refine w_iconst gz_230_114 (by decide) ?_
                  refine w_goto (t := 119) gz_230_115 rfl ?_
                  refine w_istore_n (ls' := [(2, x0), (0, x1), (0, x2), (0, 1), (0, p5_1), (0, p52_1)]) gz_230_119 gm_230 rfl rfl rfl ?_
                  refine w_iinc (ls' := [(2, x0), (0, x1), (0, x2), (0, 1), (0, p5_1), (0, (p52_1 + 1))]) gz_230_120 rfl gm_230 rfl rfl rfl ⟨by omega, by omega⟩ ?_
                  refine w_goto (t := 52) gz_230_123 rfl ?_
                  exact ih_52_0 (1) ((p52_1 + 1)) (by omega) (by omega) (by omega) (by omega) (by omega) (by omega) (by omega)
      have J47_0 : ∀ (p47_0 : Int), 0 ≤ p47_0 → p47_0 ≤ 1 → p5_1 ≤ 59 → p47_0 ≤ p5_0 → p5_0 ≤ p47_0 → wp l rho d 230 47 [(2, x0), (0, x1), (0, x2), (0, p47_0), (0, p5_1), (9, 0)] [] h Q := by
        intro p47_0 q0_47_0 q1_47_0 q2_47_0 q3_47_0 q4_47_0
        refine w_iconst gz_230_47 (by decide) ?_
        refine w_istore_n (ls' := [(2, x0), (0, x1), (0, x2), (0, 0), (0, p5_1), (9, 0)]) gz_230_48 gm_230 rfl rfl rfl ?_
        refine w_iconst gz_230_49 (by decide) ?_
        refine w_istore (ls' := [(2, x0), (0, x1), (0, x2), (0, 0), (0, p5_1), (0, 0)]) gz_230_50 gm_230 rfl rfl rfl ?_
        exact J52_0 5 (0) (0) (by omega) (by omega) (by omega) (by omega) (by omega) (by omega) (by omega)
      refine w_iload gz_230_5 rfl ?_
      refine w_bipush gz_230_7 (by decide) ?_
      refine w_icge (t := 132) gz_230_9 rfl (fun u11 => ?_) (fun u11 => ?_)
      ·
        refine w_iload_n gz_230_132 rfl ?_
        exact w_bret gz_230_133 gm_230 (by omega) (by omega) (k0 (p5_0) (by omega) (by omega))
      ·
        refine w_iload_n gz_230_12 rfl ?_
        refine w_ifeq (t := 47) gz_230_13 rfl (fun u12 => ?_) (fun u12 => ?_)
        ·
          exact J47_0 (p5_0) (by omega) (by omega) (by omega) (by omega) (by omega)
        ·
          refine w_aload_n gz_230_16 rfl ?_
          refine w_getR gz_230_17 t0 rd_10 rfl (fun v13 ev13 tv13 => ?_)
          refine w_bipush gz_230_20 (by decide) ?_
          refine w_iload_n gz_230_22 rfl ?_
          refine w_imul gz_230_23 ⟨by omega, by omega⟩ ?_
          refine w_iload gz_230_24 rfl ?_
          refine w_iadd gz_230_26 ⟨by omega, by omega⟩ ?_
          refine w_bald gz_230_27 tv13 rd_61 (by omega) (by omega) (fun v14 ev14 pv14 qv14 => ?_)
          refine w_aload_n gz_230_28 rfl ?_
          refine w_getR gz_230_29 t0 rd_10 rfl (fun v15 ev15 tv15 => ?_)
          have zv15 : v13 = v15 := (ev15.trans ev13.symm).symm
          subst zv15
          refine w_bipush gz_230_32 (by decide) ?_
          refine w_iload_n gz_230_34 rfl ?_
          refine w_imul gz_230_35 ⟨by omega, by omega⟩ ?_
          refine w_iload gz_230_36 rfl ?_
          refine w_iadd gz_230_38 ⟨by omega, by omega⟩ ?_
          refine w_bald gz_230_39 tv13 rd_61 (by omega) (by omega) (fun v16 ev16 pv16 qv16 => ?_)
          refine w_icne (t := 47) gz_230_40 rfl (fun u17 => ?_) (fun u17 => ?_)
          ·
            exact J47_0 (p5_0) (by omega) (by omega) (by omega) (by omega) (by omega)
          ·
            refine w_iconst gz_230_43 (by decide) ?_
            refine w_goto (t := 48) gz_230_44 rfl ?_
            refine w_istore_n (ls' := [(2, x0), (0, x1), (0, x2), (0, 1), (0, p5_1), (9, 0)]) gz_230_48 gm_230 rfl rfl rfl ?_
            refine w_iconst gz_230_49 (by decide) ?_
            refine w_istore (ls' := [(2, x0), (0, x1), (0, x2), (0, 1), (0, p5_1), (0, 0)]) gz_230_50 gm_230 rfl rfl rfl ?_
            exact J52_0 5 (1) (0) (by omega) (by omega) (by omega) (by omega) (by omega) (by omega) (by omega)
  refine w_iconst gz_230_0 (by decide) ?_
  refine w_istore_n (ls' := [(2, x0), (0, x1), (0, x2), (0, 1), (9, 0), (9, 0)]) gz_230_1 gm_230 rfl rfl rfl ?_
  refine w_iconst gz_230_2 (by decide) ?_
  refine w_istore (ls' := [(2, x0), (0, x1), (0, x2), (0, 1), (0, 0), (9, 0)]) gz_230_3 gm_230 rfl rfl rfl ?_
  exact J5_0 61 (1) (0) (by omega) (by omega) (by omega) (by omega) (by omega)
theorem gz_235_0 : mz_pg 235 0 = some (.iconst 0, 0, 0, 0) := by decide +kernel
theorem gz_235_1 : mz_pg 235 1 = some (.istore 6, 0, 0, 0) := by decide +kernel
theorem gz_235_3 : mz_pg 235 3 = some (.iconst 0, 0, 0, 0) := by decide +kernel
theorem gz_235_4 : mz_pg 235 4 = some (.istore 7, 0, 0, 0) := by decide +kernel
theorem gz_235_6 : mz_pg 235 6 = some (.iload 7, 0, 0, 0) := by decide +kernel
theorem gz_235_8 : mz_pg 235 8 = some (.bipush 20, 0, 0, 0) := by decide +kernel
theorem gz_235_10 : mz_pg 235 10 = some (.if_icmp .ge 115, 0, 0, 0) := by decide +kernel
theorem gz_235_13 : mz_pg 235 13 = some (.aload_n 0, 0, 0, 0) := by decide +kernel
theorem gz_235_14 : mz_pg 235 14 = some (.getfield 77, 10, 15, 1228) := by decide +kernel
theorem gz_235_17 : mz_pg 235 17 = some (.iconst 0, 0, 0, 0) := by decide +kernel
theorem gz_235_18 : mz_pg 235 18 = some (.iload_n 1, 0, 0, 0) := by decide +kernel
theorem gz_235_19 : mz_pg 235 19 = some (.iload 7, 0, 0, 0) := by decide +kernel
theorem gz_235_21 : mz_pg 235 21 = some (.invokestatic 242, 1, 150, 1429) := by decide +kernel
theorem gz_235_24 : mz_pg 235 24 = some (.baload, 0, 0, 0) := by decide +kernel
theorem gz_235_25 : mz_pg 235 25 = some (.ifCond .eq 94, 0, 0, 0) := by decide +kernel
theorem gz_235_28 : mz_pg 235 28 = some (.aload_n 0, 0, 0, 0) := by decide +kernel
theorem gz_235_29 : mz_pg 235 29 = some (.iconst 0, 0, 0, 0) := by decide +kernel
theorem gz_235_30 : mz_pg 235 30 = some (.iload_n 1, 0, 0, 0) := by decide +kernel
theorem gz_235_31 : mz_pg 235 31 = some (.iload 7, 0, 0, 0) := by decide +kernel
theorem gz_235_33 : mz_pg 235 33 = some (.iload_n 3, 0, 0, 0) := by decide +kernel
theorem gz_235_34 : mz_pg 235 34 = some (.invokevirtual 246, 1, 157, 1450) := by decide +kernel
theorem gz_235_37 : mz_pg 235 37 = some (.istore 8, 0, 0, 0) := by decide +kernel
theorem gz_235_39 : mz_pg 235 39 = some (.iload 4, 0, 0, 0) := by decide +kernel
theorem gz_235_41 : mz_pg 235 41 = some (.ifCond .ne 18, 0, 0, 0) := by decide +kernel
theorem gz_235_44 : mz_pg 235 44 = some (.iload 8, 0, 0, 0) := by decide +kernel
theorem gz_235_46 : mz_pg 235 46 = some (.iload 5, 0, 0, 0) := by decide +kernel
theorem gz_235_48 : mz_pg 235 48 = some (.if_icmp .ge 7, 0, 0, 0) := by decide +kernel
theorem gz_235_51 : mz_pg 235 51 = some (.iconst 1, 0, 0, 0) := by decide +kernel
theorem gz_235_52 : mz_pg 235 52 = some (.goto 40, 0, 0, 0) := by decide +kernel
theorem gz_235_55 : mz_pg 235 55 = some (.iconst 0, 0, 0, 0) := by decide +kernel
theorem gz_235_56 : mz_pg 235 56 = some (.goto 36, 0, 0, 0) := by decide +kernel
theorem gz_235_59 : mz_pg 235 59 = some (.iload 4, 0, 0, 0) := by decide +kernel
theorem gz_235_61 : mz_pg 235 61 = some (.iconst 1, 0, 0, 0) := by decide +kernel
theorem gz_235_62 : mz_pg 235 62 = some (.if_icmp .ne 18, 0, 0, 0) := by decide +kernel
theorem gz_235_65 : mz_pg 235 65 = some (.iload 8, 0, 0, 0) := by decide +kernel
theorem gz_235_67 : mz_pg 235 67 = some (.iload 5, 0, 0, 0) := by decide +kernel
theorem gz_235_69 : mz_pg 235 69 = some (.if_icmp .ne 7, 0, 0, 0) := by decide +kernel
theorem gz_235_72 : mz_pg 235 72 = some (.iconst 1, 0, 0, 0) := by decide +kernel
theorem gz_235_73 : mz_pg 235 73 = some (.goto 19, 0, 0, 0) := by decide +kernel
theorem gz_235_76 : mz_pg 235 76 = some (.iconst 0, 0, 0, 0) := by decide +kernel
theorem gz_235_77 : mz_pg 235 77 = some (.goto 15, 0, 0, 0) := by decide +kernel
theorem gz_235_80 : mz_pg 235 80 = some (.iload 8, 0, 0, 0) := by decide +kernel
theorem gz_235_82 : mz_pg 235 82 = some (.iload 5, 0, 0, 0) := by decide +kernel
theorem gz_235_84 : mz_pg 235 84 = some (.if_icmp .le 7, 0, 0, 0) := by decide +kernel
theorem gz_235_87 : mz_pg 235 87 = some (.iconst 1, 0, 0, 0) := by decide +kernel
theorem gz_235_88 : mz_pg 235 88 = some (.goto 4, 0, 0, 0) := by decide +kernel
theorem gz_235_91 : mz_pg 235 91 = some (.iconst 0, 0, 0, 0) := by decide +kernel
theorem gz_235_92 : mz_pg 235 92 = some (.istore 9, 0, 0, 0) := by decide +kernel
theorem gz_235_94 : mz_pg 235 94 = some (.iload 9, 0, 0, 0) := by decide +kernel
theorem gz_235_96 : mz_pg 235 96 = some (.iload_n 2, 0, 0, 0) := by decide +kernel
theorem gz_235_97 : mz_pg 235 97 = some (.iload 6, 0, 0, 0) := by decide +kernel
theorem gz_235_99 : mz_pg 235 99 = some (.ishr, 0, 0, 0) := by decide +kernel
theorem gz_235_100 : mz_pg 235 100 = some (.iconst 1, 0, 0, 0) := by decide +kernel
theorem gz_235_101 : mz_pg 235 101 = some (.iand, 0, 0, 0) := by decide +kernel
theorem gz_235_102 : mz_pg 235 102 = some (.iconst 1, 0, 0, 0) := by decide +kernel
theorem gz_235_103 : mz_pg 235 103 = some (.if_icmp .ne 7, 0, 0, 0) := by decide +kernel
theorem gz_235_106 : mz_pg 235 106 = some (.iconst 1, 0, 0, 0) := by decide +kernel
theorem gz_235_107 : mz_pg 235 107 = some (.goto 4, 0, 0, 0) := by decide +kernel
theorem gz_235_110 : mz_pg 235 110 = some (.iconst 0, 0, 0, 0) := by decide +kernel
theorem gz_235_111 : mz_pg 235 111 = some (.if_icmp .eq 5, 0, 0, 0) := by decide +kernel
theorem gz_235_114 : mz_pg 235 114 = some (.iconst 0, 0, 0, 0) := by decide +kernel
theorem gz_235_115 : mz_pg 235 115 = some (.ireturn, 0, 0, 0) := by decide +kernel
theorem gz_235_116 : mz_pg 235 116 = some (.iinc 6 1, 0, 0, 0) := by decide +kernel
theorem gz_235_119 : mz_pg 235 119 = some (.iinc 7 1, 0, 0, 0) := by decide +kernel
theorem gz_235_122 : mz_pg 235 122 = some (.goto (-116), 0, 0, 0) := by decide +kernel
theorem gz_235_125 : mz_pg 235 125 = some (.iconst 1, 0, 0, 0) := by decide +kernel
theorem gz_235_126 : mz_pg 235 126 = some (.ireturn, 0, 0, 0) := by decide +kernel
theorem gm_235 : my_mm 235 10 (some .boolean) 5 10 := by unfold my_mm; decide +kernel
theorem c37_Model_isCut {l : Launch} {rho : Nat → Int32} {d : Nat} {h : my_H} {Q : my_H → my_V → Prop} {x0 x1 x2 x3 x4 x5 : Int} (t0 : my_is 10 x0) (a1 : 0 ≤ x1) (b1 : x1 ≤ 2) (a2 : 0 ≤ x2) (b2 : x2 ≤ 2147483646) (a3 : 0 ≤ x3) (b3 : x3 ≤ 3) (a4 : 0 ≤ x4) (b4 : x4 ≤ 2) (a5 : 0 ≤ x5) (b5 : x5 ≤ 199) (k0 : Q h (0, 0)) (k1 : Q h (0, 1)) : wp l rho (d + 2) 235 0 [(2, x0), (0, x1), (0, x2), (0, x3), (0, x4), (0, x5), (9, 0), (9, 0), (9, 0), (9, 0)] [] h Q := by
  have J6_0 : ∀ (n : Nat) (p6_0 p6_1 p6_2 : Int), 0 ≤ p6_0 → p6_0 ≤ 2 → 0 ≤ p6_1 → p6_1 ≤ 20 → 0 ≤ p6_2 → p6_2 ≤ 20 → p6_0 ≤ x4 → p6_1 ≤ p6_2 → x4 ≤ p6_0 → 21 - p6_2 ≤ (n : Int) → wp l rho (d + 2) 235 6 [(2, x0), (0, x1), (0, x2), (0, x3), (0, p6_0), (0, x5), (0, p6_1), (0, p6_2), (9, 0), (9, 0)] [] h Q := by
    intro n
    induction n with
    | zero => intro p6_0 p6_1 p6_2 q0_6_0 q1_6_0 q2_6_0 q3_6_0 q4_6_0 q5_6_0 q6_6_0 q7_6_0 q8_6_0 hm_6_0; exfalso; omega
    | succ n ih_6_0 =>
      intro p6_0 p6_1 p6_2 q0_6_0 q1_6_0 q2_6_0 q3_6_0 q4_6_0 q5_6_0 q6_6_0 q7_6_0 q8_6_0 hm_6_0
      have J92_1 : ∀ (p92_0 p92_1 : Int), 0 ≤ p92_0 → p92_0 ≤ 2 → p6_1 ≤ 19 → p6_2 ≤ 19 → 0 ≤ p92_1 → p92_1 ≤ 19 → p92_0 ≤ (p92_1 + 1) → p92_0 ≤ p6_0 → p92_0 ≤ x4 → p6_1 ≤ p6_2 → p6_0 ≤ p92_0 → p6_0 ≤ (p92_1 + 1) → p6_0 ≤ x4 → x4 ≤ p92_0 → x4 ≤ (p92_1 + 1) → x4 ≤ p6_0 → wp l rho (d + 2) 235 92 [(2, x0), (0, x1), (0, x2), (0, x3), (0, p92_0), (0, x5), (0, p6_1), (0, p6_2), (0, p92_1), (9, 0)] [(0, 1)] h Q := by
        intro p92_0 p92_1 q0_92_1 q1_92_1 q2_92_1 q3_92_1 q4_92_1 q5_92_1 q6_92_1 q7_92_1 q8_92_1 q9_92_1 q10_92_1 q11_92_1 q12_92_1 q13_92_1 q14_92_1 q15_92_1
        refine w_istore (ls' := [(2, x0), (0, x1), (0, x2), (0, x3), (0, p92_0), (0, x5), (0, p6_1), (0, p6_2), (0, p92_1), (0, 1)]) gz_235_92 gm_235 rfl rfl rfl ?_
        refine w_iload gz_235_94 rfl ?_
        refine w_iload_n gz_235_96 rfl ?_
        refine w_iload gz_235_97 rfl ?_
        refine w_ianyR gz_235_99 (fun v1 pv1 qv1 => ?_)
        refine w_iconst gz_235_100 (by decide) ?_
        refine w_iandM gz_235_101 (by decide) (fun v2 pv2 qv2 => ?_)
        refine w_iconst gz_235_102 (by decide) ?_
        refine w_icne (t := 110) gz_235_103 rfl (fun u3 => ?_) (fun u3 => ?_)
        ·
          refine w_iconst gz_235_110 (by decide) ?_
          refine w_iceq (t := 116) gz_235_111 rfl (fun u4 => by exfalso; omega) (fun u4 => ?_)
          refine w_iconst gz_235_114 (by decide) ?_
          exact w_bret gz_235_115 gm_235 (by omega) (by omega) (k0 )
        ·
          refine w_iconst gz_235_106 (by decide) ?_
          refine w_goto (t := 111) gz_235_107 rfl ?_
          refine w_iceq (t := 116) gz_235_111 rfl (fun u5 => ?_) (fun u5 => by exfalso; omega)
          refine w_iinc (ls' := [(2, x0), (0, x1), (0, x2), (0, x3), (0, p92_0), (0, x5), (0, (p6_1 + 1)), (0, p6_2), (0, p92_1), (0, 1)]) gz_235_116 rfl gm_235 rfl rfl rfl ⟨by omega, by omega⟩ ?_
          refine w_iinc (ls' := [(2, x0), (0, x1), (0, x2), (0, x3), (0, p92_0), (0, x5), (0, (p6_1 + 1)), (0, (p6_2 + 1)), (0, p92_1), (0, 1)]) gz_235_119 rfl gm_235 rfl rfl rfl ⟨by omega, by omega⟩ ?_
          refine w_goto (t := 6) gz_235_122 rfl ?_
          refine w_weak (ls' := [(2, x0), (0, x1), (0, x2), (0, x3), (0, p92_0), (0, x5), (0, (p6_1 + 1)), (0, (p6_2 + 1)), (9, 0), (9, 0)]) (wk_e (wk_e (wk_e (wk_e (wk_e (wk_e (wk_e (wk_e (wk_9 (wk_9 wk_n)))))))))) ?_
          exact ih_6_0 (p92_0) ((p6_1 + 1)) ((p6_2 + 1)) (by omega) (by omega) (by omega) (by omega) (by omega) (by omega) (by omega) (by omega) (by omega) (by omega)
      have J92_0 : ∀ (p92_0 p92_1 : Int), 0 ≤ p92_0 → p92_0 ≤ 2 → p6_1 ≤ 19 → p6_2 ≤ 19 → 0 ≤ p92_1 → p92_1 ≤ 19 → p92_0 ≤ p6_0 → p92_0 ≤ x4 → p6_1 ≤ p6_2 → p6_0 ≤ p92_0 → p6_0 ≤ x4 → x4 ≤ p92_0 → x4 ≤ p6_0 → wp l rho (d + 2) 235 92 [(2, x0), (0, x1), (0, x2), (0, x3), (0, p92_0), (0, x5), (0, p6_1), (0, p6_2), (0, p92_1), (9, 0)] [(0, 0)] h Q := by
        intro p92_0 p92_1 q0_92_0 q1_92_0 q2_92_0 q3_92_0 q4_92_0 q5_92_0 q6_92_0 q7_92_0 q8_92_0 q9_92_0 q10_92_0 q11_92_0 q12_92_0
        refine w_istore (ls' := [(2, x0), (0, x1), (0, x2), (0, x3), (0, p92_0), (0, x5), (0, p6_1), (0, p6_2), (0, p92_1), (0, 0)]) gz_235_92 gm_235 rfl rfl rfl ?_
        refine w_iload gz_235_94 rfl ?_
        refine w_iload_n gz_235_96 rfl ?_
        refine w_iload gz_235_97 rfl ?_
        refine w_ianyR gz_235_99 (fun v6 pv6 qv6 => ?_)
        refine w_iconst gz_235_100 (by decide) ?_
        refine w_iandM gz_235_101 (by decide) (fun v7 pv7 qv7 => ?_)
        refine w_iconst gz_235_102 (by decide) ?_
        refine w_icne (t := 110) gz_235_103 rfl (fun u8 => ?_) (fun u8 => ?_)
        ·
          refine w_iconst gz_235_110 (by decide) ?_
          refine w_iceq (t := 116) gz_235_111 rfl (fun u9 => ?_) (fun u9 => by exfalso; omega)
          refine w_iinc (ls' := [(2, x0), (0, x1), (0, x2), (0, x3), (0, p92_0), (0, x5), (0, (p6_1 + 1)), (0, p6_2), (0, p92_1), (0, 0)]) gz_235_116 rfl gm_235 rfl rfl rfl ⟨by omega, by omega⟩ ?_
          refine w_iinc (ls' := [(2, x0), (0, x1), (0, x2), (0, x3), (0, p92_0), (0, x5), (0, (p6_1 + 1)), (0, (p6_2 + 1)), (0, p92_1), (0, 0)]) gz_235_119 rfl gm_235 rfl rfl rfl ⟨by omega, by omega⟩ ?_
          refine w_goto (t := 6) gz_235_122 rfl ?_
          refine w_weak (ls' := [(2, x0), (0, x1), (0, x2), (0, x3), (0, p92_0), (0, x5), (0, (p6_1 + 1)), (0, (p6_2 + 1)), (9, 0), (9, 0)]) (wk_e (wk_e (wk_e (wk_e (wk_e (wk_e (wk_e (wk_e (wk_9 (wk_9 wk_n)))))))))) ?_
          exact ih_6_0 (p92_0) ((p6_1 + 1)) ((p6_2 + 1)) (by omega) (by omega) (by omega) (by omega) (by omega) (by omega) (by omega) (by omega) (by omega) (by omega)
        ·
          refine w_iconst gz_235_106 (by decide) ?_
          refine w_goto (t := 111) gz_235_107 rfl ?_
          refine w_iceq (t := 116) gz_235_111 rfl (fun u10 => by exfalso; omega) (fun u10 => ?_)
          refine w_iconst gz_235_114 (by decide) ?_
          exact w_bret gz_235_115 gm_235 (by omega) (by omega) (k0 )
      refine w_iload gz_235_6 rfl ?_
      refine w_bipush gz_235_8 (by decide) ?_
      refine w_icge (t := 125) gz_235_10 rfl (fun u11 => ?_) (fun u11 => ?_)
      ·
        refine w_iconst gz_235_125 (by decide) ?_
        exact w_bret gz_235_126 gm_235 (by omega) (by omega) (k1 )
      ·
        refine w_aload_n gz_235_13 rfl ?_
        refine w_getR gz_235_14 t0 rd_10 rfl (fun v12 ev12 tv12 => ?_)
        refine w_iconst gz_235_17 (by decide) ?_
        refine w_iload_n gz_235_18 rfl ?_
        refine w_iload gz_235_19 rfl ?_
        refine w_inS (k := 0) (as := [(0, p6_2), (0, x1), (0, 0)]) (r := [(2, v12)]) (ls0 := [(0, 0), (0, x1), (0, p6_2)]) gz_235_21 gm_150 rfl rfl rfl rfl rfl rfl ?_
        refine w_bipush gz_150_0 (by decide) ?_
        refine w_iload_n gz_150_2 rfl ?_
        refine w_imul gz_150_3 ⟨by omega, by omega⟩ ?_
        refine w_bipush gz_150_4 (by decide) ?_
        refine w_iload_n gz_150_6 rfl ?_
        refine w_imul gz_150_7 ⟨by omega, by omega⟩ ?_
        refine w_iadd gz_150_8 ⟨by omega, by omega⟩ ?_
        refine w_iload_n gz_150_9 rfl ?_
        refine w_iadd gz_150_10 ⟨by omega, by omega⟩ ?_
        refine w_iret gz_150_11 gm_150 ?_
        show wp l rho (d + 2) 235 24 [(2, x0), (0, x1), (0, x2), (0, x3), (0, p6_0), (0, x5), (0, p6_1), (0, p6_2), (9, 0), (9, 0)] [(0, (((60 * 0) + (20 * x1)) + p6_2)), (2, v12)] h Q
        refine w_bald gz_235_24 tv12 rd_61 (by omega) (by omega) (fun v13 ev13 pv13 qv13 => ?_)
        refine w_ifeq (t := 119) gz_235_25 rfl (fun u14 => ?_) (fun u14 => ?_)
        ·
          refine w_iinc (ls' := [(2, x0), (0, x1), (0, x2), (0, x3), (0, p6_0), (0, x5), (0, p6_1), (0, (p6_2 + 1)), (9, 0), (9, 0)]) gz_235_119 rfl gm_235 rfl rfl rfl ⟨by omega, by omega⟩ ?_
          refine w_goto (t := 6) gz_235_122 rfl ?_
          exact ih_6_0 (p6_0) (p6_1) ((p6_2 + 1)) (by omega) (by omega) (by omega) (by omega) (by omega) (by omega) (by omega) (by omega) (by omega) (by omega)
        ·
          refine w_aload_n gz_235_28 rfl ?_
          refine w_iconst gz_235_29 (by decide) ?_
          refine w_iload_n gz_235_30 rfl ?_
          refine w_iload gz_235_31 rfl ?_
          refine w_iload_n gz_235_33 rfl ?_
          refine w_inv (k := 0) (as := [(0, x3), (0, p6_2), (0, x1), (0, 0)]) (r := []) (x := x0) (ls0 := [(2, x0), (0, 0), (0, x1), (0, p6_2), (0, x3)]) gz_235_34 gm_157 rfl t0 rd_10 rfl rfl rfl rfl rfl ?_
          refine w_aload_n gz_157_0 rfl ?_
          refine w_getR gz_157_1 t0 rd_10 rfl (fun v15 ev15 tv15 => ?_)
          refine w_iconst gz_157_4 (by decide) ?_
          refine w_iload_n gz_157_5 rfl ?_
          refine w_iload_n gz_157_6 rfl ?_
          refine w_iload_n gz_157_7 rfl ?_
          refine w_inS (k := 0) (as := [(0, p6_2), (0, x1), (0, 0)]) (r := [(0, 4), (2, v15)]) (ls0 := [(0, 0), (0, x1), (0, p6_2)]) gz_157_8 gm_150 rfl rfl rfl rfl rfl rfl ?_
          refine w_bipush gz_150_0 (by decide) ?_
          refine w_iload_n gz_150_2 rfl ?_
          refine w_imul gz_150_3 ⟨by omega, by omega⟩ ?_
          refine w_bipush gz_150_4 (by decide) ?_
          refine w_iload_n gz_150_6 rfl ?_
          refine w_imul gz_150_7 ⟨by omega, by omega⟩ ?_
          refine w_iadd gz_150_8 ⟨by omega, by omega⟩ ?_
          refine w_iload_n gz_150_9 rfl ?_
          refine w_iadd gz_150_10 ⟨by omega, by omega⟩ ?_
          refine w_iret gz_150_11 gm_150 ?_
          show wp l rho (d + 1) 157 11 [(2, x0), (0, 0), (0, x1), (0, p6_2), (0, x3)] [(0, (((60 * 0) + (20 * x1)) + p6_2)), (0, 4), (2, v15)] h _
          refine w_imul gz_157_11 ⟨by omega, by omega⟩ ?_
          refine w_iload gz_157_12 rfl ?_
          refine w_iadd gz_157_14 ⟨by omega, by omega⟩ ?_
          refine w_iald gz_157_15 tv15 rd_62 (by omega) (by omega) (fun v16 ev16 pv16 qv16 => ?_)
          refine w_iret gz_157_16 gm_157 ?_
          show wp l rho (d + 2) 235 37 [(2, x0), (0, x1), (0, x2), (0, x3), (0, p6_0), (0, x5), (0, p6_1), (0, p6_2), (9, 0), (9, 0)] [(0, v16)] h Q
          refine w_istore (ls' := [(2, x0), (0, x1), (0, x2), (0, x3), (0, p6_0), (0, x5), (0, p6_1), (0, p6_2), (0, v16), (9, 0)]) gz_235_37 gm_235 rfl rfl rfl ?_
          refine w_iload gz_235_39 rfl ?_
          refine w_ifne (t := 59) gz_235_41 rfl (fun u17 => ?_) (fun u17 => ?_)
          ·
            refine w_iload gz_235_59 rfl ?_
            refine w_iconst gz_235_61 (by decide) ?_
            refine w_icne (t := 80) gz_235_62 rfl (fun u18 => ?_) (fun u18 => ?_)
            ·
              refine w_iload gz_235_80 rfl ?_
              refine w_iload gz_235_82 rfl ?_
              refine w_icle (t := 91) gz_235_84 rfl (fun u19 => ?_) (fun u19 => ?_)
              ·
                refine w_iconst gz_235_91 (by decide) ?_
                exact J92_0 (p6_0) (v16) (by omega) (by omega) (by omega) (by omega) (by omega) (by omega) (by omega) (by omega) (by omega) (by omega) (by omega) (by omega) (by omega)
              ·
                refine w_iconst gz_235_87 (by decide) ?_
                refine w_goto (t := 92) gz_235_88 rfl ?_
                exact J92_1 (p6_0) (v16) (by omega) (by omega) (by omega) (by omega) (by omega) (by omega) (by omega) (by omega) (by omega) (by omega) (by omega) (by omega) (by omega) (by omega) (by omega) (by omega)
            ·
              refine w_iload gz_235_65 rfl ?_
              refine w_iload gz_235_67 rfl ?_
              refine w_icne (t := 76) gz_235_69 rfl (fun u20 => ?_) (fun u20 => ?_)
              ·
                refine w_iconst gz_235_76 (by decide) ?_
                refine w_goto (t := 92) gz_235_77 rfl ?_
                exact J92_0 (p6_0) (v16) (by omega) (by omega) (by omega) (by omega) (by omega) (by omega) (by omega) (by omega) (by omega) (by omega) (by omega) (by omega) (by omega)
              ·
                refine w_iconst gz_235_72 (by decide) ?_
                refine w_goto (t := 92) gz_235_73 rfl ?_
                exact J92_1 (p6_0) (v16) (by omega) (by omega) (by omega) (by omega) (by omega) (by omega) (by omega) (by omega) (by omega) (by omega) (by omega) (by omega) (by omega) (by omega) (by omega) (by omega)
          ·
            refine w_iload gz_235_44 rfl ?_
            refine w_iload gz_235_46 rfl ?_
            refine w_icge (t := 55) gz_235_48 rfl (fun u21 => ?_) (fun u21 => ?_)
            ·
              refine w_iconst gz_235_55 (by decide) ?_
              refine w_goto (t := 92) gz_235_56 rfl ?_
              exact J92_0 (p6_0) (v16) (by omega) (by omega) (by omega) (by omega) (by omega) (by omega) (by omega) (by omega) (by omega) (by omega) (by omega) (by omega) (by omega)
            ·
              refine w_iconst gz_235_51 (by decide) ?_
              refine w_goto (t := 92) gz_235_52 rfl ?_
              exact J92_1 (p6_0) (v16) (by omega) (by omega) (by omega) (by omega) (by omega) (by omega) (by omega) (by omega) (by omega) (by omega) (by omega) (by omega) (by omega) (by omega) (by omega) (by omega)
  refine w_iconst gz_235_0 (by decide) ?_
  refine w_istore (ls' := [(2, x0), (0, x1), (0, x2), (0, x3), (0, x4), (0, x5), (0, 0), (9, 0), (9, 0), (9, 0)]) gz_235_1 gm_235 rfl rfl rfl ?_
  refine w_iconst gz_235_3 (by decide) ?_
  refine w_istore (ls' := [(2, x0), (0, x1), (0, x2), (0, x3), (0, x4), (0, x5), (0, 0), (0, 0), (9, 0), (9, 0)]) gz_235_4 gm_235 rfl rfl rfl ?_
  exact J6_0 21 (x4) (0) (0) (by omega) (by omega) (by omega) (by omega) (by omega) (by omega) (by omega) (by omega) (by omega) (by omega)
theorem gz_240_0 : mz_pg 240 0 = some (.iconst 0, 0, 0, 0) := by decide +kernel
theorem gz_240_1 : mz_pg 240 1 = some (.istore 5, 0, 0, 0) := by decide +kernel
theorem gz_240_3 : mz_pg 240 3 = some (.iconst 0, 0, 0, 0) := by decide +kernel
theorem gz_240_4 : mz_pg 240 4 = some (.istore 6, 0, 0, 0) := by decide +kernel
theorem gz_240_6 : mz_pg 240 6 = some (.iconst 0, 0, 0, 0) := by decide +kernel
theorem gz_240_7 : mz_pg 240 7 = some (.istore 7, 0, 0, 0) := by decide +kernel
theorem gz_240_9 : mz_pg 240 9 = some (.iload 7, 0, 0, 0) := by decide +kernel
theorem gz_240_11 : mz_pg 240 11 = some (.bipush 20, 0, 0, 0) := by decide +kernel
theorem gz_240_13 : mz_pg 240 13 = some (.if_icmp .ge 87, 0, 0, 0) := by decide +kernel
theorem gz_240_16 : mz_pg 240 16 = some (.aload_n 0, 0, 0, 0) := by decide +kernel
theorem gz_240_17 : mz_pg 240 17 = some (.getfield 77, 10, 15, 1228) := by decide +kernel
theorem gz_240_20 : mz_pg 240 20 = some (.iconst 0, 0, 0, 0) := by decide +kernel
theorem gz_240_21 : mz_pg 240 21 = some (.iload_n 1, 0, 0, 0) := by decide +kernel
theorem gz_240_22 : mz_pg 240 22 = some (.iload 7, 0, 0, 0) := by decide +kernel
theorem gz_240_24 : mz_pg 240 24 = some (.invokestatic 242, 1, 150, 1429) := by decide +kernel
theorem gz_240_27 : mz_pg 240 27 = some (.baload, 0, 0, 0) := by decide +kernel
theorem gz_240_28 : mz_pg 240 28 = some (.ifCond .eq 66, 0, 0, 0) := by decide +kernel
theorem gz_240_31 : mz_pg 240 31 = some (.aload_n 0, 0, 0, 0) := by decide +kernel
theorem gz_240_32 : mz_pg 240 32 = some (.iconst 0, 0, 0, 0) := by decide +kernel
theorem gz_240_33 : mz_pg 240 33 = some (.iload_n 1, 0, 0, 0) := by decide +kernel
theorem gz_240_34 : mz_pg 240 34 = some (.iload 7, 0, 0, 0) := by decide +kernel
theorem gz_240_36 : mz_pg 240 36 = some (.iload_n 2, 0, 0, 0) := by decide +kernel
theorem gz_240_37 : mz_pg 240 37 = some (.invokevirtual 246, 1, 157, 1450) := by decide +kernel
theorem gz_240_40 : mz_pg 240 40 = some (.istore 8, 0, 0, 0) := by decide +kernel
theorem gz_240_42 : mz_pg 240 42 = some (.iload 5, 0, 0, 0) := by decide +kernel
theorem gz_240_44 : mz_pg 240 44 = some (.iload_n 3, 0, 0, 0) := by decide +kernel
theorem gz_240_45 : mz_pg 240 45 = some (.ifCond .ne 13, 0, 0, 0) := by decide +kernel
theorem gz_240_48 : mz_pg 240 48 = some (.iload 8, 0, 0, 0) := by decide +kernel
theorem gz_240_50 : mz_pg 240 50 = some (.iload 4, 0, 0, 0) := by decide +kernel
theorem gz_240_52 : mz_pg 240 52 = some (.if_icmp .ge 35, 0, 0, 0) := by decide +kernel
theorem gz_240_55 : mz_pg 240 55 = some (.goto 25, 0, 0, 0) := by decide +kernel
theorem gz_240_58 : mz_pg 240 58 = some (.iload_n 3, 0, 0, 0) := by decide +kernel
theorem gz_240_59 : mz_pg 240 59 = some (.iconst 1, 0, 0, 0) := by decide +kernel
theorem gz_240_60 : mz_pg 240 60 = some (.if_icmp .ne 13, 0, 0, 0) := by decide +kernel
theorem gz_240_63 : mz_pg 240 63 = some (.iload 8, 0, 0, 0) := by decide +kernel
theorem gz_240_65 : mz_pg 240 65 = some (.iload 4, 0, 0, 0) := by decide +kernel
theorem gz_240_67 : mz_pg 240 67 = some (.if_icmp .ne 20, 0, 0, 0) := by decide +kernel
theorem gz_240_70 : mz_pg 240 70 = some (.goto 10, 0, 0, 0) := by decide +kernel
theorem gz_240_73 : mz_pg 240 73 = some (.iload 8, 0, 0, 0) := by decide +kernel
theorem gz_240_75 : mz_pg 240 75 = some (.iload 4, 0, 0, 0) := by decide +kernel
theorem gz_240_77 : mz_pg 240 77 = some (.if_icmp .le 10, 0, 0, 0) := by decide +kernel
theorem gz_240_80 : mz_pg 240 80 = some (.iconst 1, 0, 0, 0) := by decide +kernel
theorem gz_240_81 : mz_pg 240 81 = some (.iload 6, 0, 0, 0) := by decide +kernel
theorem gz_240_83 : mz_pg 240 83 = some (.ishl, 0, 0, 0) := by decide +kernel
theorem gz_240_84 : mz_pg 240 84 = some (.goto 4, 0, 0, 0) := by decide +kernel
theorem gz_240_87 : mz_pg 240 87 = some (.iconst 0, 0, 0, 0) := by decide +kernel
theorem gz_240_88 : mz_pg 240 88 = some (.ior, 0, 0, 0) := by decide +kernel
theorem gz_240_89 : mz_pg 240 89 = some (.istore 5, 0, 0, 0) := by decide +kernel
theorem gz_240_91 : mz_pg 240 91 = some (.iinc 6 1, 0, 0, 0) := by decide +kernel
theorem gz_240_94 : mz_pg 240 94 = some (.iinc 7 1, 0, 0, 0) := by decide +kernel
theorem gz_240_97 : mz_pg 240 97 = some (.goto (-88), 0, 0, 0) := by decide +kernel
theorem gz_240_100 : mz_pg 240 100 = some (.iload 5, 0, 0, 0) := by decide +kernel
theorem gz_240_102 : mz_pg 240 102 = some (.ireturn, 0, 0, 0) := by decide +kernel
theorem gm_240 : my_mm 240 9 (some .int) 4 10 := by unfold my_mm; decide +kernel
theorem c38_Model_shownBy {l : Launch} {rho : Nat → Int32} {d : Nat} {h : my_H} {Q : my_H → my_V → Prop} {x0 x1 x2 x3 x4 : Int} (t0 : my_is 10 x0) (a1 : 0 ≤ x1) (b1 : x1 ≤ 2) (a2 : 0 ≤ x2) (b2 : x2 ≤ 3) (a3 : 0 ≤ x3) (b3 : x3 ≤ 2) (a4 : 0 ≤ x4) (b4 : x4 ≤ 199) (k0 : ∀ (y : Int), Q h (0, y)) : wp l rho (d + 2) 240 0 [(2, x0), (0, x1), (0, x2), (0, x3), (0, x4), (9, 0), (9, 0), (9, 0), (9, 0)] [] h Q := by
  have J9_0 : ∀ (n : Nat) (p9_0 p9_1 p9_2 p9_3 : Int), 0 ≤ p9_0 → p9_0 ≤ 2 → 0 ≤ p9_2 → p9_2 ≤ 20 → 0 ≤ p9_3 → p9_3 ≤ 20 → p9_0 ≤ x3 → p9_2 ≤ p9_3 → x3 ≤ p9_0 → 21 - p9_3 ≤ (n : Int) → wp l rho (d + 2) 240 9 [(2, x0), (0, x1), (0, x2), (0, p9_0), (0, x4), (0, p9_1), (0, p9_2), (0, p9_3), (9, 0)] [] h Q := by
    intro n
    induction n with
    | zero => intro p9_0 p9_1 p9_2 p9_3 q0_9_0 q1_9_0 q2_9_0 q3_9_0 q4_9_0 q5_9_0 q6_9_0 q7_9_0 q8_9_0 hm_9_0; exfalso; omega
    | succ n ih_9_0 =>
      intro p9_0 p9_1 p9_2 p9_3 q0_9_0 q1_9_0 q2_9_0 q3_9_0 q4_9_0 q5_9_0 q6_9_0 q7_9_0 q8_9_0 hm_9_0
      have J94_0 : ∀ (p94_0 p94_1 p94_2 : Int), 0 ≤ p94_0 → p94_0 ≤ 2 → 0 ≤ p94_2 → p94_2 ≤ 20 → p9_3 ≤ 19 → p9_2 ≤ 19 → p94_0 ≤ p9_0 → p94_0 ≤ x3 → p94_2 ≤ (p9_3 + 1) → p94_2 ≤ (p9_2 + 1) → p9_2 ≤ p94_2 → p9_2 ≤ p9_3 → p9_0 ≤ p94_0 → p9_0 ≤ x3 → x3 ≤ p94_0 → x3 ≤ p9_0 → wp l rho (d + 2) 240 94 [(2, x0), (0, x1), (0, x2), (0, p94_0), (0, x4), (0, p94_1), (0, p94_2), (0, p9_3), (9, 0)] [] h Q := by
        intro p94_0 p94_1 p94_2 q0_94_0 q1_94_0 q2_94_0 q3_94_0 q4_94_0 q5_94_0 q6_94_0 q7_94_0 q8_94_0 q9_94_0 q10_94_0 q11_94_0 q12_94_0 q13_94_0 q14_94_0 q15_94_0
        refine w_iinc (ls' := [(2, x0), (0, x1), (0, x2), (0, p94_0), (0, x4), (0, p94_1), (0, p94_2), (0, (p9_3 + 1)), (9, 0)]) gz_240_94 rfl gm_240 rfl rfl rfl ⟨by omega, by omega⟩ ?_
        refine w_goto (t := 9) gz_240_97 rfl ?_
        exact ih_9_0 (p94_0) (p94_1) (p94_2) ((p9_3 + 1)) (by omega) (by omega) (by omega) (by omega) (by omega) (by omega) (by omega) (by omega) (by omega) (by omega)
      have J87_0 : ∀ (p87_0 p87_1 : Int), 0 ≤ p87_0 → p87_0 ≤ 2 → p9_2 ≤ 19 → p9_3 ≤ 19 → 0 ≤ p87_1 → p87_1 ≤ 19 → p87_0 ≤ p9_0 → p87_0 ≤ x3 → p9_2 ≤ p9_3 → p9_0 ≤ p87_0 → p9_0 ≤ x3 → x3 ≤ p87_0 → x3 ≤ p9_0 → wp l rho (d + 2) 240 87 [(2, x0), (0, x1), (0, x2), (0, p87_0), (0, x4), (0, p9_1), (0, p9_2), (0, p9_3), (0, p87_1)] [(0, p9_1)] h Q := by
        intro p87_0 p87_1 q0_87_0 q1_87_0 q2_87_0 q3_87_0 q4_87_0 q5_87_0 q6_87_0 q7_87_0 q8_87_0 q9_87_0 q10_87_0 q11_87_0 q12_87_0
        refine w_iconst gz_240_87 (by decide) ?_
        refine w_ianyO gz_240_88 (fun v1 pv1 qv1 => ?_)
        refine w_istore (ls' := [(2, x0), (0, x1), (0, x2), (0, p87_0), (0, x4), (0, v1), (0, p9_2), (0, p9_3), (0, p87_1)]) gz_240_89 gm_240 rfl rfl rfl ?_
        refine w_iinc (ls' := [(2, x0), (0, x1), (0, x2), (0, p87_0), (0, x4), (0, v1), (0, (p9_2 + 1)), (0, p9_3), (0, p87_1)]) gz_240_91 rfl gm_240 rfl rfl rfl ⟨by omega, by omega⟩ ?_
        refine w_weak (ls' := [(2, x0), (0, x1), (0, x2), (0, p87_0), (0, x4), (0, v1), (0, (p9_2 + 1)), (0, p9_3), (9, 0)]) (wk_e (wk_e (wk_e (wk_e (wk_e (wk_e (wk_e (wk_e (wk_9 wk_n))))))))) ?_
        exact J94_0 (p87_0) (v1) ((p9_2 + 1)) (by omega) (by omega) (by omega) (by omega) (by omega) (by omega) (by omega) (by omega) (by omega) (by omega) (by omega) (by omega) (by omega) (by omega) (by omega) (by omega)
      have J80_0 : ∀ (p80_0 p80_1 : Int), 0 ≤ p80_0 → p80_0 ≤ 2 → p9_2 ≤ 19 → p9_3 ≤ 19 → 0 ≤ p80_1 → p80_1 ≤ 19 → p80_0 ≤ (p80_1 + 1) → p80_0 ≤ p9_0 → p80_0 ≤ x3 → p9_2 ≤ p9_3 → p9_0 ≤ p80_0 → p9_0 ≤ (p80_1 + 1) → p9_0 ≤ x3 → x3 ≤ p80_0 → x3 ≤ (p80_1 + 1) → x3 ≤ p9_0 → wp l rho (d + 2) 240 80 [(2, x0), (0, x1), (0, x2), (0, p80_0), (0, x4), (0, p9_1), (0, p9_2), (0, p9_3), (0, p80_1)] [(0, p9_1)] h Q := by
        intro p80_0 p80_1 q0_80_0 q1_80_0 q2_80_0 q3_80_0 q4_80_0 q5_80_0 q6_80_0 q7_80_0 q8_80_0 q9_80_0 q10_80_0 q11_80_0 q12_80_0 q13_80_0 q14_80_0 q15_80_0
        refine w_iconst gz_240_80 (by decide) ?_
        refine w_iload gz_240_81 rfl ?_
        refine w_ianyL gz_240_83 (fun v2 pv2 qv2 => ?_)
        refine w_goto (t := 88) gz_240_84 rfl ?_
        refine w_ianyO gz_240_88 (fun v3 pv3 qv3 => ?_)
        refine w_istore (ls' := [(2, x0), (0, x1), (0, x2), (0, p80_0), (0, x4), (0, v3), (0, p9_2), (0, p9_3), (0, p80_1)]) gz_240_89 gm_240 rfl rfl rfl ?_
        refine w_iinc (ls' := [(2, x0), (0, x1), (0, x2), (0, p80_0), (0, x4), (0, v3), (0, (p9_2 + 1)), (0, p9_3), (0, p80_1)]) gz_240_91 rfl gm_240 rfl rfl rfl ⟨by omega, by omega⟩ ?_
        refine w_weak (ls' := [(2, x0), (0, x1), (0, x2), (0, p80_0), (0, x4), (0, v3), (0, (p9_2 + 1)), (0, p9_3), (9, 0)]) (wk_e (wk_e (wk_e (wk_e (wk_e (wk_e (wk_e (wk_e (wk_9 wk_n))))))))) ?_
        exact J94_0 (p80_0) (v3) ((p9_2 + 1)) (by omega) (by omega) (by omega) (by omega) (by omega) (by omega) (by omega) (by omega) (by omega) (by omega) (by omega) (by omega) (by omega) (by omega) (by omega) (by omega)
      refine w_iload gz_240_9 rfl ?_
      refine w_bipush gz_240_11 (by decide) ?_
      refine w_icge (t := 100) gz_240_13 rfl (fun u4 => ?_) (fun u4 => ?_)
      ·
        refine w_iload gz_240_100 rfl ?_
        exact w_iret gz_240_102 gm_240 (k0 (p9_1))
      ·
        refine w_aload_n gz_240_16 rfl ?_
        refine w_getR gz_240_17 t0 rd_10 rfl (fun v5 ev5 tv5 => ?_)
        refine w_iconst gz_240_20 (by decide) ?_
        refine w_iload_n gz_240_21 rfl ?_
        refine w_iload gz_240_22 rfl ?_
        refine w_inS (k := 0) (as := [(0, p9_3), (0, x1), (0, 0)]) (r := [(2, v5)]) (ls0 := [(0, 0), (0, x1), (0, p9_3)]) gz_240_24 gm_150 rfl rfl rfl rfl rfl rfl ?_
        refine w_bipush gz_150_0 (by decide) ?_
        refine w_iload_n gz_150_2 rfl ?_
        refine w_imul gz_150_3 ⟨by omega, by omega⟩ ?_
        refine w_bipush gz_150_4 (by decide) ?_
        refine w_iload_n gz_150_6 rfl ?_
        refine w_imul gz_150_7 ⟨by omega, by omega⟩ ?_
        refine w_iadd gz_150_8 ⟨by omega, by omega⟩ ?_
        refine w_iload_n gz_150_9 rfl ?_
        refine w_iadd gz_150_10 ⟨by omega, by omega⟩ ?_
        refine w_iret gz_150_11 gm_150 ?_
        show wp l rho (d + 2) 240 27 [(2, x0), (0, x1), (0, x2), (0, p9_0), (0, x4), (0, p9_1), (0, p9_2), (0, p9_3), (9, 0)] [(0, (((60 * 0) + (20 * x1)) + p9_3)), (2, v5)] h Q
        refine w_bald gz_240_27 tv5 rd_61 (by omega) (by omega) (fun v6 ev6 pv6 qv6 => ?_)
        refine w_ifeq (t := 94) gz_240_28 rfl (fun u7 => ?_) (fun u7 => ?_)
        ·
          exact J94_0 (p9_0) (p9_1) (p9_2) (by omega) (by omega) (by omega) (by omega) (by omega) (by omega) (by omega) (by omega) (by omega) (by omega) (by omega) (by omega) (by omega) (by omega) (by omega) (by omega)
        ·
          refine w_aload_n gz_240_31 rfl ?_
          refine w_iconst gz_240_32 (by decide) ?_
          refine w_iload_n gz_240_33 rfl ?_
          refine w_iload gz_240_34 rfl ?_
          refine w_iload_n gz_240_36 rfl ?_
          refine w_inv (k := 0) (as := [(0, x2), (0, p9_3), (0, x1), (0, 0)]) (r := []) (x := x0) (ls0 := [(2, x0), (0, 0), (0, x1), (0, p9_3), (0, x2)]) gz_240_37 gm_157 rfl t0 rd_10 rfl rfl rfl rfl rfl ?_
          refine w_aload_n gz_157_0 rfl ?_
          refine w_getR gz_157_1 t0 rd_10 rfl (fun v8 ev8 tv8 => ?_)
          refine w_iconst gz_157_4 (by decide) ?_
          refine w_iload_n gz_157_5 rfl ?_
          refine w_iload_n gz_157_6 rfl ?_
          refine w_iload_n gz_157_7 rfl ?_
          refine w_inS (k := 0) (as := [(0, p9_3), (0, x1), (0, 0)]) (r := [(0, 4), (2, v8)]) (ls0 := [(0, 0), (0, x1), (0, p9_3)]) gz_157_8 gm_150 rfl rfl rfl rfl rfl rfl ?_
          refine w_bipush gz_150_0 (by decide) ?_
          refine w_iload_n gz_150_2 rfl ?_
          refine w_imul gz_150_3 ⟨by omega, by omega⟩ ?_
          refine w_bipush gz_150_4 (by decide) ?_
          refine w_iload_n gz_150_6 rfl ?_
          refine w_imul gz_150_7 ⟨by omega, by omega⟩ ?_
          refine w_iadd gz_150_8 ⟨by omega, by omega⟩ ?_
          refine w_iload_n gz_150_9 rfl ?_
          refine w_iadd gz_150_10 ⟨by omega, by omega⟩ ?_
          refine w_iret gz_150_11 gm_150 ?_
          show wp l rho (d + 1) 157 11 [(2, x0), (0, 0), (0, x1), (0, p9_3), (0, x2)] [(0, (((60 * 0) + (20 * x1)) + p9_3)), (0, 4), (2, v8)] h _
          refine w_imul gz_157_11 ⟨by omega, by omega⟩ ?_
          refine w_iload gz_157_12 rfl ?_
          refine w_iadd gz_157_14 ⟨by omega, by omega⟩ ?_
          refine w_iald gz_157_15 tv8 rd_62 (by omega) (by omega) (fun v9 ev9 pv9 qv9 => ?_)
          refine w_iret gz_157_16 gm_157 ?_
          show wp l rho (d + 2) 240 40 [(2, x0), (0, x1), (0, x2), (0, p9_0), (0, x4), (0, p9_1), (0, p9_2), (0, p9_3), (9, 0)] [(0, v9)] h Q
          refine w_istore (ls' := [(2, x0), (0, x1), (0, x2), (0, p9_0), (0, x4), (0, p9_1), (0, p9_2), (0, p9_3), (0, v9)]) gz_240_40 gm_240 rfl rfl rfl ?_
          refine w_iload gz_240_42 rfl ?_
          refine w_iload_n gz_240_44 rfl ?_
          refine w_ifne (t := 58) gz_240_45 rfl (fun u10 => ?_) (fun u10 => ?_)
          ·
            refine w_iload_n gz_240_58 rfl ?_
            refine w_iconst gz_240_59 (by decide) ?_
            refine w_icne (t := 73) gz_240_60 rfl (fun u11 => ?_) (fun u11 => ?_)
            ·
              refine w_iload gz_240_73 rfl ?_
              refine w_iload gz_240_75 rfl ?_
              refine w_icle (t := 87) gz_240_77 rfl (fun u12 => ?_) (fun u12 => ?_)
              ·
                exact J87_0 (p9_0) (v9) (by omega) (by omega) (by omega) (by omega) (by omega) (by omega) (by omega) (by omega) (by omega) (by omega) (by omega) (by omega) (by omega)
              ·
                exact J80_0 (p9_0) (v9) (by omega) (by omega) (by omega) (by omega) (by omega) (by omega) (by omega) (by omega) (by omega) (by omega) (by omega) (by omega) (by omega) (by omega) (by omega) (by omega)
            ·
              refine w_iload gz_240_63 rfl ?_
              refine w_iload gz_240_65 rfl ?_
              refine w_icne (t := 87) gz_240_67 rfl (fun u13 => ?_) (fun u13 => ?_)
              ·
                exact J87_0 (p9_0) (v9) (by omega) (by omega) (by omega) (by omega) (by omega) (by omega) (by omega) (by omega) (by omega) (by omega) (by omega) (by omega) (by omega)
              ·
                refine w_goto (t := 80) gz_240_70 rfl ?_
                exact J80_0 (p9_0) (v9) (by omega) (by omega) (by omega) (by omega) (by omega) (by omega) (by omega) (by omega) (by omega) (by omega) (by omega) (by omega) (by omega) (by omega) (by omega) (by omega)
          ·
            refine w_iload gz_240_48 rfl ?_
            refine w_iload gz_240_50 rfl ?_
            refine w_icge (t := 87) gz_240_52 rfl (fun u14 => ?_) (fun u14 => ?_)
            ·
              exact J87_0 (p9_0) (v9) (by omega) (by omega) (by omega) (by omega) (by omega) (by omega) (by omega) (by omega) (by omega) (by omega) (by omega) (by omega) (by omega)
            ·
              refine w_goto (t := 80) gz_240_55 rfl ?_
              exact J80_0 (p9_0) (v9) (by omega) (by omega) (by omega) (by omega) (by omega) (by omega) (by omega) (by omega) (by omega) (by omega) (by omega) (by omega) (by omega) (by omega) (by omega) (by omega)
  refine w_iconst gz_240_0 (by decide) ?_
  refine w_istore (ls' := [(2, x0), (0, x1), (0, x2), (0, x3), (0, x4), (0, 0), (9, 0), (9, 0), (9, 0)]) gz_240_1 gm_240 rfl rfl rfl ?_
  refine w_iconst gz_240_3 (by decide) ?_
  refine w_istore (ls' := [(2, x0), (0, x1), (0, x2), (0, x3), (0, x4), (0, 0), (0, 0), (9, 0), (9, 0)]) gz_240_4 gm_240 rfl rfl rfl ?_
  refine w_iconst gz_240_6 (by decide) ?_
  refine w_istore (ls' := [(2, x0), (0, x1), (0, x2), (0, x3), (0, x4), (0, 0), (0, 0), (0, 0), (9, 0)]) gz_240_7 gm_240 rfl rfl rfl ?_
  exact J9_0 21 (x3) (0) (0) (0) (by omega) (by omega) (by omega) (by omega) (by omega) (by omega) (by omega) (by omega) (by omega) (by omega)
theorem gz_193_0 : mz_pg 193 0 = some (.iload_n 1, 0, 0, 0) := by decide +kernel
theorem gz_193_1 : mz_pg 193 1 = some (.ifCond .lt 22, 0, 0, 0) := by decide +kernel
theorem gz_193_4 : mz_pg 193 4 = some (.iload_n 1, 0, 0, 0) := by decide +kernel
theorem gz_193_5 : mz_pg 193 5 = some (.bipush 6, 0, 0, 0) := by decide +kernel
theorem gz_193_7 : mz_pg 193 7 = some (.if_icmp .ge 16, 0, 0, 0) := by decide +kernel
theorem gz_193_10 : mz_pg 193 10 = some (.aload_n 0, 0, 0, 0) := by decide +kernel
theorem gz_193_11 : mz_pg 193 11 = some (.getfield 83, 10, 17, 1230) := by decide +kernel
theorem gz_193_14 : mz_pg 193 14 = some (.iload_n 1, 0, 0, 0) := by decide +kernel
theorem gz_193_15 : mz_pg 193 15 = some (.baload, 0, 0, 0) := by decide +kernel
theorem gz_193_16 : mz_pg 193 16 = some (.ifCond .eq 7, 0, 0, 0) := by decide +kernel
theorem gz_193_19 : mz_pg 193 19 = some (.iconst 1, 0, 0, 0) := by decide +kernel
theorem gz_193_20 : mz_pg 193 20 = some (.goto 4, 0, 0, 0) := by decide +kernel
theorem gz_193_23 : mz_pg 193 23 = some (.iconst 0, 0, 0, 0) := by decide +kernel
theorem gz_193_24 : mz_pg 193 24 = some (.ireturn, 0, 0, 0) := by decide +kernel
theorem gz_241_0 : mz_pg 241 0 = some (.aload_n 0, 0, 0, 0) := by decide +kernel
theorem gz_241_1 : mz_pg 241 1 = some (.iconst 0, 0, 0, 0) := by decide +kernel
theorem gz_241_2 : mz_pg 241 2 = some (.putfield 1, 10, 0, 1213) := by decide +kernel
theorem gz_241_5 : mz_pg 241 5 = some (.iload_n 1, 0, 0, 0) := by decide +kernel
theorem gz_241_6 : mz_pg 241 6 = some (.iconst 0, 0, 0, 0) := by decide +kernel
theorem gz_241_7 : mz_pg 241 7 = some (.iconst 2, 0, 0, 0) := by decide +kernel
theorem gz_241_8 : mz_pg 241 8 = some (.invokestatic 250, 1, 147, 1419) := by decide +kernel
theorem gz_241_11 : mz_pg 241 11 = some (.ifCond .eq 38, 0, 0, 0) := by decide +kernel
theorem gz_241_14 : mz_pg 241 14 = some (.iload_n 2, 0, 0, 0) := by decide +kernel
theorem gz_241_15 : mz_pg 241 15 = some (.iconst (-1), 0, 0, 0) := by decide +kernel
theorem gz_241_16 : mz_pg 241 16 = some (.if_icmp .eq 35, 0, 0, 0) := by decide +kernel
theorem gz_241_19 : mz_pg 241 19 = some (.aload_n 0, 0, 0, 0) := by decide +kernel
theorem gz_241_20 : mz_pg 241 20 = some (.iload_n 2, 0, 0, 0) := by decide +kernel
theorem gz_241_21 : mz_pg 241 21 = some (.invokevirtual 373, 1, 193, 1570) := by decide +kernel
theorem gz_241_24 : mz_pg 241 24 = some (.ifCond .eq 25, 0, 0, 0) := by decide +kernel
theorem gz_241_27 : mz_pg 241 27 = some (.iload_n 3, 0, 0, 0) := by decide +kernel
theorem gz_241_28 : mz_pg 241 28 = some (.iconst 0, 0, 0, 0) := by decide +kernel
theorem gz_241_29 : mz_pg 241 29 = some (.bipush 79, 0, 0, 0) := by decide +kernel
theorem gz_241_31 : mz_pg 241 31 = some (.invokestatic 250, 1, 147, 1419) := by decide +kernel
theorem gz_241_34 : mz_pg 241 34 = some (.ifCond .eq 15, 0, 0, 0) := by decide +kernel
theorem gz_241_37 : mz_pg 241 37 = some (.iload 4, 0, 0, 0) := by decide +kernel
theorem gz_241_39 : mz_pg 241 39 = some (.iconst 0, 0, 0, 0) := by decide +kernel
theorem gz_241_40 : mz_pg 241 40 = some (.sipush 199, 0, 0, 0) := by decide +kernel
theorem gz_241_43 : mz_pg 241 43 = some (.invokestatic 250, 1, 147, 1419) := by decide +kernel
theorem gz_241_46 : mz_pg 241 46 = some (.ifCond .ne 5, 0, 0, 0) := by decide +kernel
theorem gz_241_49 : mz_pg 241 49 = some (.iconst 0, 0, 0, 0) := by decide +kernel
theorem gz_241_50 : mz_pg 241 50 = some (.ireturn, 0, 0, 0) := by decide +kernel
theorem gz_241_51 : mz_pg 241 51 = some (.aload_n 0, 0, 0, 0) := by decide +kernel
theorem gz_241_52 : mz_pg 241 52 = some (.getfield 188, 10, 59, 1272) := by decide +kernel
theorem gz_241_55 : mz_pg 241 55 = some (.iload_n 1, 0, 0, 0) := by decide +kernel
theorem gz_241_56 : mz_pg 241 56 = some (.iload_n 2, 0, 0, 0) := by decide +kernel
theorem gz_241_57 : mz_pg 241 57 = some (.iastore, 0, 0, 0) := by decide +kernel
theorem gz_241_58 : mz_pg 241 58 = some (.aload_n 0, 0, 0, 0) := by decide +kernel
theorem gz_241_59 : mz_pg 241 59 = some (.getfield 191, 10, 60, 1273) := by decide +kernel
theorem gz_241_62 : mz_pg 241 62 = some (.iload_n 1, 0, 0, 0) := by decide +kernel
theorem gz_241_63 : mz_pg 241 63 = some (.iload_n 3, 0, 0, 0) := by decide +kernel
theorem gz_241_64 : mz_pg 241 64 = some (.iastore, 0, 0, 0) := by decide +kernel
theorem gz_241_65 : mz_pg 241 65 = some (.aload_n 0, 0, 0, 0) := by decide +kernel
theorem gz_241_66 : mz_pg 241 66 = some (.getfield 194, 10, 61, 1274) := by decide +kernel
theorem gz_241_69 : mz_pg 241 69 = some (.iload_n 1, 0, 0, 0) := by decide +kernel
theorem gz_241_70 : mz_pg 241 70 = some (.iload 4, 0, 0, 0) := by decide +kernel
theorem gz_241_72 : mz_pg 241 72 = some (.iastore, 0, 0, 0) := by decide +kernel
theorem gz_241_73 : mz_pg 241 73 = some (.iconst 1, 0, 0, 0) := by decide +kernel
theorem gz_241_74 : mz_pg 241 74 = some (.ireturn, 0, 0, 0) := by decide +kernel
theorem gm_193 : my_mm 193 2 (some .boolean) 1 10 := by unfold my_mm; decide +kernel
theorem gm_241 : my_mm 241 5 (some .boolean) 4 10 := by unfold my_mm; decide +kernel
theorem rd_98 : my_rd 98 = .inl (0, 3, [(0, -1, 5)]) := rfl
theorem rd_99 : my_rd 99 = .inl (0, 3, [(0, -2147483648, 2147483647)]) := rfl
theorem rd_100 : my_rd 100 = .inl (0, 3, [(0, -2147483648, 2147483647)]) := rfl
theorem c39_Model_clerk {l : Launch} {rho : Nat → Int32} {d : Nat} {h : my_H} {Q : my_H → my_V → Prop} {x0 x1 x2 x3 x4 : Int} (t0 : my_is 10 x0) (k0 : ∀ (h' : my_H), my_fr [(10, 0), (98, -1), (99, -1), (100, -1)] h h' → h' x0 ((0 : Nat) : Int) = 0 → Q h' (0, 0)) (k1 : ∀ (h' : my_H), my_fr [(10, 0), (98, -1), (99, -1), (100, -1)] h h' → 0 ≤ x1 → x1 ≤ 2 → (-1) ≤ x2 → x2 ≤ 5 → h' x0 ((0 : Nat) : Int) = 0 → Q h' (0, 1)) : wp l rho (d + 1) 241 0 [(2, x0), (0, x1), (0, x2), (0, x3), (0, x4)] [] h Q := by
  have J51_0 : ∀ (h51_0 : my_H), my_fr [(10, 0), (98, -1), (99, -1), (100, -1)] h h51_0 → 0 ≤ x1 → x1 ≤ 2 → (-1) ≤ x2 → x2 ≤ 5 → h51_0 x0 ((0 : Nat) : Int) = 0 → wp l rho (d + 1) 241 51 [(2, x0), (0, x1), (0, x2), (0, x3), (0, x4)] [] h51_0 Q := by
    intro h51_0 gh_51_0 q0_51_0 q1_51_0 q2_51_0 q3_51_0 c0_51_0
    refine w_aload_n gz_241_51 rfl ?_
    refine w_getR gz_241_52 t0 rd_10 rfl (fun v1 ev1 tv1 => ?_)
    refine w_iload_n gz_241_55 rfl ?_
    refine w_iload_n gz_241_56 rfl ?_
    refine w_iast gz_241_57 tv1 rd_98 (by omega) (by omega) (by omega) (by omega) (fun h2 fh2 => ?_)
    have gh2 : my_fr [(10, 0), (98, -1), (99, -1), (100, -1)] h h2 := my_fr.up gh_51_0 tv1 fh2 rfl
    refine w_aload_n gz_241_58 rfl ?_
    refine w_getR gz_241_59 t0 rd_10 rfl (fun v3 ev3 tv3 => ?_)
    refine w_iload_n gz_241_62 rfl ?_
    refine w_iload_n gz_241_63 rfl ?_
    refine w_iastA gz_241_64 tv3 rd_99 (by omega) (by omega) (fun h4 fh4 => ?_)
    have gh4 : my_fr [(10, 0), (98, -1), (99, -1), (100, -1)] h h4 := my_fr.up gh2 tv3 fh4 rfl
    refine w_aload_n gz_241_65 rfl ?_
    refine w_getR gz_241_66 t0 rd_10 rfl (fun v5 ev5 tv5 => ?_)
    refine w_iload_n gz_241_69 rfl ?_
    refine w_iload gz_241_70 rfl ?_
    refine w_iastA gz_241_72 tv5 rd_100 (by omega) (by omega) (fun h6 fh6 => ?_)
    have gh6 : my_fr [(10, 0), (98, -1), (99, -1), (100, -1)] h h6 := my_fr.up gh4 tv5 fh6 rfl
    refine w_iconst gz_241_73 (by decide) ?_
    have c7 := ((my_up_role fh6 t0 tv5 rfl).trans ((my_up_role fh4 t0 tv3 rfl).trans ((my_up_role fh2 t0 tv1 rfl).trans c0_51_0)))
    exact w_bret gz_241_74 gm_241 (by omega) (by omega) (k1 h6 (gh6) (by omega) (by omega) (by omega) (by omega) (by omega))
  refine w_aload_n gz_241_0 rfl ?_
  refine w_iconst gz_241_1 (by decide) ?_
  refine w_putI gz_241_2 t0 rd_10 rfl (by omega) (by omega) rfl (fun h8 fh8 => ?_)
  have gh8 : my_fr [(10, 0), (98, -1), (99, -1), (100, -1)] h h8 := my_fr.up my_fr.rf t0 fh8 rfl
  refine w_iload_n gz_241_5 rfl ?_
  refine w_iconst gz_241_6 (by decide) ?_
  refine w_iconst gz_241_7 (by decide) ?_
  refine w_inS (k := 0) (as := [(0, 2), (0, 0), (0, x1)]) (r := []) (ls0 := [(0, x1), (0, 0), (0, 2)]) gz_241_8 gm_147 rfl rfl rfl rfl rfl rfl ?_
  refine w_iload_n gz_147_0 rfl ?_
  refine w_iload_n gz_147_1 rfl ?_
  refine w_iclt (t := 14) gz_147_2 rfl (fun u9 => ?_) (fun u9 => ?_)
  ·
    refine w_iconst gz_147_14 (by decide) ?_
    refine w_bret gz_147_15 gm_147 (by omega) (by omega) ?_
    show wp l rho (d + 1) 241 11 [(2, x0), (0, x1), (0, x2), (0, x3), (0, x4)] [(0, 0)] h8 Q
    refine w_ifeq (t := 49) gz_241_11 rfl (fun u10 => ?_) (fun u10 => by exfalso; omega)
    refine w_iconst gz_241_49 (by decide) ?_
    have c11 := (my_up_self fh8)
    exact w_bret gz_241_50 gm_241 (by omega) (by omega) (k0 h8 (gh8) (by omega))
  ·
    refine w_iload_n gz_147_5 rfl ?_
    refine w_iload_n gz_147_6 rfl ?_
    refine w_icgt (t := 14) gz_147_7 rfl (fun u12 => ?_) (fun u12 => ?_)
    ·
      refine w_iconst gz_147_14 (by decide) ?_
      refine w_bret gz_147_15 gm_147 (by omega) (by omega) ?_
      show wp l rho (d + 1) 241 11 [(2, x0), (0, x1), (0, x2), (0, x3), (0, x4)] [(0, 0)] h8 Q
      refine w_ifeq (t := 49) gz_241_11 rfl (fun u13 => ?_) (fun u13 => by exfalso; omega)
      refine w_iconst gz_241_49 (by decide) ?_
      have c14 := (my_up_self fh8)
      exact w_bret gz_241_50 gm_241 (by omega) (by omega) (k0 h8 (gh8) (by omega))
    ·
      refine w_iconst gz_147_10 (by decide) ?_
      refine w_goto (t := 15) gz_147_11 rfl ?_
      refine w_bret gz_147_15 gm_147 (by omega) (by omega) ?_
      show wp l rho (d + 1) 241 11 [(2, x0), (0, x1), (0, x2), (0, x3), (0, x4)] [(0, 1)] h8 Q
      refine w_ifeq (t := 49) gz_241_11 rfl (fun u15 => by exfalso; omega) (fun u15 => ?_)
      refine w_iload_n gz_241_14 rfl ?_
      refine w_iconst gz_241_15 (by decide) ?_
      refine w_iceq (t := 51) gz_241_16 rfl (fun u16 => ?_) (fun u16 => ?_)
      ·
        exact J51_0 h8 (gh8) (by omega) (by omega) (by omega) (by omega) ((my_up_self fh8).trans (by omega))
      ·
        refine w_aload_n gz_241_19 rfl ?_
        refine w_iload_n gz_241_20 rfl ?_
        refine w_inv (k := 0) (as := [(0, x2)]) (r := []) (x := x0) (ls0 := [(2, x0), (0, x2)]) gz_241_21 gm_193 rfl t0 rd_10 rfl rfl rfl rfl rfl ?_
        refine w_iload_n gz_193_0 rfl ?_
        refine w_iflt (t := 23) gz_193_1 rfl (fun u17 => ?_) (fun u17 => ?_)
        ·
          refine w_iconst gz_193_23 (by decide) ?_
          refine w_bret gz_193_24 gm_193 (by omega) (by omega) ?_
          show wp l rho (d + 1) 241 24 [(2, x0), (0, x1), (0, x2), (0, x3), (0, x4)] [(0, 0)] h8 Q
          refine w_ifeq (t := 49) gz_241_24 rfl (fun u18 => ?_) (fun u18 => by exfalso; omega)
          refine w_iconst gz_241_49 (by decide) ?_
          have c19 := (my_up_self fh8)
          exact w_bret gz_241_50 gm_241 (by omega) (by omega) (k0 h8 (gh8) (by omega))
        ·
          refine w_iload_n gz_193_4 rfl ?_
          refine w_bipush gz_193_5 (by decide) ?_
          refine w_icge (t := 23) gz_193_7 rfl (fun u20 => ?_) (fun u20 => ?_)
          ·
            refine w_iconst gz_193_23 (by decide) ?_
            refine w_bret gz_193_24 gm_193 (by omega) (by omega) ?_
            show wp l rho (d + 1) 241 24 [(2, x0), (0, x1), (0, x2), (0, x3), (0, x4)] [(0, 0)] h8 Q
            refine w_ifeq (t := 49) gz_241_24 rfl (fun u21 => ?_) (fun u21 => by exfalso; omega)
            refine w_iconst gz_241_49 (by decide) ?_
            have c22 := (my_up_self fh8)
            exact w_bret gz_241_50 gm_241 (by omega) (by omega) (k0 h8 (gh8) (by omega))
          ·
            refine w_aload_n gz_193_10 rfl ?_
            refine w_getR gz_193_11 t0 rd_10 rfl (fun v23 ev23 tv23 => ?_)
            refine w_iload_n gz_193_14 rfl ?_
            refine w_bald gz_193_15 tv23 rd_63 (by omega) (by omega) (fun v24 ev24 pv24 qv24 => ?_)
            refine w_ifeq (t := 23) gz_193_16 rfl (fun u25 => ?_) (fun u25 => ?_)
            ·
              refine w_iconst gz_193_23 (by decide) ?_
              refine w_bret gz_193_24 gm_193 (by omega) (by omega) ?_
              show wp l rho (d + 1) 241 24 [(2, x0), (0, x1), (0, x2), (0, x3), (0, x4)] [(0, 0)] h8 Q
              refine w_ifeq (t := 49) gz_241_24 rfl (fun u26 => ?_) (fun u26 => by exfalso; omega)
              refine w_iconst gz_241_49 (by decide) ?_
              have c27 := (my_up_self fh8)
              exact w_bret gz_241_50 gm_241 (by omega) (by omega) (k0 h8 (gh8) (by omega))
            ·
              refine w_iconst gz_193_19 (by decide) ?_
              refine w_goto (t := 24) gz_193_20 rfl ?_
              refine w_bret gz_193_24 gm_193 (by omega) (by omega) ?_
              show wp l rho (d + 1) 241 24 [(2, x0), (0, x1), (0, x2), (0, x3), (0, x4)] [(0, 1)] h8 Q
              refine w_ifeq (t := 49) gz_241_24 rfl (fun u28 => by exfalso; omega) (fun u28 => ?_)
              refine w_iload_n gz_241_27 rfl ?_
              refine w_iconst gz_241_28 (by decide) ?_
              refine w_bipush gz_241_29 (by decide) ?_
              refine w_inS (k := 0) (as := [(0, 79), (0, 0), (0, x3)]) (r := []) (ls0 := [(0, x3), (0, 0), (0, 79)]) gz_241_31 gm_147 rfl rfl rfl rfl rfl rfl ?_
              refine w_iload_n gz_147_0 rfl ?_
              refine w_iload_n gz_147_1 rfl ?_
              refine w_iclt (t := 14) gz_147_2 rfl (fun u29 => ?_) (fun u29 => ?_)
              ·
                refine w_iconst gz_147_14 (by decide) ?_
                refine w_bret gz_147_15 gm_147 (by omega) (by omega) ?_
                show wp l rho (d + 1) 241 34 [(2, x0), (0, x1), (0, x2), (0, x3), (0, x4)] [(0, 0)] h8 Q
                refine w_ifeq (t := 49) gz_241_34 rfl (fun u30 => ?_) (fun u30 => by exfalso; omega)
                refine w_iconst gz_241_49 (by decide) ?_
                have c31 := (my_up_self fh8)
                exact w_bret gz_241_50 gm_241 (by omega) (by omega) (k0 h8 (gh8) (by omega))
              ·
                refine w_iload_n gz_147_5 rfl ?_
                refine w_iload_n gz_147_6 rfl ?_
                refine w_icgt (t := 14) gz_147_7 rfl (fun u32 => ?_) (fun u32 => ?_)
                ·
                  refine w_iconst gz_147_14 (by decide) ?_
                  refine w_bret gz_147_15 gm_147 (by omega) (by omega) ?_
                  show wp l rho (d + 1) 241 34 [(2, x0), (0, x1), (0, x2), (0, x3), (0, x4)] [(0, 0)] h8 Q
                  refine w_ifeq (t := 49) gz_241_34 rfl (fun u33 => ?_) (fun u33 => by exfalso; omega)
                  refine w_iconst gz_241_49 (by decide) ?_
                  have c34 := (my_up_self fh8)
                  exact w_bret gz_241_50 gm_241 (by omega) (by omega) (k0 h8 (gh8) (by omega))
                ·
                  refine w_iconst gz_147_10 (by decide) ?_
                  refine w_goto (t := 15) gz_147_11 rfl ?_
                  refine w_bret gz_147_15 gm_147 (by omega) (by omega) ?_
                  show wp l rho (d + 1) 241 34 [(2, x0), (0, x1), (0, x2), (0, x3), (0, x4)] [(0, 1)] h8 Q
                  refine w_ifeq (t := 49) gz_241_34 rfl (fun u35 => by exfalso; omega) (fun u35 => ?_)
                  refine w_iload gz_241_37 rfl ?_
                  refine w_iconst gz_241_39 (by decide) ?_
                  refine w_sipush gz_241_40 (by decide) ?_
                  refine w_inS (k := 0) (as := [(0, 199), (0, 0), (0, x4)]) (r := []) (ls0 := [(0, x4), (0, 0), (0, 199)]) gz_241_43 gm_147 rfl rfl rfl rfl rfl rfl ?_
                  refine w_iload_n gz_147_0 rfl ?_
                  refine w_iload_n gz_147_1 rfl ?_
                  refine w_iclt (t := 14) gz_147_2 rfl (fun u36 => ?_) (fun u36 => ?_)
                  ·
                    refine w_iconst gz_147_14 (by decide) ?_
                    refine w_bret gz_147_15 gm_147 (by omega) (by omega) ?_
                    show wp l rho (d + 1) 241 46 [(2, x0), (0, x1), (0, x2), (0, x3), (0, x4)] [(0, 0)] h8 Q
                    refine w_ifne (t := 51) gz_241_46 rfl (fun u37 => by exfalso; omega) (fun u37 => ?_)
                    refine w_iconst gz_241_49 (by decide) ?_
                    have c38 := (my_up_self fh8)
                    exact w_bret gz_241_50 gm_241 (by omega) (by omega) (k0 h8 (gh8) (by omega))
                  ·
                    refine w_iload_n gz_147_5 rfl ?_
                    refine w_iload_n gz_147_6 rfl ?_
                    refine w_icgt (t := 14) gz_147_7 rfl (fun u39 => ?_) (fun u39 => ?_)
                    ·
                      refine w_iconst gz_147_14 (by decide) ?_
                      refine w_bret gz_147_15 gm_147 (by omega) (by omega) ?_
                      show wp l rho (d + 1) 241 46 [(2, x0), (0, x1), (0, x2), (0, x3), (0, x4)] [(0, 0)] h8 Q
                      refine w_ifne (t := 51) gz_241_46 rfl (fun u40 => by exfalso; omega) (fun u40 => ?_)
                      refine w_iconst gz_241_49 (by decide) ?_
                      have c41 := (my_up_self fh8)
                      exact w_bret gz_241_50 gm_241 (by omega) (by omega) (k0 h8 (gh8) (by omega))
                    ·
                      refine w_iconst gz_147_10 (by decide) ?_
                      refine w_goto (t := 15) gz_147_11 rfl ?_
                      refine w_bret gz_147_15 gm_147 (by omega) (by omega) ?_
                      show wp l rho (d + 1) 241 46 [(2, x0), (0, x1), (0, x2), (0, x3), (0, x4)] [(0, 1)] h8 Q
                      refine w_ifne (t := 51) gz_241_46 rfl (fun u42 => ?_) (fun u42 => by exfalso; omega)
                      exact J51_0 h8 (gh8) (by omega) (by omega) (by omega) (by omega) ((my_up_self fh8).trans (by omega))
theorem gz_249_0 : mz_pg 249 0 = some (.aload_n 0, 0, 0, 0) := by decide +kernel
theorem gz_249_1 : mz_pg 249 1 = some (.iconst 0, 0, 0, 0) := by decide +kernel
theorem gz_249_2 : mz_pg 249 2 = some (.putfield 1, 10, 0, 1213) := by decide +kernel
theorem gz_249_5 : mz_pg 249 5 = some (.iload_n 1, 0, 0, 0) := by decide +kernel
theorem gz_249_6 : mz_pg 249 6 = some (.iconst 0, 0, 0, 0) := by decide +kernel
theorem gz_249_7 : mz_pg 249 7 = some (.iconst 2, 0, 0, 0) := by decide +kernel
theorem gz_249_8 : mz_pg 249 8 = some (.invokestatic 250, 1, 147, 1419) := by decide +kernel
theorem gz_249_11 : mz_pg 249 11 = some (.ifCond .eq 23, 0, 0, 0) := by decide +kernel
theorem gz_249_14 : mz_pg 249 14 = some (.aload_n 0, 0, 0, 0) := by decide +kernel
theorem gz_249_15 : mz_pg 249 15 = some (.getfield 61, 10, 10, 1223) := by decide +kernel
theorem gz_249_18 : mz_pg 249 18 = some (.iload_n 1, 0, 0, 0) := by decide +kernel
theorem gz_249_19 : mz_pg 249 19 = some (.iaload, 0, 0, 0) := by decide +kernel
theorem gz_249_20 : mz_pg 249 20 = some (.ifCond .ne 7, 0, 0, 0) := by decide +kernel
theorem gz_249_23 : mz_pg 249 23 = some (.iconst (-1), 0, 0, 0) := by decide +kernel
theorem gz_249_24 : mz_pg 249 24 = some (.goto 9, 0, 0, 0) := by decide +kernel
theorem gz_249_27 : mz_pg 249 27 = some (.aload_n 0, 0, 0, 0) := by decide +kernel
theorem gz_249_28 : mz_pg 249 28 = some (.iconst 0, 0, 0, 0) := by decide +kernel
theorem gz_249_29 : mz_pg 249 29 = some (.iload_n 1, 0, 0, 0) := by decide +kernel
theorem gz_249_30 : mz_pg 249 30 = some (.invokevirtual 267, 1, 151, 1432) := by decide +kernel
theorem gz_249_33 : mz_pg 249 33 = some (.ireturn, 0, 0, 0) := by decide +kernel
theorem gz_249_34 : mz_pg 249 34 = some (.iconst 0, 0, 0, 0) := by decide +kernel
theorem gz_249_35 : mz_pg 249 35 = some (.istore_n 2, 0, 0, 0) := by decide +kernel
theorem gz_249_36 : mz_pg 249 36 = some (.iload_n 1, 0, 0, 0) := by decide +kernel
theorem gz_249_37 : mz_pg 249 37 = some (.tableswitch 127 3 5 #[27, 60, 65], 0, 0, 0) := by decide +kernel
theorem gz_249_64 : mz_pg 249 64 = some (.iconst 0, 0, 0, 0) := by decide +kernel
theorem gz_249_65 : mz_pg 249 65 = some (.istore_n 3, 0, 0, 0) := by decide +kernel
theorem gz_249_66 : mz_pg 249 66 = some (.iload_n 3, 0, 0, 0) := by decide +kernel
theorem gz_249_67 : mz_pg 249 67 = some (.bipush 6, 0, 0, 0) := by decide +kernel
theorem gz_249_69 : mz_pg 249 69 = some (.if_icmp .ge 26, 0, 0, 0) := by decide +kernel
theorem gz_249_72 : mz_pg 249 72 = some (.iload_n 2, 0, 0, 0) := by decide +kernel
theorem gz_249_73 : mz_pg 249 73 = some (.aload_n 0, 0, 0, 0) := by decide +kernel
theorem gz_249_74 : mz_pg 249 74 = some (.getfield 83, 10, 17, 1230) := by decide +kernel
theorem gz_249_77 : mz_pg 249 77 = some (.iload_n 3, 0, 0, 0) := by decide +kernel
theorem gz_249_78 : mz_pg 249 78 = some (.baload, 0, 0, 0) := by decide +kernel
theorem gz_249_79 : mz_pg 249 79 = some (.ifCond .eq 7, 0, 0, 0) := by decide +kernel
theorem gz_249_82 : mz_pg 249 82 = some (.iconst 1, 0, 0, 0) := by decide +kernel
theorem gz_249_83 : mz_pg 249 83 = some (.goto 4, 0, 0, 0) := by decide +kernel
theorem gz_249_86 : mz_pg 249 86 = some (.iconst 0, 0, 0, 0) := by decide +kernel
theorem gz_249_87 : mz_pg 249 87 = some (.iadd, 0, 0, 0) := by decide +kernel
theorem gz_249_88 : mz_pg 249 88 = some (.istore_n 2, 0, 0, 0) := by decide +kernel
theorem gz_249_89 : mz_pg 249 89 = some (.iinc 3 1, 0, 0, 0) := by decide +kernel
theorem gz_249_92 : mz_pg 249 92 = some (.goto (-26), 0, 0, 0) := by decide +kernel
theorem gz_249_95 : mz_pg 249 95 = some (.iload_n 2, 0, 0, 0) := by decide +kernel
theorem gz_249_96 : mz_pg 249 96 = some (.ireturn, 0, 0, 0) := by decide +kernel
theorem gz_249_97 : mz_pg 249 97 = some (.aload_n 0, 0, 0, 0) := by decide +kernel
theorem gz_249_98 : mz_pg 249 98 = some (.getfield 11, 10, 2, 1215) := by decide +kernel
theorem gz_249_101 : mz_pg 249 101 = some (.ireturn, 0, 0, 0) := by decide +kernel
theorem gz_249_102 : mz_pg 249 102 = some (.iconst 0, 0, 0, 0) := by decide +kernel
theorem gz_249_103 : mz_pg 249 103 = some (.istore_n 3, 0, 0, 0) := by decide +kernel
theorem gz_249_104 : mz_pg 249 104 = some (.iload_n 3, 0, 0, 0) := by decide +kernel
theorem gz_249_105 : mz_pg 249 105 = some (.bipush 60, 0, 0, 0) := by decide +kernel
theorem gz_249_107 : mz_pg 249 107 = some (.if_icmp .ge 55, 0, 0, 0) := by decide +kernel
theorem gz_249_110 : mz_pg 249 110 = some (.iconst 0, 0, 0, 0) := by decide +kernel
theorem gz_249_111 : mz_pg 249 111 = some (.istore 4, 0, 0, 0) := by decide +kernel
theorem gz_249_113 : mz_pg 249 113 = some (.iload 4, 0, 0, 0) := by decide +kernel
theorem gz_249_115 : mz_pg 249 115 = some (.aload_n 0, 0, 0, 0) := by decide +kernel
theorem gz_249_116 : mz_pg 249 116 = some (.getfield 61, 10, 10, 1223) := by decide +kernel
theorem gz_249_119 : mz_pg 249 119 = some (.iload_n 3, 0, 0, 0) := by decide +kernel
theorem gz_249_120 : mz_pg 249 120 = some (.bipush 20, 0, 0, 0) := by decide +kernel
theorem gz_249_122 : mz_pg 249 122 = some (.idiv, 0, 0, 0) := by decide +kernel
theorem gz_249_123 : mz_pg 249 123 = some (.iaload, 0, 0, 0) := by decide +kernel
theorem gz_249_124 : mz_pg 249 124 = some (.if_icmp .ge 32, 0, 0, 0) := by decide +kernel
theorem gz_249_127 : mz_pg 249 127 = some (.aload_n 0, 0, 0, 0) := by decide +kernel
theorem gz_249_128 : mz_pg 249 128 = some (.getfield 77, 10, 15, 1228) := by decide +kernel
theorem gz_249_131 : mz_pg 249 131 = some (.iload_n 3, 0, 0, 0) := by decide +kernel
theorem gz_249_132 : mz_pg 249 132 = some (.baload, 0, 0, 0) := by decide +kernel
theorem gz_249_133 : mz_pg 249 133 = some (.ifCond .eq 23, 0, 0, 0) := by decide +kernel
theorem gz_249_136 : mz_pg 249 136 = some (.iload_n 2, 0, 0, 0) := by decide +kernel
theorem gz_249_137 : mz_pg 249 137 = some (.aload_n 0, 0, 0, 0) := by decide +kernel
theorem gz_249_138 : mz_pg 249 138 = some (.getfield 80, 10, 16, 1229) := by decide +kernel
theorem gz_249_141 : mz_pg 249 141 = some (.iconst 4, 0, 0, 0) := by decide +kernel
theorem gz_249_142 : mz_pg 249 142 = some (.iload_n 3, 0, 0, 0) := by decide +kernel
theorem gz_249_143 : mz_pg 249 143 = some (.imul, 0, 0, 0) := by decide +kernel
theorem gz_249_144 : mz_pg 249 144 = some (.iload 4, 0, 0, 0) := by decide +kernel
theorem gz_249_146 : mz_pg 249 146 = some (.iadd, 0, 0, 0) := by decide +kernel
theorem gz_249_147 : mz_pg 249 147 = some (.iaload, 0, 0, 0) := by decide +kernel
theorem gz_249_148 : mz_pg 249 148 = some (.iadd, 0, 0, 0) := by decide +kernel
theorem gz_249_149 : mz_pg 249 149 = some (.istore_n 2, 0, 0, 0) := by decide +kernel
theorem gz_249_150 : mz_pg 249 150 = some (.iinc 4 1, 0, 0, 0) := by decide +kernel
theorem gz_249_153 : mz_pg 249 153 = some (.goto (-40), 0, 0, 0) := by decide +kernel
theorem gz_249_156 : mz_pg 249 156 = some (.iinc 3 1, 0, 0, 0) := by decide +kernel
theorem gz_249_159 : mz_pg 249 159 = some (.goto (-55), 0, 0, 0) := by decide +kernel
theorem gz_249_162 : mz_pg 249 162 = some (.iload_n 2, 0, 0, 0) := by decide +kernel
theorem gz_249_163 : mz_pg 249 163 = some (.ireturn, 0, 0, 0) := by decide +kernel
theorem gz_249_164 : mz_pg 249 164 = some (.iconst (-1), 0, 0, 0) := by decide +kernel
theorem gz_249_165 : mz_pg 249 165 = some (.ireturn, 0, 0, 0) := by decide +kernel
theorem gm_249 : my_mm 249 5 (some .int) 1 10 := by unfold my_mm; decide +kernel
theorem c40_Model_count {l : Launch} {rho : Nat → Int32} {d : Nat} {h : my_H} {Q : my_H → my_V → Prop} {x0 x1 : Int} (t0 : my_is 10 x0) (k0 : ∀ (h' : my_H), my_fr [(10, 0)] h h' → h' x0 ((0 : Nat) : Int) = 0 → Q h' (0, (-1))) (k1 : ∀ (h' : my_H) (y : Int), my_fr [(10, 0)] h h' → 0 ≤ x1 → x1 ≤ 5 → h' x0 ((0 : Nat) : Int) = 0 → Q h' (0, y)) : wp l rho (d + 2) 249 0 [(2, x0), (0, x1), (9, 0), (9, 0), (9, 0)] [] h Q := by
  have J66_0 : ∀ (n : Nat) (p66_0 p66_1 : Int) (h66_0 : my_H), my_fr [(10, 0)] h h66_0 → 0 ≤ p66_0 → p66_0 ≤ 6 → 0 ≤ p66_1 → p66_1 ≤ 6 → 3 ≤ x1 → x1 ≤ 3 → p66_0 ≤ p66_1 → h66_0 x0 ((0 : Nat) : Int) = 0 → 7 - p66_1 ≤ (n : Int) → wp l rho (d + 2) 249 66 [(2, x0), (0, 3), (0, p66_0), (0, p66_1), (9, 0)] [] h66_0 Q := by
    intro n
    induction n with
    | zero => intro p66_0 p66_1 h66_0 gh_66_0 q0_66_0 q1_66_0 q2_66_0 q3_66_0 q4_66_0 q5_66_0 q6_66_0 c0_66_0 hm_66_0; exfalso; omega
    | succ n ih_66_0 =>
      intro p66_0 p66_1 h66_0 gh_66_0 q0_66_0 q1_66_0 q2_66_0 q3_66_0 q4_66_0 q5_66_0 q6_66_0 c0_66_0 hm_66_0
      refine w_iload_n gz_249_66 rfl ?_
      refine w_bipush gz_249_67 (by decide) ?_
      refine w_icge (t := 95) gz_249_69 rfl (fun u1 => ?_) (fun u1 => ?_)
      ·
        refine w_iload_n gz_249_95 rfl ?_
        have c2 := c0_66_0
        exact w_iret gz_249_96 gm_249 (k1 h66_0 (p66_0) (gh_66_0) (by omega) (by omega) (by omega))
      ·
        refine w_iload_n gz_249_72 rfl ?_
        refine w_aload_n gz_249_73 rfl ?_
        refine w_getR gz_249_74 t0 rd_10 rfl (fun v3 ev3 tv3 => ?_)
        refine w_iload_n gz_249_77 rfl ?_
        refine w_bald gz_249_78 tv3 rd_63 (by omega) (by omega) (fun v4 ev4 pv4 qv4 => ?_)
        refine w_ifeq (t := 86) gz_249_79 rfl (fun u5 => ?_) (fun u5 => ?_)
        ·
          refine w_iconst gz_249_86 (by decide) ?_
          refine w_iadd gz_249_87 ⟨by omega, by omega⟩ ?_
          refine w_istore_n (ls' := [(2, x0), (0, 3), (0, (p66_0 + 0)), (0, p66_1), (9, 0)]) gz_249_88 gm_249 rfl rfl rfl ?_
          refine w_iinc (ls' := [(2, x0), (0, 3), (0, (p66_0 + 0)), (0, (p66_1 + 1)), (9, 0)]) gz_249_89 rfl gm_249 rfl rfl rfl ⟨by omega, by omega⟩ ?_
          refine w_goto (t := 66) gz_249_92 rfl ?_
          exact ih_66_0 ((p66_0 + 0)) ((p66_1 + 1)) h66_0 (gh_66_0) (by omega) (by omega) (by omega) (by omega) (by omega) (by omega) (by omega) (c0_66_0.trans (by omega)) (by omega)
        ·
          refine w_iconst gz_249_82 (by decide) ?_
          refine w_goto (t := 87) gz_249_83 rfl ?_
          refine w_iadd gz_249_87 ⟨by omega, by omega⟩ ?_
          refine w_istore_n (ls' := [(2, x0), (0, 3), (0, (p66_0 + 1)), (0, p66_1), (9, 0)]) gz_249_88 gm_249 rfl rfl rfl ?_
          refine w_iinc (ls' := [(2, x0), (0, 3), (0, (p66_0 + 1)), (0, (p66_1 + 1)), (9, 0)]) gz_249_89 rfl gm_249 rfl rfl rfl ⟨by omega, by omega⟩ ?_
          refine w_goto (t := 66) gz_249_92 rfl ?_
          exact ih_66_0 ((p66_0 + 1)) ((p66_1 + 1)) h66_0 (gh_66_0) (by omega) (by omega) (by omega) (by omega) (by omega) (by omega) (by omega) (c0_66_0.trans (by omega)) (by omega)
  have J104_0 : ∀ (n : Nat) (p104_0 p104_1 : Int) (h104_0 : my_H), my_fr [(10, 0)] h h104_0 → 0 ≤ p104_1 → p104_1 ≤ 60 → 5 ≤ x1 → x1 ≤ 5 → h104_0 x0 ((0 : Nat) : Int) = 0 → 61 - p104_1 ≤ (n : Int) → wp l rho (d + 2) 249 104 [(2, x0), (0, 5), (0, p104_0), (0, p104_1), (9, 0)] [] h104_0 Q := by
    intro n
    induction n with
    | zero => intro p104_0 p104_1 h104_0 gh_104_0 q0_104_0 q1_104_0 q2_104_0 q3_104_0 c0_104_0 hm_104_0; exfalso; omega
    | succ n ih_104_0 =>
      intro p104_0 p104_1 h104_0 gh_104_0 q0_104_0 q1_104_0 q2_104_0 q3_104_0 c0_104_0 hm_104_0
      have J156_0 : ∀ (p156_0 p156_1 : Int) (h156_0 : my_H), my_fr [(10, 0)] h h156_0 → p104_1 ≤ 59 → 0 ≤ p156_1 → p156_1 ≤ 4 → h156_0 x0 ((0 : Nat) : Int) = 0 → wp l rho (d + 2) 249 156 [(2, x0), (0, 5), (0, p156_0), (0, p104_1), (0, p156_1)] [] h156_0 Q := by
        intro p156_0 p156_1 h156_0 gh_156_0 q0_156_0 q1_156_0 q2_156_0 c0_156_0
        refine w_iinc (ls' := [(2, x0), (0, 5), (0, p156_0), (0, (p104_1 + 1)), (0, p156_1)]) gz_249_156 rfl gm_249 rfl rfl rfl ⟨by omega, by omega⟩ ?_
        refine w_goto (t := 104) gz_249_159 rfl ?_
        refine w_weak (ls' := [(2, x0), (0, 5), (0, p156_0), (0, (p104_1 + 1)), (9, 0)]) (wk_e (wk_e (wk_e (wk_e (wk_9 wk_n))))) ?_
        exact ih_104_0 (p156_0) ((p104_1 + 1)) h156_0 (gh_156_0) (by omega) (by omega) (by omega) (by omega) (c0_156_0.trans (by omega)) (by omega)
      have J113_0 : ∀ (n : Nat) (p113_0 p113_1 : Int) (h113_0 : my_H), my_fr [(10, 0)] h h113_0 → p104_1 ≤ 59 → 0 ≤ p113_1 → p113_1 ≤ 4 → h113_0 x0 ((0 : Nat) : Int) = 0 → 5 - p113_1 ≤ (n : Int) → wp l rho (d + 2) 249 113 [(2, x0), (0, 5), (0, p113_0), (0, p104_1), (0, p113_1)] [] h113_0 Q := by
        intro n
        induction n with
        | zero => intro p113_0 p113_1 h113_0 gh_113_0 q0_113_0 q1_113_0 q2_113_0 c0_113_0 hm_113_0; exfalso; omega
        | succ n ih_113_0 =>
          intro p113_0 p113_1 h113_0 gh_113_0 q0_113_0 q1_113_0 q2_113_0 c0_113_0 hm_113_0
          refine w_iload gz_249_113 rfl ?_
          refine w_aload_n gz_249_115 rfl ?_
          refine w_getR gz_249_116 t0 rd_10 rfl (fun v6 ev6 tv6 => ?_)
          refine w_iload_n gz_249_119 rfl ?_
          refine w_bipush gz_249_120 (by decide) ?_
          refine w_idiv gz_249_122 (by omega) (by decide) ?_
          refine w_iald gz_249_123 tv6 rd_56 (by omega) (by omega) (fun v7 ev7 pv7 qv7 => ?_)
          refine w_icge (t := 156) gz_249_124 rfl (fun u8 => ?_) (fun u8 => ?_)
          ·
            exact J156_0 (p113_0) (p113_1) h113_0 (gh_113_0) (by omega) (by omega) (by omega) (c0_113_0.trans (by omega))
          ·
            refine w_aload_n gz_249_127 rfl ?_
            refine w_getR gz_249_128 t0 rd_10 rfl (fun v9 ev9 tv9 => ?_)
            refine w_iload_n gz_249_131 rfl ?_
            refine w_bald gz_249_132 tv9 rd_61 (by omega) (by omega) (fun v10 ev10 pv10 qv10 => ?_)
            refine w_ifeq (t := 156) gz_249_133 rfl (fun u11 => ?_) (fun u11 => ?_)
            ·
              exact J156_0 (p113_0) (p113_1) h113_0 (gh_113_0) (by omega) (by omega) (by omega) (c0_113_0.trans (by omega))
            ·
              refine w_iload_n gz_249_136 rfl ?_
              refine w_aload_n gz_249_137 rfl ?_
              refine w_getR gz_249_138 t0 rd_10 rfl (fun v12 ev12 tv12 => ?_)
              refine w_iconst gz_249_141 (by decide) ?_
              refine w_iload_n gz_249_142 rfl ?_
              refine w_imul gz_249_143 ⟨by omega, by omega⟩ ?_
              refine w_iload gz_249_144 rfl ?_
              refine w_iadd gz_249_146 ⟨by omega, by omega⟩ ?_
              refine w_iald gz_249_147 tv12 rd_62 (by omega) (by omega) (fun v13 ev13 pv13 qv13 => ?_)
              refine w_ianyA gz_249_148 (fun v14 pv14 qv14 => ?_)
              refine w_istore_n (ls' := [(2, x0), (0, 5), (0, v14), (0, p104_1), (0, p113_1)]) gz_249_149 gm_249 rfl rfl rfl ?_
              refine w_iinc (ls' := [(2, x0), (0, 5), (0, v14), (0, p104_1), (0, (p113_1 + 1))]) gz_249_150 rfl gm_249 rfl rfl rfl ⟨by omega, by omega⟩ ?_
              refine w_goto (t := 113) gz_249_153 rfl ?_
              exact ih_113_0 (v14) ((p113_1 + 1)) h113_0 (gh_113_0) (by omega) (by omega) (by omega) (c0_113_0.trans (by omega)) (by omega)
      refine w_iload_n gz_249_104 rfl ?_
      refine w_bipush gz_249_105 (by decide) ?_
      refine w_icge (t := 162) gz_249_107 rfl (fun u15 => ?_) (fun u15 => ?_)
      ·
        refine w_iload_n gz_249_162 rfl ?_
        have c16 := c0_104_0
        exact w_iret gz_249_163 gm_249 (k1 h104_0 (p104_0) (gh_104_0) (by omega) (by omega) (by omega))
      ·
        refine w_iconst gz_249_110 (by decide) ?_
        refine w_istore (ls' := [(2, x0), (0, 5), (0, p104_0), (0, p104_1), (0, 0)]) gz_249_111 gm_249 rfl rfl rfl ?_
        exact J113_0 5 (p104_0) (0) h104_0 (gh_104_0) (by omega) (by omega) (by omega) (c0_104_0.trans (by omega)) (by omega)
  refine w_aload_n gz_249_0 rfl ?_
  refine w_iconst gz_249_1 (by decide) ?_
  refine w_putI gz_249_2 t0 rd_10 rfl (by omega) (by omega) rfl (fun h17 fh17 => ?_)
  have gh17 : my_fr [(10, 0)] h h17 := my_fr.up my_fr.rf t0 fh17 rfl
  refine w_iload_n gz_249_5 rfl ?_
  refine w_iconst gz_249_6 (by decide) ?_
  refine w_iconst gz_249_7 (by decide) ?_
  refine w_inS (k := 0) (as := [(0, 2), (0, 0), (0, x1)]) (r := []) (ls0 := [(0, x1), (0, 0), (0, 2)]) gz_249_8 gm_147 rfl rfl rfl rfl rfl rfl ?_
  refine w_iload_n gz_147_0 rfl ?_
  refine w_iload_n gz_147_1 rfl ?_
  refine w_iclt (t := 14) gz_147_2 rfl (fun u18 => ?_) (fun u18 => ?_)
  ·
    refine w_iconst gz_147_14 (by decide) ?_
    refine w_bret gz_147_15 gm_147 (by omega) (by omega) ?_
    show wp l rho (d + 2) 249 11 [(2, x0), (0, x1), (9, 0), (9, 0), (9, 0)] [(0, 0)] h17 Q
    refine w_ifeq (t := 34) gz_249_11 rfl (fun u19 => ?_) (fun u19 => by exfalso; omega)
    refine w_iconst gz_249_34 (by decide) ?_
    refine w_istore_n (ls' := [(2, x0), (0, x1), (0, 0), (9, 0), (9, 0)]) gz_249_35 gm_249 rfl rfl rfl ?_
    refine w_iload_n gz_249_36 rfl ?_
    refine w_tswD (t := 164) gz_249_37 (by omega) rfl ?_
    refine w_iconst gz_249_164 (by decide) ?_
    have c20 := (my_up_self fh17)
    exact w_iret gz_249_165 gm_249 (k0 h17 (gh17) (by omega))
  ·
    refine w_iload_n gz_147_5 rfl ?_
    refine w_iload_n gz_147_6 rfl ?_
    refine w_icgt (t := 14) gz_147_7 rfl (fun u21 => ?_) (fun u21 => ?_)
    ·
      refine w_iconst gz_147_14 (by decide) ?_
      refine w_bret gz_147_15 gm_147 (by omega) (by omega) ?_
      show wp l rho (d + 2) 249 11 [(2, x0), (0, x1), (9, 0), (9, 0), (9, 0)] [(0, 0)] h17 Q
      refine w_ifeq (t := 34) gz_249_11 rfl (fun u22 => ?_) (fun u22 => by exfalso; omega)
      refine w_iconst gz_249_34 (by decide) ?_
      refine w_istore_n (ls' := [(2, x0), (0, x1), (0, 0), (9, 0), (9, 0)]) gz_249_35 gm_249 rfl rfl rfl ?_
      refine w_iload_n gz_249_36 rfl ?_
      by_cases u23 : x1 = 3
      ·
        refine w_tswE (t := 64) gz_249_37 u23 (by decide) (by decide) rfl rfl ?_
        refine w_iconst gz_249_64 (by decide) ?_
        refine w_istore_n (ls' := [(2, x0), (0, x1), (0, 0), (0, 0), (9, 0)]) gz_249_65 gm_249 rfl rfl rfl ?_
        rw [show (x1 : Int) = 3 from by omega]
        exact J66_0 7 (0) (0) h17 (gh17) (by omega) (by omega) (by omega) (by omega) (by omega) (by omega) (by omega) ((my_up_self fh17).trans (by omega)) (by omega)
      ·
        by_cases u24 : x1 = 4
        ·
          refine w_tswE (t := 97) gz_249_37 u24 (by decide) (by decide) rfl rfl ?_
          refine w_aload_n gz_249_97 rfl ?_
          refine w_getI gz_249_98 t0 rd_10 rfl (fun v25 ev25 pv25 qv25 => ?_)
          have c26 := (my_up_self fh17)
          exact w_iret gz_249_101 gm_249 (k1 h17 (v25) (gh17) (by omega) (by omega) (by omega))
        ·
          by_cases u27 : x1 = 5
          ·
            refine w_tswE (t := 102) gz_249_37 u27 (by decide) (by decide) rfl rfl ?_
            refine w_iconst gz_249_102 (by decide) ?_
            refine w_istore_n (ls' := [(2, x0), (0, x1), (0, 0), (0, 0), (9, 0)]) gz_249_103 gm_249 rfl rfl rfl ?_
            rw [show (x1 : Int) = 5 from by omega]
            exact J104_0 61 (0) (0) h17 (gh17) (by omega) (by omega) (by omega) (by omega) ((my_up_self fh17).trans (by omega)) (by omega)
          ·
            refine w_tswD (t := 164) gz_249_37 (by omega) rfl ?_
            refine w_iconst gz_249_164 (by decide) ?_
            have c28 := (my_up_self fh17)
            exact w_iret gz_249_165 gm_249 (k0 h17 (gh17) (by omega))
    ·
      refine w_iconst gz_147_10 (by decide) ?_
      refine w_goto (t := 15) gz_147_11 rfl ?_
      refine w_bret gz_147_15 gm_147 (by omega) (by omega) ?_
      show wp l rho (d + 2) 249 11 [(2, x0), (0, x1), (9, 0), (9, 0), (9, 0)] [(0, 1)] h17 Q
      refine w_ifeq (t := 34) gz_249_11 rfl (fun u29 => by exfalso; omega) (fun u29 => ?_)
      refine w_aload_n gz_249_14 rfl ?_
      refine w_getR gz_249_15 t0 rd_10 rfl (fun v30 ev30 tv30 => ?_)
      refine w_iload_n gz_249_18 rfl ?_
      refine w_iald gz_249_19 tv30 rd_56 (by omega) (by omega) (fun v31 ev31 pv31 qv31 => ?_)
      refine w_ifne (t := 27) gz_249_20 rfl (fun u32 => ?_) (fun u32 => ?_)
      ·
        refine w_aload_n gz_249_27 rfl ?_
        refine w_iconst gz_249_28 (by decide) ?_
        refine w_iload_n gz_249_29 rfl ?_
        refine w_inv (k := 2) (as := [(0, x1), (0, 0)]) (r := []) (x := x0) (ls0 := [(2, x0), (0, 0), (0, x1), (9, 0), (9, 0)]) gz_249_30 gm_151 rfl t0 rd_10 rfl rfl rfl rfl rfl (c12_Model_rowsOf (d := d) (x0 := x0) (x1 := 0) (x2 := x1) t0 (by omega) (by omega) (by omega) (by omega) (fun v33 w34 w35 => ?_))
        show wp l rho (d + 2) 249 33 [(2, x0), (0, x1), (9, 0), (9, 0), (9, 0)] [(0, v33)] h17 Q
        have c36 := (my_up_self fh17)
        exact w_iret gz_249_33 gm_249 (k1 h17 (v33) (gh17) (by omega) (by omega) (by omega))
      ·
        refine w_iconst gz_249_23 (by decide) ?_
        refine w_goto (t := 33) gz_249_24 rfl ?_
        have c37 := (my_up_self fh17)
        exact w_iret gz_249_33 gm_249 (k0 h17 (gh17) (by omega))
theorem gz_26_0 : mz_pg 26 0 = some (.aload_n 0, 0, 0, 0) := by decide +kernel
theorem gz_26_1 : mz_pg 26 1 = some (.getfield 10, 9, 0, 528) := by decide +kernel
theorem gz_26_4 : mz_pg 26 4 = some (.iload_n 1, 0, 0, 0) := by decide +kernel
theorem gz_26_5 : mz_pg 26 5 = some (.iload_n 2, 0, 0, 0) := by decide +kernel
theorem gz_26_6 : mz_pg 26 6 = some (.invokevirtual 118, 1, 27, 634) := by decide +kernel
theorem gz_26_9 : mz_pg 26 9 = some (.ifCond .eq 27, 0, 0, 0) := by decide +kernel
theorem gz_26_12 : mz_pg 26 12 = some (.iload_n 3, 0, 0, 0) := by decide +kernel
theorem gz_26_13 : mz_pg 26 13 = some (.iload 4, 0, 0, 0) := by decide +kernel
theorem gz_26_15 : mz_pg 26 15 = some (.invokestatic 119, 1, 28, 639) := by decide +kernel
theorem gz_26_18 : mz_pg 26 18 = some (.ifCond .eq 18, 0, 0, 0) := by decide +kernel
theorem gz_26_21 : mz_pg 26 21 = some (.aload_n 0, 0, 0, 0) := by decide +kernel
theorem gz_26_22 : mz_pg 26 22 = some (.getfield 19, 9, 1, 529) := by decide +kernel
theorem gz_26_25 : mz_pg 26 25 = some (.iload_n 1, 0, 0, 0) := by decide +kernel
theorem gz_26_26 : mz_pg 26 26 = some (.iload_n 2, 0, 0, 0) := by decide +kernel
theorem gz_26_27 : mz_pg 26 27 = some (.iload_n 3, 0, 0, 0) := by decide +kernel
theorem gz_26_28 : mz_pg 26 28 = some (.iload 4, 0, 0, 0) := by decide +kernel
theorem gz_26_30 : mz_pg 26 30 = some (.invokevirtual 122, 1, 20, 642) := by decide +kernel
theorem gz_26_33 : mz_pg 26 33 = some (.ifCond .le 5, 0, 0, 0) := by decide +kernel
theorem gz_26_36 : mz_pg 26 36 = some (.iconst 0, 0, 0, 0) := by decide +kernel
theorem gz_26_37 : mz_pg 26 37 = some (.ireturn, 0, 0, 0) := by decide +kernel
theorem gz_26_38 : mz_pg 26 38 = some (.aload_n 0, 0, 0, 0) := by decide +kernel
theorem gz_26_39 : mz_pg 26 39 = some (.getfield 10, 9, 0, 528) := by decide +kernel
theorem gz_26_42 : mz_pg 26 42 = some (.getfield 126, 3, 1, 150) := by decide +kernel
theorem gz_26_45 : mz_pg 26 45 = some (.iload_n 1, 0, 0, 0) := by decide +kernel
theorem gz_26_46 : mz_pg 26 46 = some (.iload_n 2, 0, 0, 0) := by decide +kernel
theorem gz_26_47 : mz_pg 26 47 = some (.invokestatic 129, 1, 29, 643) := by decide +kernel
theorem gz_26_50 : mz_pg 26 50 = some (.iload_n 3, 0, 0, 0) := by decide +kernel
theorem gz_26_51 : mz_pg 26 51 = some (.iastore, 0, 0, 0) := by decide +kernel
theorem gz_26_52 : mz_pg 26 52 = some (.aload_n 0, 0, 0, 0) := by decide +kernel
theorem gz_26_53 : mz_pg 26 53 = some (.getfield 10, 9, 0, 528) := by decide +kernel
theorem gz_26_56 : mz_pg 26 56 = some (.getfield 133, 3, 2, 152) := by decide +kernel
theorem gz_26_59 : mz_pg 26 59 = some (.iload_n 1, 0, 0, 0) := by decide +kernel
theorem gz_26_60 : mz_pg 26 60 = some (.iload_n 2, 0, 0, 0) := by decide +kernel
theorem gz_26_61 : mz_pg 26 61 = some (.invokestatic 129, 1, 29, 643) := by decide +kernel
theorem gz_26_64 : mz_pg 26 64 = some (.iload 4, 0, 0, 0) := by decide +kernel
theorem gz_26_66 : mz_pg 26 66 = some (.iastore, 0, 0, 0) := by decide +kernel
theorem gz_26_67 : mz_pg 26 67 = some (.iconst 1, 0, 0, 0) := by decide +kernel
theorem gz_26_68 : mz_pg 26 68 = some (.ireturn, 0, 0, 0) := by decide +kernel
theorem gz_27_0 : mz_pg 27 0 = some (.aload_n 0, 0, 0, 0) := by decide +kernel
theorem gz_27_1 : mz_pg 27 1 = some (.iload_n 1, 0, 0, 0) := by decide +kernel
theorem gz_27_2 : mz_pg 27 2 = some (.invokevirtual 28, 1, 13, 638) := by decide +kernel
theorem gz_27_5 : mz_pg 27 5 = some (.ifCond .eq 21, 0, 0, 0) := by decide +kernel
theorem gz_27_8 : mz_pg 27 8 = some (.iload_n 2, 0, 0, 0) := by decide +kernel
theorem gz_27_9 : mz_pg 27 9 = some (.ifCond .lt 17, 0, 0, 0) := by decide +kernel
theorem gz_27_12 : mz_pg 27 12 = some (.iload_n 2, 0, 0, 0) := by decide +kernel
theorem gz_27_13 : mz_pg 27 13 = some (.aload_n 0, 0, 0, 0) := by decide +kernel
theorem gz_27_14 : mz_pg 27 14 = some (.getfield 9, 3, 0, 144) := by decide +kernel
theorem gz_27_17 : mz_pg 27 17 = some (.iload_n 1, 0, 0, 0) := by decide +kernel
theorem gz_27_18 : mz_pg 27 18 = some (.iaload, 0, 0, 0) := by decide +kernel
theorem gz_27_19 : mz_pg 27 19 = some (.if_icmp .ge 7, 0, 0, 0) := by decide +kernel
theorem gz_27_22 : mz_pg 27 22 = some (.iconst 1, 0, 0, 0) := by decide +kernel
theorem gz_27_23 : mz_pg 27 23 = some (.goto 4, 0, 0, 0) := by decide +kernel
theorem gz_27_26 : mz_pg 27 26 = some (.iconst 0, 0, 0, 0) := by decide +kernel
theorem gz_27_27 : mz_pg 27 27 = some (.ireturn, 0, 0, 0) := by decide +kernel
theorem gz_28_0 : mz_pg 28 0 = some (.iload_n 0, 0, 0, 0) := by decide +kernel
theorem gz_28_1 : mz_pg 28 1 = some (.ifCond .lt 18, 0, 0, 0) := by decide +kernel
theorem gz_28_4 : mz_pg 28 4 = some (.iload_n 0, 0, 0, 0) := by decide +kernel
theorem gz_28_5 : mz_pg 28 5 = some (.iload_n 1, 0, 0, 0) := by decide +kernel
theorem gz_28_6 : mz_pg 28 6 = some (.if_icmp .gt 13, 0, 0, 0) := by decide +kernel
theorem gz_28_9 : mz_pg 28 9 = some (.iload_n 1, 0, 0, 0) := by decide +kernel
theorem gz_28_10 : mz_pg 28 10 = some (.bipush 20, 0, 0, 0) := by decide +kernel
theorem gz_28_12 : mz_pg 28 12 = some (.if_icmp .ge 7, 0, 0, 0) := by decide +kernel
theorem gz_28_15 : mz_pg 28 15 = some (.iconst 1, 0, 0, 0) := by decide +kernel
theorem gz_28_16 : mz_pg 28 16 = some (.goto 4, 0, 0, 0) := by decide +kernel
theorem gz_28_19 : mz_pg 28 19 = some (.iconst 0, 0, 0, 0) := by decide +kernel
theorem gz_28_20 : mz_pg 28 20 = some (.ireturn, 0, 0, 0) := by decide +kernel
theorem gm_26 : my_mm 26 5 (some .boolean) 4 9 := by unfold my_mm; decide +kernel
theorem gm_27 : my_mm 27 3 (some .boolean) 2 3 := by unfold my_mm; decide +kernel
theorem gm_28 : my_mm 28 2 (some .boolean) 2 9 := by unfold my_mm; decide +kernel
theorem rd_26 : my_rd 26 = .inl (0, 12, [(0, 0, 19)]) := rfl
theorem rd_27 : my_rd 27 = .inl (0, 12, [(0, 0, 19)]) := rfl
theorem c41_ThroughWindow_span {l : Launch} {rho : Nat → Int32} {d : Nat} {h : my_H} {Q : my_H → my_V → Prop} {x0 x1 x2 x3 x4 : Int} (t0 : my_is 9 x0) (k0 : ∀ (h' : my_H), my_fr [(26, -1), (27, -1)] h h' → Q h' (0, 0)) (k1 : ∀ (h' : my_H), my_fr [(26, -1), (27, -1)] h h' → 0 ≤ x1 → x1 ≤ 2 → 0 ≤ x2 → x2 ≤ 3 → 0 ≤ x3 → x3 ≤ 19 → 0 ≤ x4 → x4 ≤ 19 → Q h' (0, 1)) : wp l rho (d + 2) 26 0 [(2, x0), (0, x1), (0, x2), (0, x3), (0, x4)] [] h Q := by
  refine w_aload_n gz_26_0 rfl ?_
  refine w_getR gz_26_1 t0 rd_9 rfl (fun v1 ev1 tv1 => ?_)
  refine w_iload_n gz_26_4 rfl ?_
  refine w_iload_n gz_26_5 rfl ?_
  refine w_inv (k := 0) (as := [(0, x2), (0, x1)]) (r := []) (x := v1) (ls0 := [(2, v1), (0, x1), (0, x2)]) gz_26_6 gm_27 rfl tv1 rd_3 rfl rfl rfl rfl rfl ?_
  refine w_aload_n gz_27_0 rfl ?_
  refine w_iload_n gz_27_1 rfl ?_
  refine w_inv (k := 0) (as := [(0, x1)]) (r := []) (x := v1) (ls0 := [(2, v1), (0, x1)]) gz_27_2 gm_13 rfl tv1 rd_3 rfl rfl rfl rfl rfl ?_
  refine w_iload_n gz_13_0 rfl ?_
  refine w_iflt (t := 22) gz_13_1 rfl (fun u2 => ?_) (fun u2 => ?_)
  ·
    refine w_iconst gz_13_22 (by decide) ?_
    refine w_bret gz_13_23 gm_13 (by omega) (by omega) ?_
    show wp l rho (d + 1) 27 5 [(2, v1), (0, x1), (0, x2)] [(0, 0)] h _
    refine w_ifeq (t := 26) gz_27_5 rfl (fun u3 => ?_) (fun u3 => by exfalso; omega)
    refine w_iconst gz_27_26 (by decide) ?_
    refine w_bret gz_27_27 gm_27 (by omega) (by omega) ?_
    show wp l rho (d + 2) 26 9 [(2, x0), (0, x1), (0, x2), (0, x3), (0, x4)] [(0, 0)] h Q
    refine w_ifeq (t := 36) gz_26_9 rfl (fun u4 => ?_) (fun u4 => by exfalso; omega)
    refine w_iconst gz_26_36 (by decide) ?_
    exact w_bret gz_26_37 gm_26 (by omega) (by omega) (k0 h (my_fr.rf))
  ·
    refine w_iload_n gz_13_4 rfl ?_
    refine w_iconst gz_13_5 (by decide) ?_
    refine w_icge (t := 22) gz_13_6 rfl (fun u5 => ?_) (fun u5 => ?_)
    ·
      refine w_iconst gz_13_22 (by decide) ?_
      refine w_bret gz_13_23 gm_13 (by omega) (by omega) ?_
      show wp l rho (d + 1) 27 5 [(2, v1), (0, x1), (0, x2)] [(0, 0)] h _
      refine w_ifeq (t := 26) gz_27_5 rfl (fun u6 => ?_) (fun u6 => by exfalso; omega)
      refine w_iconst gz_27_26 (by decide) ?_
      refine w_bret gz_27_27 gm_27 (by omega) (by omega) ?_
      show wp l rho (d + 2) 26 9 [(2, x0), (0, x1), (0, x2), (0, x3), (0, x4)] [(0, 0)] h Q
      refine w_ifeq (t := 36) gz_26_9 rfl (fun u7 => ?_) (fun u7 => by exfalso; omega)
      refine w_iconst gz_26_36 (by decide) ?_
      exact w_bret gz_26_37 gm_26 (by omega) (by omega) (k0 h (my_fr.rf))
    ·
      refine w_aload_n gz_13_9 rfl ?_
      refine w_getR gz_13_10 tv1 rd_3 rfl (fun v8 ev8 tv8 => ?_)
      refine w_iload_n gz_13_13 rfl ?_
      refine w_iald gz_13_14 tv8 rd_25 (by omega) (by omega) (fun v9 ev9 pv9 qv9 => ?_)
      refine w_ifle (t := 22) gz_13_15 rfl (fun u10 => ?_) (fun u10 => ?_)
      ·
        refine w_iconst gz_13_22 (by decide) ?_
        refine w_bret gz_13_23 gm_13 (by omega) (by omega) ?_
        show wp l rho (d + 1) 27 5 [(2, v1), (0, x1), (0, x2)] [(0, 0)] h _
        refine w_ifeq (t := 26) gz_27_5 rfl (fun u11 => ?_) (fun u11 => by exfalso; omega)
        refine w_iconst gz_27_26 (by decide) ?_
        refine w_bret gz_27_27 gm_27 (by omega) (by omega) ?_
        show wp l rho (d + 2) 26 9 [(2, x0), (0, x1), (0, x2), (0, x3), (0, x4)] [(0, 0)] h Q
        refine w_ifeq (t := 36) gz_26_9 rfl (fun u12 => ?_) (fun u12 => by exfalso; omega)
        refine w_iconst gz_26_36 (by decide) ?_
        exact w_bret gz_26_37 gm_26 (by omega) (by omega) (k0 h (my_fr.rf))
      ·
        refine w_iconst gz_13_18 (by decide) ?_
        refine w_goto (t := 23) gz_13_19 rfl ?_
        refine w_bret gz_13_23 gm_13 (by omega) (by omega) ?_
        show wp l rho (d + 1) 27 5 [(2, v1), (0, x1), (0, x2)] [(0, 1)] h _
        refine w_ifeq (t := 26) gz_27_5 rfl (fun u13 => by exfalso; omega) (fun u13 => ?_)
        refine w_iload_n gz_27_8 rfl ?_
        refine w_iflt (t := 26) gz_27_9 rfl (fun u14 => ?_) (fun u14 => ?_)
        ·
          refine w_iconst gz_27_26 (by decide) ?_
          refine w_bret gz_27_27 gm_27 (by omega) (by omega) ?_
          show wp l rho (d + 2) 26 9 [(2, x0), (0, x1), (0, x2), (0, x3), (0, x4)] [(0, 0)] h Q
          refine w_ifeq (t := 36) gz_26_9 rfl (fun u15 => ?_) (fun u15 => by exfalso; omega)
          refine w_iconst gz_26_36 (by decide) ?_
          exact w_bret gz_26_37 gm_26 (by omega) (by omega) (k0 h (my_fr.rf))
        ·
          refine w_iload_n gz_27_12 rfl ?_
          refine w_aload_n gz_27_13 rfl ?_
          refine w_getR gz_27_14 tv1 rd_3 rfl (fun v16 ev16 tv16 => ?_)
          have zv16 : v8 = v16 := (ev16.trans ev8.symm).symm
          subst zv16
          refine w_iload_n gz_27_17 rfl ?_
          refine w_iald gz_27_18 tv8 rd_25 (by omega) (by omega) (fun v17 ev17 pv17 qv17 => ?_)
          have zv17 := ev17.trans ev9.symm
          refine w_icge (t := 26) gz_27_19 rfl (fun u18 => ?_) (fun u18 => ?_)
          ·
            refine w_iconst gz_27_26 (by decide) ?_
            refine w_bret gz_27_27 gm_27 (by omega) (by omega) ?_
            show wp l rho (d + 2) 26 9 [(2, x0), (0, x1), (0, x2), (0, x3), (0, x4)] [(0, 0)] h Q
            refine w_ifeq (t := 36) gz_26_9 rfl (fun u19 => ?_) (fun u19 => by exfalso; omega)
            refine w_iconst gz_26_36 (by decide) ?_
            exact w_bret gz_26_37 gm_26 (by omega) (by omega) (k0 h (my_fr.rf))
          ·
            refine w_iconst gz_27_22 (by decide) ?_
            refine w_goto (t := 27) gz_27_23 rfl ?_
            refine w_bret gz_27_27 gm_27 (by omega) (by omega) ?_
            show wp l rho (d + 2) 26 9 [(2, x0), (0, x1), (0, x2), (0, x3), (0, x4)] [(0, 1)] h Q
            refine w_ifeq (t := 36) gz_26_9 rfl (fun u20 => by exfalso; omega) (fun u20 => ?_)
            refine w_iload_n gz_26_12 rfl ?_
            refine w_iload gz_26_13 rfl ?_
            refine w_inS (k := 0) (as := [(0, x4), (0, x3)]) (r := []) (ls0 := [(0, x3), (0, x4)]) gz_26_15 gm_28 rfl rfl rfl rfl rfl rfl ?_
            refine w_iload_n gz_28_0 rfl ?_
            refine w_iflt (t := 19) gz_28_1 rfl (fun u21 => ?_) (fun u21 => ?_)
            ·
              refine w_iconst gz_28_19 (by decide) ?_
              refine w_bret gz_28_20 gm_28 (by omega) (by omega) ?_
              show wp l rho (d + 2) 26 18 [(2, x0), (0, x1), (0, x2), (0, x3), (0, x4)] [(0, 0)] h Q
              refine w_ifeq (t := 36) gz_26_18 rfl (fun u22 => ?_) (fun u22 => by exfalso; omega)
              refine w_iconst gz_26_36 (by decide) ?_
              exact w_bret gz_26_37 gm_26 (by omega) (by omega) (k0 h (my_fr.rf))
            ·
              refine w_iload_n gz_28_4 rfl ?_
              refine w_iload_n gz_28_5 rfl ?_
              refine w_icgt (t := 19) gz_28_6 rfl (fun u23 => ?_) (fun u23 => ?_)
              ·
                refine w_iconst gz_28_19 (by decide) ?_
                refine w_bret gz_28_20 gm_28 (by omega) (by omega) ?_
                show wp l rho (d + 2) 26 18 [(2, x0), (0, x1), (0, x2), (0, x3), (0, x4)] [(0, 0)] h Q
                refine w_ifeq (t := 36) gz_26_18 rfl (fun u24 => ?_) (fun u24 => by exfalso; omega)
                refine w_iconst gz_26_36 (by decide) ?_
                exact w_bret gz_26_37 gm_26 (by omega) (by omega) (k0 h (my_fr.rf))
              ·
                refine w_iload_n gz_28_9 rfl ?_
                refine w_bipush gz_28_10 (by decide) ?_
                refine w_icge (t := 19) gz_28_12 rfl (fun u25 => ?_) (fun u25 => ?_)
                ·
                  refine w_iconst gz_28_19 (by decide) ?_
                  refine w_bret gz_28_20 gm_28 (by omega) (by omega) ?_
                  show wp l rho (d + 2) 26 18 [(2, x0), (0, x1), (0, x2), (0, x3), (0, x4)] [(0, 0)] h Q
                  refine w_ifeq (t := 36) gz_26_18 rfl (fun u26 => ?_) (fun u26 => by exfalso; omega)
                  refine w_iconst gz_26_36 (by decide) ?_
                  exact w_bret gz_26_37 gm_26 (by omega) (by omega) (k0 h (my_fr.rf))
                ·
                  refine w_iconst gz_28_15 (by decide) ?_
                  refine w_goto (t := 20) gz_28_16 rfl ?_
                  refine w_bret gz_28_20 gm_28 (by omega) (by omega) ?_
                  show wp l rho (d + 2) 26 18 [(2, x0), (0, x1), (0, x2), (0, x3), (0, x4)] [(0, 1)] h Q
                  refine w_ifeq (t := 36) gz_26_18 rfl (fun u27 => by exfalso; omega) (fun u27 => ?_)
                  refine w_aload_n gz_26_21 rfl ?_
                  refine w_getR gz_26_22 t0 rd_9 rfl (fun v28 ev28 tv28 => ?_)
                  refine w_iload_n gz_26_25 rfl ?_
                  refine w_iload_n gz_26_26 rfl ?_
                  refine w_iload_n gz_26_27 rfl ?_
                  refine w_iload gz_26_28 rfl ?_
                  refine w_inv (k := 3) (as := [(0, x4), (0, x3), (0, x2), (0, x1)]) (r := []) (x := v28) (ls0 := [(2, v28), (0, x1), (0, x2), (0, x3), (0, x4), (9, 0), (9, 0), (9, 0)]) gz_26_30 gm_20 rfl tv28 rd_6 rfl rfl rfl rfl rfl (c26_Rows_outside (d := d) (x0 := v28) (x1 := x1) (x2 := x2) (x3 := x3) (x4 := x4) tv28 (by omega) (by omega) (by omega) (by omega) (by omega) (by omega) (by omega) (by omega) (fun v29 w30 w31 => ?_))
                  show wp l rho (d + 2) 26 33 [(2, x0), (0, x1), (0, x2), (0, x3), (0, x4)] [(0, v29)] h Q
                  refine w_ifle (t := 38) gz_26_33 rfl (fun u32 => ?_) (fun u32 => ?_)
                  ·
                    refine w_aload_n gz_26_38 rfl ?_
                    refine w_getR gz_26_39 t0 rd_9 rfl (fun v33 ev33 tv33 => ?_)
                    have zv33 : v1 = v33 := (ev33.trans ev1.symm).symm
                    subst zv33
                    refine w_getR gz_26_42 tv1 rd_3 rfl (fun v34 ev34 tv34 => ?_)
                    refine w_iload_n gz_26_45 rfl ?_
                    refine w_iload_n gz_26_46 rfl ?_
                    refine w_inS (k := 0) (as := [(0, x2), (0, x1)]) (r := [(2, v34)]) (ls0 := [(0, x1), (0, x2)]) gz_26_47 gm_29 rfl rfl rfl rfl rfl rfl ?_
                    refine w_iload_n gz_29_0 rfl ?_
                    refine w_iconst gz_29_1 (by decide) ?_
                    refine w_imul gz_29_2 ⟨by omega, by omega⟩ ?_
                    refine w_iload_n gz_29_3 rfl ?_
                    refine w_iadd gz_29_4 ⟨by omega, by omega⟩ ?_
                    refine w_iret gz_29_5 gm_29 ?_
                    show wp l rho (d + 2) 26 50 [(2, x0), (0, x1), (0, x2), (0, x3), (0, x4)] [(0, ((x1 * 4) + x2)), (2, v34)] h Q
                    refine w_iload_n gz_26_50 rfl ?_
                    refine w_iast gz_26_51 tv34 rd_26 (by omega) (by omega) (by omega) (by omega) (fun h35 fh35 => ?_)
                    have gh35 : my_fr [(26, -1), (27, -1)] h h35 := my_fr.up my_fr.rf tv34 fh35 rfl
                    refine w_aload_n gz_26_52 rfl ?_
                    refine w_getR gz_26_53 t0 rd_9 rfl (fun v36 ev36 tv36 => ?_)
                    have zv36 : v1 = v36 := (ev36.trans ((my_up_role fh35 t0 tv34 rfl).trans ev1.symm)).symm
                    subst zv36
                    refine w_getR gz_26_56 tv1 rd_3 rfl (fun v37 ev37 tv37 => ?_)
                    refine w_iload_n gz_26_59 rfl ?_
                    refine w_iload_n gz_26_60 rfl ?_
                    refine w_inS (k := 0) (as := [(0, x2), (0, x1)]) (r := [(2, v37)]) (ls0 := [(0, x1), (0, x2)]) gz_26_61 gm_29 rfl rfl rfl rfl rfl rfl ?_
                    refine w_iload_n gz_29_0 rfl ?_
                    refine w_iconst gz_29_1 (by decide) ?_
                    refine w_imul gz_29_2 ⟨by omega, by omega⟩ ?_
                    refine w_iload_n gz_29_3 rfl ?_
                    refine w_iadd gz_29_4 ⟨by omega, by omega⟩ ?_
                    refine w_iret gz_29_5 gm_29 ?_
                    show wp l rho (d + 2) 26 64 [(2, x0), (0, x1), (0, x2), (0, x3), (0, x4)] [(0, ((x1 * 4) + x2)), (2, v37)] h35 Q
                    refine w_iload gz_26_64 rfl ?_
                    refine w_iast gz_26_66 tv37 rd_27 (by omega) (by omega) (by omega) (by omega) (fun h38 fh38 => ?_)
                    have gh38 : my_fr [(26, -1), (27, -1)] h h38 := my_fr.up gh35 tv37 fh38 rfl
                    refine w_iconst gz_26_67 (by decide) ?_
                    exact w_bret gz_26_68 gm_26 (by omega) (by omega) (k1 h38 (gh38) (by omega) (by omega) (by omega) (by omega) (by omega) (by omega) (by omega) (by omega))
                  ·
                    refine w_iconst gz_26_36 (by decide) ?_
                    exact w_bret gz_26_37 gm_26 (by omega) (by omega) (k0 h (my_fr.rf))
theorem gz_33_0 : mz_pg 33 0 = some (.bipush 56, 0, 0, 0) := by decide +kernel
theorem gz_33_2 : mz_pg 33 2 = some (.istore_n 3, 0, 0, 0) := by decide +kernel
theorem gz_33_3 : mz_pg 33 3 = some (.iload_n 3, 0, 0, 0) := by decide +kernel
theorem gz_33_4 : mz_pg 33 4 = some (.ifCond .lt 69, 0, 0, 0) := by decide +kernel
theorem gz_33_7 : mz_pg 33 7 = some (.lload_n 1, 0, 0, 0) := by decide +kernel
theorem gz_33_8 : mz_pg 33 8 = some (.iload_n 3, 0, 0, 0) := by decide +kernel
theorem gz_33_9 : mz_pg 33 9 = some (.lshr, 0, 0, 0) := by decide +kernel
theorem gz_33_10 : mz_pg 33 10 = some (.l2i, 0, 0, 0) := by decide +kernel
theorem gz_33_11 : mz_pg 33 11 = some (.sipush 255, 0, 0, 0) := by decide +kernel
theorem gz_33_14 : mz_pg 33 14 = some (.iand, 0, 0, 0) := by decide +kernel
theorem gz_33_15 : mz_pg 33 15 = some (.istore 4, 0, 0, 0) := by decide +kernel
theorem gz_33_17 : mz_pg 33 17 = some (.iload 4, 0, 0, 0) := by decide +kernel
theorem gz_33_19 : mz_pg 33 19 = some (.bipush 10, 0, 0, 0) := by decide +kernel
theorem gz_33_21 : mz_pg 33 21 = some (.if_icmp .eq 17, 0, 0, 0) := by decide +kernel
theorem gz_33_24 : mz_pg 33 24 = some (.iload 4, 0, 0, 0) := by decide +kernel
theorem gz_33_26 : mz_pg 33 26 = some (.bipush 32, 0, 0, 0) := by decide +kernel
theorem gz_33_28 : mz_pg 33 28 = some (.if_icmp .lt 39, 0, 0, 0) := by decide +kernel
theorem gz_33_31 : mz_pg 33 31 = some (.iload 4, 0, 0, 0) := by decide +kernel
theorem gz_33_33 : mz_pg 33 33 = some (.bipush 126, 0, 0, 0) := by decide +kernel
theorem gz_33_35 : mz_pg 33 35 = some (.if_icmp .gt 32, 0, 0, 0) := by decide +kernel
theorem gz_33_38 : mz_pg 33 38 = some (.aload_n 0, 0, 0, 0) := by decide +kernel
theorem gz_33_39 : mz_pg 33 39 = some (.getfield 30, 5, 4, 285) := by decide +kernel
theorem gz_33_42 : mz_pg 33 42 = some (.sipush 1000, 0, 0, 0) := by decide +kernel
theorem gz_33_45 : mz_pg 33 45 = some (.if_icmp .ge 22, 0, 0, 0) := by decide +kernel
theorem gz_33_48 : mz_pg 33 48 = some (.aload_n 0, 0, 0, 0) := by decide +kernel
theorem gz_33_49 : mz_pg 33 49 = some (.getfield 18, 5, 3, 284) := by decide +kernel
theorem gz_33_52 : mz_pg 33 52 = some (.aload_n 0, 0, 0, 0) := by decide +kernel
theorem gz_33_53 : mz_pg 33 53 = some (.dup, 0, 0, 0) := by decide +kernel
theorem gz_33_54 : mz_pg 33 54 = some (.getfield 30, 5, 4, 285) := by decide +kernel
theorem gz_33_57 : mz_pg 33 57 = some (.dup_x1, 0, 0, 0) := by decide +kernel
theorem gz_33_58 : mz_pg 33 58 = some (.iconst 1, 0, 0, 0) := by decide +kernel
theorem gz_33_59 : mz_pg 33 59 = some (.iadd, 0, 0, 0) := by decide +kernel
theorem gz_33_60 : mz_pg 33 60 = some (.putfield 30, 5, 4, 285) := by decide +kernel
theorem gz_33_63 : mz_pg 33 63 = some (.iload 4, 0, 0, 0) := by decide +kernel
theorem gz_33_65 : mz_pg 33 65 = some (.i2b, 0, 0, 0) := by decide +kernel
theorem gz_33_66 : mz_pg 33 66 = some (.bastore, 0, 0, 0) := by decide +kernel
theorem gz_33_67 : mz_pg 33 67 = some (.iinc 3 (-8), 0, 0, 0) := by decide +kernel
theorem gz_33_70 : mz_pg 33 70 = some (.goto (-67), 0, 0, 0) := by decide +kernel
theorem gz_33_73 : mz_pg 33 73 = some (.return_, 0, 0, 0) := by decide +kernel
theorem gm_33 : my_mm 33 5 none 1 5 := by unfold my_mm; decide +kernel
theorem rd_5 : my_rd 5 = .inr (5, [(2, 3, 0), (2, 22, 0), (2, 4, 0), (2, 40, 0), (0, 0, 1000), (0, 0, 1000), (0, 0, 4), (0, 0, 1000), (0, 0, 999), (0, 0, 16005)]) := rfl
theorem rd_40 : my_rd 40 = .inl (3, 1000, [(0, 0, 126)]) := rfl
theorem c42_Reader_take {l : Launch} {rho : Nat → Int32} {d : Nat} {h : my_H} {Q : my_H → my_V → Prop} {x0 x1 : Int} (t0 : my_is 5 x0) (k0 : ∀ (h' : my_H), my_fr [(5, 4), (40, -1)] h h' → Q h' (9, 0)) : wp l rho d 33 0 [(2, x0), (1, x1), (9, 0), (9, 0), (9, 0)] [] h Q := by
  have J3_0 : ∀ (n : Nat) (z3_l1 p3_0 : Int) (h3_0 : my_H), my_fr [(5, 4), (40, -1)] h h3_0 → (-8) ≤ p3_0 → p3_0 ≤ 56 → p3_0 - (-9) ≤ (n : Int) → wp l rho d 33 3 [(2, x0), (1, z3_l1), (9, 0), (0, p3_0), (9, 0)] [] h3_0 Q := by
    intro n
    induction n with
    | zero => intro z3_l1 p3_0 h3_0 gh_3_0 q0_3_0 q1_3_0 hm_3_0; exfalso; omega
    | succ n ih_3_0 =>
      intro z3_l1 p3_0 h3_0 gh_3_0 q0_3_0 q1_3_0 hm_3_0
      have J67_0 : ∀ (z67_l1 p67_0 : Int) (h67_0 : my_H), my_fr [(5, 4), (40, -1)] h h67_0 → 0 ≤ p3_0 → 0 ≤ p67_0 → p67_0 ≤ 255 → wp l rho d 33 67 [(2, x0), (1, z67_l1), (9, 0), (0, p3_0), (0, p67_0)] [] h67_0 Q := by
        intro z67_l1 p67_0 h67_0 gh_67_0 q0_67_0 q1_67_0 q2_67_0
        refine w_iinc (ls' := [(2, x0), (1, z67_l1), (9, 0), (0, (p3_0 + (-8))), (0, p67_0)]) gz_33_67 rfl gm_33 rfl rfl rfl ⟨by omega, by omega⟩ ?_
        refine w_goto (t := 3) gz_33_70 rfl ?_
        refine w_weak (ls' := [(2, x0), (1, z67_l1), (9, 0), (0, (p3_0 + (-8))), (9, 0)]) (wk_e (wk_e (wk_9 (wk_e (wk_9 wk_n))))) ?_
        exact ih_3_0 (z67_l1) ((p3_0 + (-8))) h67_0 (gh_67_0) (by omega) (by omega) (by omega)
      have J38_0 : ∀ (z38_l1 p38_0 : Int) (h38_0 : my_H), my_fr [(5, 4), (40, -1)] h h38_0 → 0 ≤ p3_0 → 10 ≤ p38_0 → p38_0 ≤ 126 → wp l rho d 33 38 [(2, x0), (1, z38_l1), (9, 0), (0, p3_0), (0, p38_0)] [] h38_0 Q := by
        intro z38_l1 p38_0 h38_0 gh_38_0 q0_38_0 q1_38_0 q2_38_0
        refine w_aload_n gz_33_38 rfl ?_
        refine w_getI gz_33_39 t0 rd_5 rfl (fun v1 ev1 pv1 qv1 => ?_)
        refine w_sipush gz_33_42 (by decide) ?_
        refine w_icge (t := 67) gz_33_45 rfl (fun u2 => ?_) (fun u2 => ?_)
        ·
          exact J67_0 (z38_l1) (p38_0) h38_0 (gh_38_0) (by omega) (by omega) (by omega)
        ·
          refine w_aload_n gz_33_48 rfl ?_
          refine w_getR gz_33_49 t0 rd_5 rfl (fun v3 ev3 tv3 => ?_)
          refine w_aload_n gz_33_52 rfl ?_
          refine w_dup gz_33_53 rfl ?_
          refine w_getI gz_33_54 t0 rd_5 rfl (fun v4 ev4 pv4 qv4 => ?_)
          have zv4 := ev4.trans ev1.symm
          refine w_dupx gz_33_57 rfl rfl ?_
          refine w_iconst gz_33_58 (by decide) ?_
          refine w_iadd gz_33_59 ⟨by omega, by omega⟩ ?_
          refine w_putI gz_33_60 t0 rd_5 rfl (by omega) (by omega) rfl (fun h5 fh5 => ?_)
          have gh5 : my_fr [(5, 4), (40, -1)] h h5 := my_fr.up gh_38_0 t0 fh5 rfl
          refine w_iload gz_33_63 rfl ?_
          refine w_i2b gz_33_65 (by omega) (by omega) ?_
          refine w_yast gz_33_66 tv3 rd_40 (by omega) (by omega) (by omega) (by omega) (by omega) (by omega) (fun h6 fh6 => ?_)
          have gh6 : my_fr [(5, 4), (40, -1)] h h6 := my_fr.up gh5 tv3 fh6 rfl
          exact J67_0 (z38_l1) (p38_0) h6 (gh6) (by omega) (by omega) (by omega)
      refine w_iload_n gz_33_3 rfl ?_
      refine w_iflt (t := 73) gz_33_4 rfl (fun u7 => ?_) (fun u7 => ?_)
      ·
        exact w_vret gz_33_73 gm_33 (k0 h3_0 (gh_3_0))
      ·
        refine w_lload_n gz_33_7 rfl ?_
        refine w_iload_n gz_33_8 rfl ?_
        refine w_jshf gz_33_9 (fun _ => rfl) rfl (fun v8 pv8 => ?_)
        refine w_l2i gz_33_10 (fun v9 pv9 qv9 => ?_)
        refine w_sipush gz_33_11 (by decide) ?_
        refine w_iandM gz_33_14 (by decide) (fun v10 pv10 qv10 => ?_)
        refine w_istore (ls' := [(2, x0), (1, z3_l1), (9, 0), (0, p3_0), (0, v10)]) gz_33_15 gm_33 rfl rfl rfl ?_
        refine w_iload gz_33_17 rfl ?_
        refine w_bipush gz_33_19 (by decide) ?_
        refine w_iceq (t := 38) gz_33_21 rfl (fun u11 => ?_) (fun u11 => ?_)
        ·
          exact J38_0 (z3_l1) (v10) h3_0 (gh_3_0) (by omega) (by omega) (by omega)
        ·
          refine w_iload gz_33_24 rfl ?_
          refine w_bipush gz_33_26 (by decide) ?_
          refine w_iclt (t := 67) gz_33_28 rfl (fun u12 => ?_) (fun u12 => ?_)
          ·
            exact J67_0 (z3_l1) (v10) h3_0 (gh_3_0) (by omega) (by omega) (by omega)
          ·
            refine w_iload gz_33_31 rfl ?_
            refine w_bipush gz_33_33 (by decide) ?_
            refine w_icgt (t := 67) gz_33_35 rfl (fun u13 => ?_) (fun u13 => ?_)
            ·
              exact J67_0 (z3_l1) (v10) h3_0 (gh_3_0) (by omega) (by omega) (by omega)
            ·
              exact J38_0 (z3_l1) (v10) h3_0 (gh_3_0) (by omega) (by omega) (by omega)
  refine w_bipush gz_33_0 (by decide) ?_
  refine w_istore_n (ls' := [(2, x0), (1, x1), (9, 0), (0, 56), (9, 0)]) gz_33_2 gm_33 rfl rfl rfl ?_
  exact J3_0 65 (x1) (56) h (my_fr.rf) (by omega) (by omega) (by omega)
theorem gz_35_0 : mz_pg 35 0 = some (.iconst 0, 0, 0, 0) := by decide +kernel
theorem gz_35_1 : mz_pg 35 1 = some (.istore_n 2, 0, 0, 0) := by decide +kernel
theorem gz_35_2 : mz_pg 35 2 = some (.iload_n 2, 0, 0, 0) := by decide +kernel
theorem gz_35_3 : mz_pg 35 3 = some (.bipush 6, 0, 0, 0) := by decide +kernel
theorem gz_35_5 : mz_pg 35 5 = some (.if_icmp .ge 36, 0, 0, 0) := by decide +kernel
theorem gz_35_8 : mz_pg 35 8 = some (.aload_n 0, 0, 0, 0) := by decide +kernel
theorem gz_35_9 : mz_pg 35 9 = some (.getfield 36, 9, 6, 534) := by decide +kernel
theorem gz_35_12 : mz_pg 35 12 = some (.iload_n 2, 0, 0, 0) := by decide +kernel
theorem gz_35_13 : mz_pg 35 13 = some (.aaload, 0, 0, 0) := by decide +kernel
theorem gz_35_14 : mz_pg 35 14 = some (.getfield 337, 4, 0, 197) := by decide +kernel
theorem gz_35_17 : mz_pg 35 17 = some (.ifCond .eq 18, 0, 0, 0) := by decide +kernel
theorem gz_35_20 : mz_pg 35 20 = some (.aload_n 0, 0, 0, 0) := by decide +kernel
theorem gz_35_21 : mz_pg 35 21 = some (.getfield 36, 9, 6, 534) := by decide +kernel
theorem gz_35_24 : mz_pg 35 24 = some (.iload_n 2, 0, 0, 0) := by decide +kernel
theorem gz_35_25 : mz_pg 35 25 = some (.aaload, 0, 0, 0) := by decide +kernel
theorem gz_35_26 : mz_pg 35 26 = some (.getfield 339, 4, 1, 200) := by decide +kernel
theorem gz_35_29 : mz_pg 35 29 = some (.iload_n 1, 0, 0, 0) := by decide +kernel
theorem gz_35_30 : mz_pg 35 30 = some (.if_icmp .ne 5, 0, 0, 0) := by decide +kernel
theorem gz_35_33 : mz_pg 35 33 = some (.iconst 1, 0, 0, 0) := by decide +kernel
theorem gz_35_34 : mz_pg 35 34 = some (.ireturn, 0, 0, 0) := by decide +kernel
theorem gz_35_35 : mz_pg 35 35 = some (.iinc 2 1, 0, 0, 0) := by decide +kernel
theorem gz_35_38 : mz_pg 35 38 = some (.goto (-36), 0, 0, 0) := by decide +kernel
theorem gz_35_41 : mz_pg 35 41 = some (.iconst 0, 0, 0, 0) := by decide +kernel
theorem gz_35_42 : mz_pg 35 42 = some (.ireturn, 0, 0, 0) := by decide +kernel
theorem gm_35 : my_mm 35 3 (some .boolean) 1 9 := by unfold my_mm; decide +kernel
theorem c43_ThroughWindow_isUnderAnother {l : Launch} {rho : Nat → Int32} {d : Nat} {h : my_H} {Q : my_H → my_V → Prop} {x0 x1 : Int} (t0 : my_is 9 x0) (a1 : 0 ≤ x1) (b1 : x1 ≤ 5) (k0 : Q h (0, 0)) (k1 : Q h (0, 1)) : wp l rho d 35 0 [(2, x0), (0, x1), (9, 0)] [] h Q := by
  have J2_0 : ∀ (n : Nat) (p2_0 : Int), 0 ≤ p2_0 → p2_0 ≤ 6 → 7 - p2_0 ≤ (n : Int) → wp l rho d 35 2 [(2, x0), (0, x1), (0, p2_0)] [] h Q := by
    intro n
    induction n with
    | zero => intro p2_0 q0_2_0 q1_2_0 hm_2_0; exfalso; omega
    | succ n ih_2_0 =>
      intro p2_0 q0_2_0 q1_2_0 hm_2_0
      have J35_0 : p2_0 ≤ 5 → wp l rho d 35 35 [(2, x0), (0, x1), (0, p2_0)] [] h Q := by
        intro q0_35_0
        refine w_iinc (ls' := [(2, x0), (0, x1), (0, (p2_0 + 1))]) gz_35_35 rfl gm_35 rfl rfl rfl ⟨by omega, by omega⟩ ?_
        refine w_goto (t := 2) gz_35_38 rfl ?_
        exact ih_2_0 ((p2_0 + 1)) (by omega) (by omega) (by omega)
      refine w_iload_n gz_35_2 rfl ?_
      refine w_bipush gz_35_3 (by decide) ?_
      refine w_icge (t := 41) gz_35_5 rfl (fun u1 => ?_) (fun u1 => ?_)
      ·
        refine w_iconst gz_35_41 (by decide) ?_
        exact w_bret gz_35_42 gm_35 (by omega) (by omega) (k0 )
      ·
        refine w_aload_n gz_35_8 rfl ?_
        refine w_getR gz_35_9 t0 rd_9 rfl (fun v2 ev2 tv2 => ?_)
        refine w_iload_n gz_35_12 rfl ?_
        refine w_aald gz_35_13 tv2 rd_22 rfl (by omega) (by omega) (fun v3 ev3 tv3 => ?_)
        refine w_getI gz_35_14 tv3 rd_4 rfl (fun v4 ev4 pv4 qv4 => ?_)
        refine w_ifeq (t := 35) gz_35_17 rfl (fun u5 => ?_) (fun u5 => ?_)
        ·
          exact J35_0 (by omega)
        ·
          refine w_aload_n gz_35_20 rfl ?_
          refine w_getR gz_35_21 t0 rd_9 rfl (fun v6 ev6 tv6 => ?_)
          have zv6 : v2 = v6 := (ev6.trans ev2.symm).symm
          subst zv6
          refine w_iload_n gz_35_24 rfl ?_
          refine w_aald gz_35_25 tv2 rd_22 rfl (by omega) (by omega) (fun v7 ev7 tv7 => ?_)
          have zv7 : v3 = v7 := (ev7.trans ev3.symm).symm
          subst zv7
          refine w_getI gz_35_26 tv3 rd_4 rfl (fun v8 ev8 pv8 qv8 => ?_)
          refine w_iload_n gz_35_29 rfl ?_
          refine w_icne (t := 35) gz_35_30 rfl (fun u9 => ?_) (fun u9 => ?_)
          ·
            exact J35_0 (by omega)
          ·
            refine w_iconst gz_35_33 (by decide) ?_
            exact w_bret gz_35_34 gm_35 (by omega) (by omega) (k1 )
  refine w_iconst gz_35_0 (by decide) ?_
  refine w_istore_n (ls' := [(2, x0), (0, x1), (0, 0)]) gz_35_1 gm_35 rfl rfl rfl ?_
  exact J2_0 7 (0) (by omega) (by omega) (by omega)
theorem gz_42_0 : mz_pg 42 0 = some (.aload_n 0, 0, 0, 0) := by decide +kernel
theorem gz_42_1 : mz_pg 42 1 = some (.getfield 37, 5, 9, 291) := by decide +kernel
theorem gz_42_4 : mz_pg 42 4 = some (.ifCond .ne 16, 0, 0, 0) := by decide +kernel
theorem gz_42_7 : mz_pg 42 7 = some (.aload_n 0, 0, 0, 0) := by decide +kernel
theorem gz_42_8 : mz_pg 42 8 = some (.iload_n 1, 0, 0, 0) := by decide +kernel
theorem gz_42_9 : mz_pg 42 9 = some (.bipush 16, 0, 0, 0) := by decide +kernel
theorem gz_42_11 : mz_pg 42 11 = some (.aload_n 0, 0, 0, 0) := by decide +kernel
theorem gz_42_12 : mz_pg 42 12 = some (.getfield 174, 5, 7, 289) := by decide +kernel
theorem gz_42_15 : mz_pg 42 15 = some (.imul, 0, 0, 0) := by decide +kernel
theorem gz_42_16 : mz_pg 42 16 = some (.iadd, 0, 0, 0) := by decide +kernel
theorem gz_42_17 : mz_pg 42 17 = some (.putfield 37, 5, 9, 291) := by decide +kernel
theorem gz_42_20 : mz_pg 42 20 = some (.return_, 0, 0, 0) := by decide +kernel
theorem gz_43_0 : mz_pg 43 0 = some (.aload_n 0, 0, 0, 0) := by decide +kernel
theorem gz_43_1 : mz_pg 43 1 = some (.iconst 3, 0, 0, 0) := by decide +kernel
theorem gz_43_2 : mz_pg 43 2 = some (.invokevirtual 87, 1, 44, 737) := by decide +kernel
theorem gz_43_5 : mz_pg 43 5 = some (.istore_n 1, 0, 0, 0) := by decide +kernel
theorem gz_43_6 : mz_pg 43 6 = some (.iload_n 1, 0, 0, 0) := by decide +kernel
theorem gz_43_7 : mz_pg 43 7 = some (.iconst (-1), 0, 0, 0) := by decide +kernel
theorem gz_43_8 : mz_pg 43 8 = some (.if_icmp .eq 21, 0, 0, 0) := by decide +kernel
theorem gz_43_11 : mz_pg 43 11 = some (.aload_n 0, 0, 0, 0) := by decide +kernel
theorem gz_43_12 : mz_pg 43 12 = some (.getfield 22, 5, 0, 281) := by decide +kernel
theorem gz_43_15 : mz_pg 43 15 = some (.iload_n 1, 0, 0, 0) := by decide +kernel
theorem gz_43_16 : mz_pg 43 16 = some (.invokevirtual 168, 1, 13, 740) := by decide +kernel
theorem gz_43_19 : mz_pg 43 19 = some (.ifCond .ne 10, 0, 0, 0) := by decide +kernel
theorem gz_43_22 : mz_pg 43 22 = some (.aload_n 0, 0, 0, 0) := by decide +kernel
theorem gz_43_23 : mz_pg 43 23 = some (.iconst 2, 0, 0, 0) := by decide +kernel
theorem gz_43_24 : mz_pg 43 24 = some (.invokevirtual 91, 1, 42, 731) := by decide +kernel
theorem gz_43_27 : mz_pg 43 27 = some (.iconst (-1), 0, 0, 0) := by decide +kernel
theorem gz_43_28 : mz_pg 43 28 = some (.ireturn, 0, 0, 0) := by decide +kernel
theorem gz_43_29 : mz_pg 43 29 = some (.iload_n 1, 0, 0, 0) := by decide +kernel
theorem gz_43_30 : mz_pg 43 30 = some (.ireturn, 0, 0, 0) := by decide +kernel
theorem gz_44_0 : mz_pg 44 0 = some (.aload_n 0, 0, 0, 0) := by decide +kernel
theorem gz_44_1 : mz_pg 44 1 = some (.getfield 47, 5, 6, 288) := by decide +kernel
theorem gz_44_4 : mz_pg 44 4 = some (.iconst 2, 0, 0, 0) := by decide +kernel
theorem gz_44_5 : mz_pg 44 5 = some (.if_icmp .eq 10, 0, 0, 0) := by decide +kernel
theorem gz_44_8 : mz_pg 44 8 = some (.aload_n 0, 0, 0, 0) := by decide +kernel
theorem gz_44_9 : mz_pg 44 9 = some (.iconst 1, 0, 0, 0) := by decide +kernel
theorem gz_44_10 : mz_pg 44 10 = some (.invokevirtual 91, 1, 42, 731) := by decide +kernel
theorem gz_44_13 : mz_pg 44 13 = some (.iconst (-1), 0, 0, 0) := by decide +kernel
theorem gz_44_14 : mz_pg 44 14 = some (.ireturn, 0, 0, 0) := by decide +kernel
theorem gz_44_15 : mz_pg 44 15 = some (.aload_n 0, 0, 0, 0) := by decide +kernel
theorem gz_44_16 : mz_pg 44 16 = some (.getfield 171, 5, 8, 290) := by decide +kernel
theorem gz_44_19 : mz_pg 44 19 = some (.iload_n 1, 0, 0, 0) := by decide +kernel
theorem gz_44_20 : mz_pg 44 20 = some (.if_icmp .lt 10, 0, 0, 0) := by decide +kernel
theorem gz_44_23 : mz_pg 44 23 = some (.aload_n 0, 0, 0, 0) := by decide +kernel
theorem gz_44_24 : mz_pg 44 24 = some (.iconst 4, 0, 0, 0) := by decide +kernel
theorem gz_44_25 : mz_pg 44 25 = some (.invokevirtual 91, 1, 42, 731) := by decide +kernel
theorem gz_44_28 : mz_pg 44 28 = some (.iconst (-1), 0, 0, 0) := by decide +kernel
theorem gz_44_29 : mz_pg 44 29 = some (.ireturn, 0, 0, 0) := by decide +kernel
theorem gz_44_30 : mz_pg 44 30 = some (.aload_n 0, 0, 0, 0) := by decide +kernel
theorem gz_44_31 : mz_pg 44 31 = some (.getfield 37, 5, 9, 291) := by decide +kernel
theorem gz_44_34 : mz_pg 44 34 = some (.ifCond .ne 10, 0, 0, 0) := by decide +kernel
theorem gz_44_37 : mz_pg 44 37 = some (.aload_n 0, 0, 0, 0) := by decide +kernel
theorem gz_44_38 : mz_pg 44 38 = some (.getfield 171, 5, 8, 290) := by decide +kernel
theorem gz_44_41 : mz_pg 44 41 = some (.goto 4, 0, 0, 0) := by decide +kernel
theorem gz_44_45 : mz_pg 44 45 = some (.ireturn, 0, 0, 0) := by decide +kernel
theorem gm_42 : my_mm 42 2 none 1 5 := by unfold my_mm; decide +kernel
theorem gm_43 : my_mm 43 2 (some .int) 0 5 := by unfold my_mm; decide +kernel
theorem gm_44 : my_mm 44 2 (some .int) 1 5 := by unfold my_mm; decide +kernel
theorem c44_Reader_wallNumber {l : Launch} {rho : Nat → Int32} {d : Nat} {h : my_H} {Q : my_H → my_V → Prop} {x0 : Int} (t0 : my_is 5 x0) (cf : h x0 ((9 : Nat) : Int) = 0) (k0 : ∀ (h' : my_H), my_fr [(5, 9)] h h' → 1 ≤ h' x0 ((9 : Nat) : Int) → h' x0 ((9 : Nat) : Int) ≤ 16004 → Q h' (0, (-1))) (k1 : ∀ (h' : my_H) (y : Int), my_fr [(5, 9)] h h' → 0 ≤ y → y ≤ 2 → h' x0 ((6 : Nat) : Int) = 2 → 0 ≤ h' x0 ((8 : Nat) : Int) → h' x0 ((8 : Nat) : Int) ≤ 2 → h' x0 ((9 : Nat) : Int) = 0 → Q h' (0, y)) : wp l rho (d + 2) 43 0 [(2, x0), (9, 0)] [] h Q := by
  refine w_aload_n gz_43_0 rfl ?_
  refine w_iconst gz_43_1 (by decide) ?_
  refine w_inv (k := 0) (as := [(0, 3)]) (r := []) (x := x0) (ls0 := [(2, x0), (0, 3)]) gz_43_2 gm_44 rfl t0 rd_5 rfl rfl rfl rfl rfl ?_
  refine w_aload_n gz_44_0 rfl ?_
  refine w_getI gz_44_1 t0 rd_5 rfl (fun v1 ev1 pv1 qv1 => ?_)
  refine w_iconst gz_44_4 (by decide) ?_
  refine w_iceq (t := 15) gz_44_5 rfl (fun u2 => ?_) (fun u2 => ?_)
  ·
    refine w_aload_n gz_44_15 rfl ?_
    refine w_getI gz_44_16 t0 rd_5 rfl (fun v3 ev3 pv3 qv3 => ?_)
    refine w_iload_n gz_44_19 rfl ?_
    refine w_iclt (t := 30) gz_44_20 rfl (fun u4 => ?_) (fun u4 => ?_)
    ·
      refine w_aload_n gz_44_30 rfl ?_
      refine w_getI gz_44_31 t0 rd_5 rfl (fun v5 ev5 pv5 qv5 => ?_)
      have zv5 := ev5.trans cf
      refine w_ifne (t := 44) gz_44_34 rfl (fun u6 => by exfalso; omega) (fun u6 => ?_)
      refine w_aload_n gz_44_37 rfl ?_
      refine w_getI gz_44_38 t0 rd_5 rfl (fun v7 ev7 pv7 qv7 => ?_)
      have zv7 := ev7.trans ev3.symm
      refine w_goto (t := 45) gz_44_41 rfl ?_
      refine w_iret gz_44_45 gm_44 ?_
      show wp l rho (d + 2) 43 5 [(2, x0), (9, 0)] [(0, v7)] h Q
      refine w_istore_n (ls' := [(2, x0), (0, v7)]) gz_43_5 gm_43 rfl rfl rfl ?_
      refine w_iload_n gz_43_6 rfl ?_
      refine w_iconst gz_43_7 (by decide) ?_
      refine w_iceq (t := 29) gz_43_8 rfl (fun u8 => by exfalso; omega) (fun u8 => ?_)
      refine w_aload_n gz_43_11 rfl ?_
      refine w_getR gz_43_12 t0 rd_5 rfl (fun v9 ev9 tv9 => ?_)
      refine w_iload_n gz_43_15 rfl ?_
      refine w_inv (k := 0) (as := [(0, v7)]) (r := []) (x := v9) (ls0 := [(2, v9), (0, v7)]) gz_43_16 gm_13 rfl tv9 rd_3 rfl rfl rfl rfl rfl ?_
      refine w_iload_n gz_13_0 rfl ?_
      refine w_iflt (t := 22) gz_13_1 rfl (fun u10 => by exfalso; omega) (fun u10 => ?_)
      refine w_iload_n gz_13_4 rfl ?_
      refine w_iconst gz_13_5 (by decide) ?_
      refine w_icge (t := 22) gz_13_6 rfl (fun u11 => by exfalso; omega) (fun u11 => ?_)
      refine w_aload_n gz_13_9 rfl ?_
      refine w_getR gz_13_10 tv9 rd_3 rfl (fun v12 ev12 tv12 => ?_)
      refine w_iload_n gz_13_13 rfl ?_
      refine w_iald gz_13_14 tv12 rd_25 (by omega) (by omega) (fun v13 ev13 pv13 qv13 => ?_)
      refine w_ifle (t := 22) gz_13_15 rfl (fun u14 => ?_) (fun u14 => ?_)
      ·
        refine w_iconst gz_13_22 (by decide) ?_
        refine w_bret gz_13_23 gm_13 (by omega) (by omega) ?_
        show wp l rho (d + 2) 43 19 [(2, x0), (0, v7)] [(0, 0)] h Q
        refine w_ifne (t := 29) gz_43_19 rfl (fun u15 => by exfalso; omega) (fun u15 => ?_)
        refine w_aload_n gz_43_22 rfl ?_
        refine w_iconst gz_43_23 (by decide) ?_
        refine w_inv (k := 0) (as := [(0, 2)]) (r := []) (x := x0) (ls0 := [(2, x0), (0, 2)]) gz_43_24 gm_42 rfl t0 rd_5 rfl rfl rfl rfl rfl ?_
        refine w_aload_n gz_42_0 rfl ?_
        refine w_getI gz_42_1 t0 rd_5 rfl (fun v16 ev16 pv16 qv16 => ?_)
        have zv16 := ev16.trans ev5.symm
        refine w_ifne (t := 20) gz_42_4 rfl (fun u17 => by exfalso; omega) (fun u17 => ?_)
        refine w_aload_n gz_42_7 rfl ?_
        refine w_iload_n gz_42_8 rfl ?_
        refine w_bipush gz_42_9 (by decide) ?_
        refine w_aload_n gz_42_11 rfl ?_
        refine w_getI gz_42_12 t0 rd_5 rfl (fun v18 ev18 pv18 qv18 => ?_)
        refine w_imul gz_42_15 ⟨by omega, by omega⟩ ?_
        refine w_iadd gz_42_16 ⟨by omega, by omega⟩ ?_
        refine w_putI gz_42_17 t0 rd_5 rfl (by omega) (by omega) rfl (fun h19 fh19 => ?_)
        have gh19 : my_fr [(5, 9)] h h19 := my_fr.up my_fr.rf t0 fh19 rfl
        refine w_vret gz_42_20 gm_42 ?_
        show wp l rho (d + 2) 43 27 [(2, x0), (0, v7)] [] h19 Q
        refine w_iconst gz_43_27 (by decide) ?_
        have c20 := (my_up_self fh19)
        exact w_iret gz_43_28 gm_43 (k0 h19 (gh19) (by omega) (by omega))
      ·
        refine w_iconst gz_13_18 (by decide) ?_
        refine w_goto (t := 23) gz_13_19 rfl ?_
        refine w_bret gz_13_23 gm_13 (by omega) (by omega) ?_
        show wp l rho (d + 2) 43 19 [(2, x0), (0, v7)] [(0, 1)] h Q
        refine w_ifne (t := 29) gz_43_19 rfl (fun u21 => ?_) (fun u21 => by exfalso; omega)
        refine w_iload_n gz_43_29 rfl ?_
        have c22 := ev1.symm
        have c23 := ev7.symm
        have c24 := ev5.symm
        exact w_iret gz_43_30 gm_43 (k1 h (v7) (my_fr.rf) (by omega) (by omega) (by omega) (by omega) (by omega) (by omega))
    ·
      refine w_aload_n gz_44_23 rfl ?_
      refine w_iconst gz_44_24 (by decide) ?_
      refine w_inv (k := 0) (as := [(0, 4)]) (r := []) (x := x0) (ls0 := [(2, x0), (0, 4)]) gz_44_25 gm_42 rfl t0 rd_5 rfl rfl rfl rfl rfl ?_
      refine w_aload_n gz_42_0 rfl ?_
      refine w_getI gz_42_1 t0 rd_5 rfl (fun v25 ev25 pv25 qv25 => ?_)
      have zv25 := ev25.trans cf
      refine w_ifne (t := 20) gz_42_4 rfl (fun u26 => by exfalso; omega) (fun u26 => ?_)
      refine w_aload_n gz_42_7 rfl ?_
      refine w_iload_n gz_42_8 rfl ?_
      refine w_bipush gz_42_9 (by decide) ?_
      refine w_aload_n gz_42_11 rfl ?_
      refine w_getI gz_42_12 t0 rd_5 rfl (fun v27 ev27 pv27 qv27 => ?_)
      refine w_imul gz_42_15 ⟨by omega, by omega⟩ ?_
      refine w_iadd gz_42_16 ⟨by omega, by omega⟩ ?_
      refine w_putI gz_42_17 t0 rd_5 rfl (by omega) (by omega) rfl (fun h28 fh28 => ?_)
      have gh28 : my_fr [(5, 9)] h h28 := my_fr.up my_fr.rf t0 fh28 rfl
      refine w_vret gz_42_20 gm_42 ?_
      show wp l rho (d + 1) 44 28 [(2, x0), (0, 3)] [] h28 _
      refine w_iconst gz_44_28 (by decide) ?_
      refine w_iret gz_44_29 gm_44 ?_
      show wp l rho (d + 2) 43 5 [(2, x0), (9, 0)] [(0, (-1))] h28 Q
      refine w_istore_n (ls' := [(2, x0), (0, (-1))]) gz_43_5 gm_43 rfl rfl rfl ?_
      refine w_iload_n gz_43_6 rfl ?_
      refine w_iconst gz_43_7 (by decide) ?_
      refine w_iceq (t := 29) gz_43_8 rfl (fun u29 => ?_) (fun u29 => by exfalso; omega)
      refine w_iload_n gz_43_29 rfl ?_
      have c30 := (my_up_self fh28)
      exact w_iret gz_43_30 gm_43 (k0 h28 (gh28) (by omega) (by omega))
  ·
    refine w_aload_n gz_44_8 rfl ?_
    refine w_iconst gz_44_9 (by decide) ?_
    refine w_inv (k := 0) (as := [(0, 1)]) (r := []) (x := x0) (ls0 := [(2, x0), (0, 1)]) gz_44_10 gm_42 rfl t0 rd_5 rfl rfl rfl rfl rfl ?_
    refine w_aload_n gz_42_0 rfl ?_
    refine w_getI gz_42_1 t0 rd_5 rfl (fun v31 ev31 pv31 qv31 => ?_)
    have zv31 := ev31.trans cf
    refine w_ifne (t := 20) gz_42_4 rfl (fun u32 => by exfalso; omega) (fun u32 => ?_)
    refine w_aload_n gz_42_7 rfl ?_
    refine w_iload_n gz_42_8 rfl ?_
    refine w_bipush gz_42_9 (by decide) ?_
    refine w_aload_n gz_42_11 rfl ?_
    refine w_getI gz_42_12 t0 rd_5 rfl (fun v33 ev33 pv33 qv33 => ?_)
    refine w_imul gz_42_15 ⟨by omega, by omega⟩ ?_
    refine w_iadd gz_42_16 ⟨by omega, by omega⟩ ?_
    refine w_putI gz_42_17 t0 rd_5 rfl (by omega) (by omega) rfl (fun h34 fh34 => ?_)
    have gh34 : my_fr [(5, 9)] h h34 := my_fr.up my_fr.rf t0 fh34 rfl
    refine w_vret gz_42_20 gm_42 ?_
    show wp l rho (d + 1) 44 13 [(2, x0), (0, 3)] [] h34 _
    refine w_iconst gz_44_13 (by decide) ?_
    refine w_iret gz_44_14 gm_44 ?_
    show wp l rho (d + 2) 43 5 [(2, x0), (9, 0)] [(0, (-1))] h34 Q
    refine w_istore_n (ls' := [(2, x0), (0, (-1))]) gz_43_5 gm_43 rfl rfl rfl ?_
    refine w_iload_n gz_43_6 rfl ?_
    refine w_iconst gz_43_7 (by decide) ?_
    refine w_iceq (t := 29) gz_43_8 rfl (fun u35 => ?_) (fun u35 => by exfalso; omega)
    refine w_iload_n gz_43_29 rfl ?_
    have c36 := (my_up_self fh34)
    exact w_iret gz_43_30 gm_43 (k0 h34 (gh34) (by omega) (by omega))
theorem gz_45_0 : mz_pg 45 0 = some (.aload_n 0, 0, 0, 0) := by decide +kernel
theorem gz_45_1 : mz_pg 45 1 = some (.iconst (-1), 0, 0, 0) := by decide +kernel
theorem gz_45_2 : mz_pg 45 2 = some (.putfield 36, 4, 1, 198) := by decide +kernel
theorem gz_45_5 : mz_pg 45 5 = some (.aload_n 0, 0, 0, 0) := by decide +kernel
theorem gz_45_6 : mz_pg 45 6 = some (.iload_n 1, 0, 0, 0) := by decide +kernel
theorem gz_45_7 : mz_pg 45 7 = some (.putfield 40, 4, 2, 201) := by decide +kernel
theorem gz_45_10 : mz_pg 45 10 = some (.aload_n 0, 0, 0, 0) := by decide +kernel
theorem gz_45_11 : mz_pg 45 11 = some (.iload_n 2, 0, 0, 0) := by decide +kernel
theorem gz_45_12 : mz_pg 45 12 = some (.putfield 43, 4, 3, 205) := by decide +kernel
theorem gz_45_15 : mz_pg 45 15 = some (.aload_n 0, 0, 0, 0) := by decide +kernel
theorem gz_45_16 : mz_pg 45 16 = some (.iload_n 2, 0, 0, 0) := by decide +kernel
theorem gz_45_17 : mz_pg 45 17 = some (.putfield 46, 4, 4, 208) := by decide +kernel
theorem gz_45_20 : mz_pg 45 20 = some (.aload_n 0, 0, 0, 0) := by decide +kernel
theorem gz_45_21 : mz_pg 45 21 = some (.iconst 0, 0, 0, 0) := by decide +kernel
theorem gz_45_22 : mz_pg 45 22 = some (.putfield 49, 4, 5, 211) := by decide +kernel
theorem gz_45_25 : mz_pg 45 25 = some (.aload_n 0, 0, 0, 0) := by decide +kernel
theorem gz_45_26 : mz_pg 45 26 = some (.iconst 1, 0, 0, 0) := by decide +kernel
theorem gz_45_27 : mz_pg 45 27 = some (.iload_n 1, 0, 0, 0) := by decide +kernel
theorem gz_45_28 : mz_pg 45 28 = some (.ishl, 0, 0, 0) := by decide +kernel
theorem gz_45_29 : mz_pg 45 29 = some (.putfield 52, 4, 6, 213) := by decide +kernel
theorem gz_45_32 : mz_pg 45 32 = some (.aload_n 0, 0, 0, 0) := by decide +kernel
theorem gz_45_33 : mz_pg 45 33 = some (.iconst 0, 0, 0, 0) := by decide +kernel
theorem gz_45_34 : mz_pg 45 34 = some (.putfield 55, 4, 7, 216) := by decide +kernel
theorem gz_45_37 : mz_pg 45 37 = some (.aload_n 0, 0, 0, 0) := by decide +kernel
theorem gz_45_38 : mz_pg 45 38 = some (.iconst 0, 0, 0, 0) := by decide +kernel
theorem gz_45_39 : mz_pg 45 39 = some (.putfield 59, 4, 8, 218) := by decide +kernel
theorem gz_45_42 : mz_pg 45 42 = some (.aload_n 0, 0, 0, 0) := by decide +kernel
theorem gz_45_43 : mz_pg 45 43 = some (.iconst 0, 0, 0, 0) := by decide +kernel
theorem gz_45_44 : mz_pg 45 44 = some (.putfield 62, 4, 9, 219) := by decide +kernel
theorem gz_45_47 : mz_pg 45 47 = some (.iconst 0, 0, 0, 0) := by decide +kernel
theorem gz_45_48 : mz_pg 45 48 = some (.istore_n 3, 0, 0, 0) := by decide +kernel
theorem gz_45_49 : mz_pg 45 49 = some (.iload_n 3, 0, 0, 0) := by decide +kernel
theorem gz_45_50 : mz_pg 45 50 = some (.iconst 4, 0, 0, 0) := by decide +kernel
theorem gz_45_51 : mz_pg 45 51 = some (.if_icmp .ge 27, 0, 0, 0) := by decide +kernel
theorem gz_45_54 : mz_pg 45 54 = some (.aload_n 0, 0, 0, 0) := by decide +kernel
theorem gz_45_55 : mz_pg 45 55 = some (.getfield 30, 4, 16, 233) := by decide +kernel
theorem gz_45_58 : mz_pg 45 58 = some (.iload_n 3, 0, 0, 0) := by decide +kernel
theorem gz_45_59 : mz_pg 45 59 = some (.iconst 0, 0, 0, 0) := by decide +kernel
theorem gz_45_60 : mz_pg 45 60 = some (.iastore, 0, 0, 0) := by decide +kernel
theorem gz_45_61 : mz_pg 45 61 = some (.aload_n 0, 0, 0, 0) := by decide +kernel
theorem gz_45_62 : mz_pg 45 62 = some (.getfield 27, 4, 15, 232) := by decide +kernel
theorem gz_45_65 : mz_pg 45 65 = some (.iload_n 3, 0, 0, 0) := by decide +kernel
theorem gz_45_66 : mz_pg 45 66 = some (.iload_n 1, 0, 0, 0) := by decide +kernel
theorem gz_45_67 : mz_pg 45 67 = some (.iload_n 3, 0, 0, 0) := by decide +kernel
theorem gz_45_68 : mz_pg 45 68 = some (.invokestatic 65, 2, 29, 6) := by decide +kernel
theorem gz_45_71 : mz_pg 45 71 = some (.iastore, 0, 0, 0) := by decide +kernel
theorem gz_45_72 : mz_pg 45 72 = some (.iinc 3 1, 0, 0, 0) := by decide +kernel
theorem gz_45_75 : mz_pg 45 75 = some (.goto (-26), 0, 0, 0) := by decide +kernel
theorem gz_45_78 : mz_pg 45 78 = some (.return_, 0, 0, 0) := by decide +kernel
theorem gm_45 : my_mm 45 4 none 2 4 := by unfold my_mm; decide +kernel
theorem rd_38 : my_rd 38 = .inl (0, 4, [(0, 0, 19)]) := rfl
theorem c45_Lens_startOnWall {l : Launch} {rho : Nat → Int32} {d : Nat} {h : my_H} {Q : my_H → my_V → Prop} {x0 x1 x2 : Int} (t0 : my_is 4 x0) (a1 : 0 ≤ x1) (b1 : x1 ≤ 2) (a2 : 0 ≤ x2) (b2 : x2 ≤ 4) (k0 : ∀ (h' : my_H), my_fr [(4, 1), (4, 2), (4, 3), (4, 4), (4, 5), (4, 6), (4, 7), (4, 8), (4, 9), (37, -1), (38, -1)] h h' → h' x0 ((1 : Nat) : Int) = (-1) → 0 ≤ h' x0 ((4 : Nat) : Int) → h' x0 ((4 : Nat) : Int) ≤ 4 → h' x0 ((5 : Nat) : Int) = 0 → h' x0 ((7 : Nat) : Int) = 0 → h' x0 ((8 : Nat) : Int) = 0 → h' x0 ((9 : Nat) : Int) = 0 → Q h' (9, 0)) : wp l rho (d + 1) 45 0 [(2, x0), (0, x1), (0, x2), (9, 0)] [] h Q := by
  have J49_0 : ∀ (n : Nat) (p49_0 p49_1 : Int) (h49_0 : my_H), my_fr [(4, 1), (4, 2), (4, 3), (4, 4), (4, 5), (4, 6), (4, 7), (4, 8), (4, 9), (37, -1), (38, -1)] h h49_0 → 0 ≤ p49_0 → p49_0 ≤ 4 → h49_0 x0 ((1 : Nat) : Int) = (-1) → h49_0 x0 ((2 : Nat) : Int) = x1 → h49_0 x0 ((3 : Nat) : Int) = x2 → h49_0 x0 ((4 : Nat) : Int) = x2 → h49_0 x0 ((5 : Nat) : Int) = 0 → h49_0 x0 ((6 : Nat) : Int) = p49_1 → h49_0 x0 ((7 : Nat) : Int) = 0 → h49_0 x0 ((8 : Nat) : Int) = 0 → h49_0 x0 ((9 : Nat) : Int) = 0 → 5 - p49_0 ≤ (n : Int) → wp l rho (d + 1) 45 49 [(2, x0), (0, x1), (0, x2), (0, p49_0)] [] h49_0 Q := by
    intro n
    induction n with
    | zero => intro p49_0 p49_1 h49_0 gh_49_0 q0_49_0 q1_49_0 c1_49_0 c2_49_0 c3_49_0 c4_49_0 c5_49_0 c6_49_0 c7_49_0 c8_49_0 c9_49_0 hm_49_0; exfalso; omega
    | succ n ih_49_0 =>
      intro p49_0 p49_1 h49_0 gh_49_0 q0_49_0 q1_49_0 c1_49_0 c2_49_0 c3_49_0 c4_49_0 c5_49_0 c6_49_0 c7_49_0 c8_49_0 c9_49_0 hm_49_0
      refine w_iload_n gz_45_49 rfl ?_
      refine w_iconst gz_45_50 (by decide) ?_
      refine w_icge (t := 78) gz_45_51 rfl (fun u1 => ?_) (fun u1 => ?_)
      ·
        have c2 := c1_49_0
        have c3 := c4_49_0
        have c4 := c5_49_0
        have c5 := c7_49_0
        have c6 := c8_49_0
        have c7 := c9_49_0
        exact w_vret gz_45_78 gm_45 (k0 h49_0 (gh_49_0) (by omega) (by omega) (by omega) (by omega) (by omega) (by omega) (by omega))
      ·
        refine w_aload_n gz_45_54 rfl ?_
        refine w_getR gz_45_55 t0 rd_4 rfl (fun v8 ev8 tv8 => ?_)
        refine w_iload_n gz_45_58 rfl ?_
        refine w_iconst gz_45_59 (by decide) ?_
        refine w_iast gz_45_60 tv8 rd_38 (by omega) (by omega) (by omega) (by omega) (fun h9 fh9 => ?_)
        have gh9 : my_fr [(4, 1), (4, 2), (4, 3), (4, 4), (4, 5), (4, 6), (4, 7), (4, 8), (4, 9), (37, -1), (38, -1)] h h9 := my_fr.up gh_49_0 tv8 fh9 rfl
        refine w_aload_n gz_45_61 rfl ?_
        refine w_getR gz_45_62 t0 rd_4 rfl (fun v10 ev10 tv10 => ?_)
        refine w_iload_n gz_45_65 rfl ?_
        refine w_iload_n gz_45_66 rfl ?_
        refine w_iload_n gz_45_67 rfl ?_
        refine w_inS (k := 0) (as := [(0, p49_0), (0, x1)]) (r := [(0, p49_0), (2, v10)]) (ls0 := [(0, x1), (0, p49_0)]) gz_45_68 gm_29 rfl rfl rfl rfl rfl rfl ?_
        refine w_iload_n gz_29_0 rfl ?_
        refine w_iconst gz_29_1 (by decide) ?_
        refine w_imul gz_29_2 ⟨by omega, by omega⟩ ?_
        refine w_iload_n gz_29_3 rfl ?_
        refine w_iadd gz_29_4 ⟨by omega, by omega⟩ ?_
        refine w_iret gz_29_5 gm_29 ?_
        show wp l rho (d + 1) 45 71 [(2, x0), (0, x1), (0, x2), (0, p49_0)] [(0, ((x1 * 4) + p49_0)), (0, p49_0), (2, v10)] h9 Q
        refine w_iast gz_45_71 tv10 rd_37 (by omega) (by omega) (by omega) (by omega) (fun h11 fh11 => ?_)
        have gh11 : my_fr [(4, 1), (4, 2), (4, 3), (4, 4), (4, 5), (4, 6), (4, 7), (4, 8), (4, 9), (37, -1), (38, -1)] h h11 := my_fr.up gh9 tv10 fh11 rfl
        refine w_iinc (ls' := [(2, x0), (0, x1), (0, x2), (0, (p49_0 + 1))]) gz_45_72 rfl gm_45 rfl rfl rfl ⟨by omega, by omega⟩ ?_
        refine w_goto (t := 49) gz_45_75 rfl ?_
        exact ih_49_0 ((p49_0 + 1)) (p49_1) h11 (gh11) (by omega) (by omega) (((my_up_role fh11 t0 tv10 rfl).trans ((my_up_role fh9 t0 tv8 rfl).trans c1_49_0)).trans (by omega)) (((my_up_role fh11 t0 tv10 rfl).trans ((my_up_role fh9 t0 tv8 rfl).trans c2_49_0)).trans (by omega)) (((my_up_role fh11 t0 tv10 rfl).trans ((my_up_role fh9 t0 tv8 rfl).trans c3_49_0)).trans (by omega)) (((my_up_role fh11 t0 tv10 rfl).trans ((my_up_role fh9 t0 tv8 rfl).trans c4_49_0)).trans (by omega)) (((my_up_role fh11 t0 tv10 rfl).trans ((my_up_role fh9 t0 tv8 rfl).trans c5_49_0)).trans (by omega)) (((my_up_role fh11 t0 tv10 rfl).trans ((my_up_role fh9 t0 tv8 rfl).trans c6_49_0)).trans (by omega)) (((my_up_role fh11 t0 tv10 rfl).trans ((my_up_role fh9 t0 tv8 rfl).trans c7_49_0)).trans (by omega)) (((my_up_role fh11 t0 tv10 rfl).trans ((my_up_role fh9 t0 tv8 rfl).trans c8_49_0)).trans (by omega)) (((my_up_role fh11 t0 tv10 rfl).trans ((my_up_role fh9 t0 tv8 rfl).trans c9_49_0)).trans (by omega)) (by omega)
  refine w_aload_n gz_45_0 rfl ?_
  refine w_iconst gz_45_1 (by decide) ?_
  refine w_putI gz_45_2 t0 rd_4 rfl (by omega) (by omega) rfl (fun h12 fh12 => ?_)
  have gh12 : my_fr [(4, 1), (4, 2), (4, 3), (4, 4), (4, 5), (4, 6), (4, 7), (4, 8), (4, 9), (37, -1), (38, -1)] h h12 := my_fr.up my_fr.rf t0 fh12 rfl
  refine w_aload_n gz_45_5 rfl ?_
  refine w_iload_n gz_45_6 rfl ?_
  refine w_putI gz_45_7 t0 rd_4 rfl (by omega) (by omega) rfl (fun h13 fh13 => ?_)
  have gh13 : my_fr [(4, 1), (4, 2), (4, 3), (4, 4), (4, 5), (4, 6), (4, 7), (4, 8), (4, 9), (37, -1), (38, -1)] h h13 := my_fr.up gh12 t0 fh13 rfl
  refine w_aload_n gz_45_10 rfl ?_
  refine w_iload_n gz_45_11 rfl ?_
  refine w_putI gz_45_12 t0 rd_4 rfl (by omega) (by omega) rfl (fun h14 fh14 => ?_)
  have gh14 : my_fr [(4, 1), (4, 2), (4, 3), (4, 4), (4, 5), (4, 6), (4, 7), (4, 8), (4, 9), (37, -1), (38, -1)] h h14 := my_fr.up gh13 t0 fh14 rfl
  refine w_aload_n gz_45_15 rfl ?_
  refine w_iload_n gz_45_16 rfl ?_
  refine w_putI gz_45_17 t0 rd_4 rfl (by omega) (by omega) rfl (fun h15 fh15 => ?_)
  have gh15 : my_fr [(4, 1), (4, 2), (4, 3), (4, 4), (4, 5), (4, 6), (4, 7), (4, 8), (4, 9), (37, -1), (38, -1)] h h15 := my_fr.up gh14 t0 fh15 rfl
  refine w_aload_n gz_45_20 rfl ?_
  refine w_iconst gz_45_21 (by decide) ?_
  refine w_putA gz_45_22 t0 rd_4 rfl rfl (fun h16 fh16 => ?_)
  have gh16 : my_fr [(4, 1), (4, 2), (4, 3), (4, 4), (4, 5), (4, 6), (4, 7), (4, 8), (4, 9), (37, -1), (38, -1)] h h16 := my_fr.up gh15 t0 fh16 rfl
  refine w_aload_n gz_45_25 rfl ?_
  refine w_iconst gz_45_26 (by decide) ?_
  refine w_iload_n gz_45_27 rfl ?_
  refine w_ianyL gz_45_28 (fun v17 pv17 qv17 => ?_)
  refine w_putA gz_45_29 t0 rd_4 rfl rfl (fun h18 fh18 => ?_)
  have gh18 : my_fr [(4, 1), (4, 2), (4, 3), (4, 4), (4, 5), (4, 6), (4, 7), (4, 8), (4, 9), (37, -1), (38, -1)] h h18 := my_fr.up gh16 t0 fh18 rfl
  refine w_aload_n gz_45_32 rfl ?_
  refine w_iconst gz_45_33 (by decide) ?_
  refine w_putB gz_45_34 t0 rd_4 rfl (by omega) (by omega) rfl (fun h19 fh19 => ?_)
  have gh19 : my_fr [(4, 1), (4, 2), (4, 3), (4, 4), (4, 5), (4, 6), (4, 7), (4, 8), (4, 9), (37, -1), (38, -1)] h h19 := my_fr.up gh18 t0 fh19 rfl
  refine w_aload_n gz_45_37 rfl ?_
  refine w_iconst gz_45_38 (by decide) ?_
  refine w_putA gz_45_39 t0 rd_4 rfl rfl (fun h20 fh20 => ?_)
  have gh20 : my_fr [(4, 1), (4, 2), (4, 3), (4, 4), (4, 5), (4, 6), (4, 7), (4, 8), (4, 9), (37, -1), (38, -1)] h h20 := my_fr.up gh19 t0 fh20 rfl
  refine w_aload_n gz_45_42 rfl ?_
  refine w_iconst gz_45_43 (by decide) ?_
  refine w_putI gz_45_44 t0 rd_4 rfl (by omega) (by omega) rfl (fun h21 fh21 => ?_)
  have gh21 : my_fr [(4, 1), (4, 2), (4, 3), (4, 4), (4, 5), (4, 6), (4, 7), (4, 8), (4, 9), (37, -1), (38, -1)] h h21 := my_fr.up gh20 t0 fh21 rfl
  refine w_iconst gz_45_47 (by decide) ?_
  refine w_istore_n (ls' := [(2, x0), (0, x1), (0, x2), (0, 0)]) gz_45_48 gm_45 rfl rfl rfl ?_
  exact J49_0 5 (0) (v17) h21 (gh21) (by omega) (by omega) (((my_up_fld fh21 (by decide)).trans ((my_up_fld fh20 (by decide)).trans ((my_up_fld fh19 (by decide)).trans ((my_up_fld fh18 (by decide)).trans ((my_up_fld fh16 (by decide)).trans ((my_up_fld fh15 (by decide)).trans ((my_up_fld fh14 (by decide)).trans ((my_up_fld fh13 (by decide)).trans (my_up_self fh12))))))))).trans (by omega)) (((my_up_fld fh21 (by decide)).trans ((my_up_fld fh20 (by decide)).trans ((my_up_fld fh19 (by decide)).trans ((my_up_fld fh18 (by decide)).trans ((my_up_fld fh16 (by decide)).trans ((my_up_fld fh15 (by decide)).trans ((my_up_fld fh14 (by decide)).trans (my_up_self fh13)))))))).trans (by omega)) (((my_up_fld fh21 (by decide)).trans ((my_up_fld fh20 (by decide)).trans ((my_up_fld fh19 (by decide)).trans ((my_up_fld fh18 (by decide)).trans ((my_up_fld fh16 (by decide)).trans ((my_up_fld fh15 (by decide)).trans (my_up_self fh14))))))).trans (by omega)) (((my_up_fld fh21 (by decide)).trans ((my_up_fld fh20 (by decide)).trans ((my_up_fld fh19 (by decide)).trans ((my_up_fld fh18 (by decide)).trans ((my_up_fld fh16 (by decide)).trans (my_up_self fh15)))))).trans (by omega)) (((my_up_fld fh21 (by decide)).trans ((my_up_fld fh20 (by decide)).trans ((my_up_fld fh19 (by decide)).trans ((my_up_fld fh18 (by decide)).trans (my_up_self fh16))))).trans (by omega)) (((my_up_fld fh21 (by decide)).trans ((my_up_fld fh20 (by decide)).trans ((my_up_fld fh19 (by decide)).trans (my_up_self fh18)))).trans (by omega)) (((my_up_fld fh21 (by decide)).trans ((my_up_fld fh20 (by decide)).trans (my_up_self fh19))).trans (by omega)) (((my_up_fld fh21 (by decide)).trans (my_up_self fh20)).trans (by omega)) ((my_up_self fh21).trans (by omega)) (by omega)
theorem gz_48_0 : mz_pg 48 0 = some (.aload_n 0, 0, 0, 0) := by decide +kernel
theorem gz_48_1 : mz_pg 48 1 = some (.iload_n 1, 0, 0, 0) := by decide +kernel
theorem gz_48_2 : mz_pg 48 2 = some (.putfield 36, 4, 1, 198) := by decide +kernel
theorem gz_48_5 : mz_pg 48 5 = some (.aload_n 0, 0, 0, 0) := by decide +kernel
theorem gz_48_6 : mz_pg 48 6 = some (.aload_n 2, 0, 0, 0) := by decide +kernel
theorem gz_48_7 : mz_pg 48 7 = some (.getfield 40, 4, 2, 201) := by decide +kernel
theorem gz_48_10 : mz_pg 48 10 = some (.putfield 40, 4, 2, 201) := by decide +kernel
theorem gz_48_13 : mz_pg 48 13 = some (.aload_n 0, 0, 0, 0) := by decide +kernel
theorem gz_48_14 : mz_pg 48 14 = some (.aload_n 2, 0, 0, 0) := by decide +kernel
theorem gz_48_15 : mz_pg 48 15 = some (.getfield 43, 4, 3, 205) := by decide +kernel
theorem gz_48_18 : mz_pg 48 18 = some (.putfield 43, 4, 3, 205) := by decide +kernel
theorem gz_48_21 : mz_pg 48 21 = some (.aload_n 0, 0, 0, 0) := by decide +kernel
theorem gz_48_22 : mz_pg 48 22 = some (.aload_n 2, 0, 0, 0) := by decide +kernel
theorem gz_48_23 : mz_pg 48 23 = some (.getfield 46, 4, 4, 208) := by decide +kernel
theorem gz_48_26 : mz_pg 48 26 = some (.putfield 46, 4, 4, 208) := by decide +kernel
theorem gz_48_29 : mz_pg 48 29 = some (.aload_n 0, 0, 0, 0) := by decide +kernel
theorem gz_48_30 : mz_pg 48 30 = some (.aload_n 2, 0, 0, 0) := by decide +kernel
theorem gz_48_31 : mz_pg 48 31 = some (.getfield 49, 4, 5, 211) := by decide +kernel
theorem gz_48_34 : mz_pg 48 34 = some (.putfield 49, 4, 5, 211) := by decide +kernel
theorem gz_48_37 : mz_pg 48 37 = some (.aload_n 0, 0, 0, 0) := by decide +kernel
theorem gz_48_38 : mz_pg 48 38 = some (.aload_n 2, 0, 0, 0) := by decide +kernel
theorem gz_48_39 : mz_pg 48 39 = some (.getfield 52, 4, 6, 213) := by decide +kernel
theorem gz_48_42 : mz_pg 48 42 = some (.putfield 52, 4, 6, 213) := by decide +kernel
theorem gz_48_45 : mz_pg 48 45 = some (.aload_n 0, 0, 0, 0) := by decide +kernel
theorem gz_48_46 : mz_pg 48 46 = some (.aload_n 2, 0, 0, 0) := by decide +kernel
theorem gz_48_47 : mz_pg 48 47 = some (.getfield 55, 4, 7, 216) := by decide +kernel
theorem gz_48_50 : mz_pg 48 50 = some (.putfield 55, 4, 7, 216) := by decide +kernel
theorem gz_48_53 : mz_pg 48 53 = some (.aload_n 0, 0, 0, 0) := by decide +kernel
theorem gz_48_54 : mz_pg 48 54 = some (.aload_n 2, 0, 0, 0) := by decide +kernel
theorem gz_48_55 : mz_pg 48 55 = some (.getfield 59, 4, 8, 218) := by decide +kernel
theorem gz_48_58 : mz_pg 48 58 = some (.putfield 59, 4, 8, 218) := by decide +kernel
theorem gz_48_61 : mz_pg 48 61 = some (.aload_n 0, 0, 0, 0) := by decide +kernel
theorem gz_48_62 : mz_pg 48 62 = some (.iconst 0, 0, 0, 0) := by decide +kernel
theorem gz_48_63 : mz_pg 48 63 = some (.putfield 62, 4, 9, 219) := by decide +kernel
theorem gz_48_66 : mz_pg 48 66 = some (.aload_n 2, 0, 0, 0) := by decide +kernel
theorem gz_48_67 : mz_pg 48 67 = some (.getfield 30, 4, 16, 233) := by decide +kernel
theorem gz_48_70 : mz_pg 48 70 = some (.iconst 0, 0, 0, 0) := by decide +kernel
theorem gz_48_71 : mz_pg 48 71 = some (.aload_n 0, 0, 0, 0) := by decide +kernel
theorem gz_48_72 : mz_pg 48 72 = some (.getfield 30, 4, 16, 233) := by decide +kernel
theorem gz_48_75 : mz_pg 48 75 = some (.iconst 0, 0, 0, 0) := by decide +kernel
theorem gz_48_76 : mz_pg 48 76 = some (.iconst 4, 0, 0, 0) := by decide +kernel
theorem gz_48_77 : mz_pg 48 77 = some (.invokestatic 69, 0, 0, 755) := by decide +kernel
theorem gz_48_80 : mz_pg 48 80 = some (.aload_n 2, 0, 0, 0) := by decide +kernel
theorem gz_48_81 : mz_pg 48 81 = some (.getfield 27, 4, 15, 232) := by decide +kernel
theorem gz_48_84 : mz_pg 48 84 = some (.iconst 0, 0, 0, 0) := by decide +kernel
theorem gz_48_85 : mz_pg 48 85 = some (.aload_n 0, 0, 0, 0) := by decide +kernel
theorem gz_48_86 : mz_pg 48 86 = some (.getfield 27, 4, 15, 232) := by decide +kernel
theorem gz_48_89 : mz_pg 48 89 = some (.iconst 0, 0, 0, 0) := by decide +kernel
theorem gz_48_90 : mz_pg 48 90 = some (.bipush 8, 0, 0, 0) := by decide +kernel
theorem gz_48_92 : mz_pg 48 92 = some (.invokestatic 69, 0, 0, 755) := by decide +kernel
theorem gz_48_95 : mz_pg 48 95 = some (.return_, 0, 0, 0) := by decide +kernel
theorem gm_48 : my_mm 48 3 none 2 4 := by unfold my_mm; decide +kernel
theorem c46_Lens_startOnWindow {l : Launch} {rho : Nat → Int32} {d : Nat} {h : my_H} {Q : my_H → my_V → Prop} {x0 x1 x2 : Int} (t0 : my_is 4 x0) (a1 : 0 ≤ x1) (b1 : x1 ≤ 4) (t2 : my_is 4 x2) (k0 : ∀ (h' : my_H), my_fr [(4, 1), (4, 2), (4, 3), (4, 4), (4, 5), (4, 6), (4, 7), (4, 8), (4, 9), (37, -1), (38, -1)] h h' → 0 ≤ h' x0 ((1 : Nat) : Int) → h' x0 ((1 : Nat) : Int) ≤ 4 → h' x0 ((9 : Nat) : Int) = 0 → Q h' (9, 0)) : wp l rho (d + 1) 48 0 [(2, x0), (0, x1), (2, x2)] [] h Q := by
  refine w_aload_n gz_48_0 rfl ?_
  refine w_iload_n gz_48_1 rfl ?_
  refine w_putI gz_48_2 t0 rd_4 rfl (by omega) (by omega) rfl (fun h1 fh1 => ?_)
  have gh1 : my_fr [(4, 1), (4, 2), (4, 3), (4, 4), (4, 5), (4, 6), (4, 7), (4, 8), (4, 9), (37, -1), (38, -1)] h h1 := my_fr.up my_fr.rf t0 fh1 rfl
  refine w_aload_n gz_48_5 rfl ?_
  refine w_aload_n gz_48_6 rfl ?_
  refine w_getI gz_48_7 t2 rd_4 rfl (fun v2 ev2 pv2 qv2 => ?_)
  refine w_putI gz_48_10 t0 rd_4 rfl (by omega) (by omega) rfl (fun h3 fh3 => ?_)
  have gh3 : my_fr [(4, 1), (4, 2), (4, 3), (4, 4), (4, 5), (4, 6), (4, 7), (4, 8), (4, 9), (37, -1), (38, -1)] h h3 := my_fr.up gh1 t0 fh3 rfl
  refine w_aload_n gz_48_13 rfl ?_
  refine w_aload_n gz_48_14 rfl ?_
  refine w_getI gz_48_15 t2 rd_4 rfl (fun v4 ev4 pv4 qv4 => ?_)
  refine w_putI gz_48_18 t0 rd_4 rfl (by omega) (by omega) rfl (fun h5 fh5 => ?_)
  have gh5 : my_fr [(4, 1), (4, 2), (4, 3), (4, 4), (4, 5), (4, 6), (4, 7), (4, 8), (4, 9), (37, -1), (38, -1)] h h5 := my_fr.up gh3 t0 fh5 rfl
  refine w_aload_n gz_48_21 rfl ?_
  refine w_aload_n gz_48_22 rfl ?_
  refine w_getI gz_48_23 t2 rd_4 rfl (fun v6 ev6 pv6 qv6 => ?_)
  refine w_putI gz_48_26 t0 rd_4 rfl (by omega) (by omega) rfl (fun h7 fh7 => ?_)
  have gh7 : my_fr [(4, 1), (4, 2), (4, 3), (4, 4), (4, 5), (4, 6), (4, 7), (4, 8), (4, 9), (37, -1), (38, -1)] h h7 := my_fr.up gh5 t0 fh7 rfl
  refine w_aload_n gz_48_29 rfl ?_
  refine w_aload_n gz_48_30 rfl ?_
  refine w_getI gz_48_31 t2 rd_4 rfl (fun v8 ev8 pv8 qv8 => ?_)
  refine w_putA gz_48_34 t0 rd_4 rfl rfl (fun h9 fh9 => ?_)
  have gh9 : my_fr [(4, 1), (4, 2), (4, 3), (4, 4), (4, 5), (4, 6), (4, 7), (4, 8), (4, 9), (37, -1), (38, -1)] h h9 := my_fr.up gh7 t0 fh9 rfl
  refine w_aload_n gz_48_37 rfl ?_
  refine w_aload_n gz_48_38 rfl ?_
  refine w_getI gz_48_39 t2 rd_4 rfl (fun v10 ev10 pv10 qv10 => ?_)
  refine w_putA gz_48_42 t0 rd_4 rfl rfl (fun h11 fh11 => ?_)
  have gh11 : my_fr [(4, 1), (4, 2), (4, 3), (4, 4), (4, 5), (4, 6), (4, 7), (4, 8), (4, 9), (37, -1), (38, -1)] h h11 := my_fr.up gh9 t0 fh11 rfl
  refine w_aload_n gz_48_45 rfl ?_
  refine w_aload_n gz_48_46 rfl ?_
  refine w_getI gz_48_47 t2 rd_4 rfl (fun v12 ev12 pv12 qv12 => ?_)
  refine w_putB gz_48_50 t0 rd_4 rfl (by omega) (by omega) rfl (fun h13 fh13 => ?_)
  have gh13 : my_fr [(4, 1), (4, 2), (4, 3), (4, 4), (4, 5), (4, 6), (4, 7), (4, 8), (4, 9), (37, -1), (38, -1)] h h13 := my_fr.up gh11 t0 fh13 rfl
  refine w_aload_n gz_48_53 rfl ?_
  refine w_aload_n gz_48_54 rfl ?_
  refine w_getI gz_48_55 t2 rd_4 rfl (fun v14 ev14 pv14 qv14 => ?_)
  refine w_putA gz_48_58 t0 rd_4 rfl rfl (fun h15 fh15 => ?_)
  have gh15 : my_fr [(4, 1), (4, 2), (4, 3), (4, 4), (4, 5), (4, 6), (4, 7), (4, 8), (4, 9), (37, -1), (38, -1)] h h15 := my_fr.up gh13 t0 fh15 rfl
  refine w_aload_n gz_48_61 rfl ?_
  refine w_iconst gz_48_62 (by decide) ?_
  refine w_putI gz_48_63 t0 rd_4 rfl (by omega) (by omega) rfl (fun h16 fh16 => ?_)
  have gh16 : my_fr [(4, 1), (4, 2), (4, 3), (4, 4), (4, 5), (4, 6), (4, 7), (4, 8), (4, 9), (37, -1), (38, -1)] h h16 := my_fr.up gh15 t0 fh16 rfl
  refine w_aload_n gz_48_66 rfl ?_
  refine w_getR gz_48_67 t2 rd_4 rfl (fun v17 ev17 tv17 => ?_)
  refine w_iconst gz_48_70 (by decide) ?_
  refine w_aload_n gz_48_71 rfl ?_
  refine w_getR gz_48_72 t0 rd_4 rfl (fun v18 ev18 tv18 => ?_)
  refine w_iconst gz_48_75 (by decide) ?_
  refine w_iconst gz_48_76 (by decide) ?_
  refine w_cpU gz_48_77 tv17 rd_38 tv18 rd_38 (by omega) (by omega) (by omega) (by omega) (by omega) rfl (by decide) (by decide) (fun h19 fh19 => ?_)
  have gh19 : my_fr [(4, 1), (4, 2), (4, 3), (4, 4), (4, 5), (4, 6), (4, 7), (4, 8), (4, 9), (37, -1), (38, -1)] h h19 := my_fr.cp gh16 tv18 fh19 rfl
  refine w_aload_n gz_48_80 rfl ?_
  refine w_getR gz_48_81 t2 rd_4 rfl (fun v20 ev20 tv20 => ?_)
  refine w_iconst gz_48_84 (by decide) ?_
  refine w_aload_n gz_48_85 rfl ?_
  refine w_getR gz_48_86 t0 rd_4 rfl (fun v21 ev21 tv21 => ?_)
  refine w_iconst gz_48_89 (by decide) ?_
  refine w_bipush gz_48_90 (by decide) ?_
  refine w_cpU gz_48_92 tv20 rd_37 tv21 rd_37 (by omega) (by omega) (by omega) (by omega) (by omega) rfl (by decide) (by decide) (fun h22 fh22 => ?_)
  have gh22 : my_fr [(4, 1), (4, 2), (4, 3), (4, 4), (4, 5), (4, 6), (4, 7), (4, 8), (4, 9), (37, -1), (38, -1)] h h22 := my_fr.cp gh19 tv21 fh22 rfl
  have c23 := ((my_cp_role fh22 t0 tv21 rfl).trans ((my_cp_role fh19 t0 tv18 rfl).trans ((my_up_fld fh16 (by decide)).trans ((my_up_fld fh15 (by decide)).trans ((my_up_fld fh13 (by decide)).trans ((my_up_fld fh11 (by decide)).trans ((my_up_fld fh9 (by decide)).trans ((my_up_fld fh7 (by decide)).trans ((my_up_fld fh5 (by decide)).trans ((my_up_fld fh3 (by decide)).trans (my_up_self fh1)))))))))))
  have c24 := ((my_cp_role fh22 t0 tv21 rfl).trans ((my_cp_role fh19 t0 tv18 rfl).trans (my_up_self fh16)))
  exact w_vret gz_48_95 gm_48 (k0 h22 (gh22) (by omega) (by omega) (by omega))
theorem gz_44_44 : mz_pg 44 44 = some (.iconst (-1), 0, 0, 0) := by decide +kernel
theorem gz_51_0 : mz_pg 51 0 = some (.aload_n 0, 0, 0, 0) := by decide +kernel
theorem gz_51_1 : mz_pg 51 1 = some (.iload_n 1, 0, 0, 0) := by decide +kernel
theorem gz_51_2 : mz_pg 51 2 = some (.invokevirtual 87, 1, 44, 737) := by decide +kernel
theorem gz_51_5 : mz_pg 51 5 = some (.istore_n 2, 0, 0, 0) := by decide +kernel
theorem gz_51_6 : mz_pg 51 6 = some (.iload_n 2, 0, 0, 0) := by decide +kernel
theorem gz_51_7 : mz_pg 51 7 = some (.iconst (-1), 0, 0, 0) := by decide +kernel
theorem gz_51_8 : mz_pg 51 8 = some (.if_icmp .eq 7, 0, 0, 0) := by decide +kernel
theorem gz_51_15 : mz_pg 51 15 = some (.iload_n 2, 0, 0, 0) := by decide +kernel
theorem gz_51_16 : mz_pg 51 16 = some (.ireturn, 0, 0, 0) := by decide +kernel
theorem gm_51 : my_mm 51 3 (some .int) 1 5 := by unfold my_mm; decide +kernel
theorem c47_Reader_takeNumber {l : Launch} {rho : Nat → Int32} {d : Nat} {h : my_H} {Q : my_H → my_V → Prop} {x0 x1 : Int} (t0 : my_is 5 x0) (a1 : 20 ≤ x1) (b1 : x1 ≤ 200) (xf : Int) (cf : h x0 ((9 : Nat) : Int) = xf) (cf1 : 1 ≤ xf) (cf2 : xf ≤ 16005) (k0 : 1 ≤ h x0 ((9 : Nat) : Int) → h x0 ((9 : Nat) : Int) ≤ 16005 → Q h (0, (-1))) : wp l rho (d + 2) 51 0 [(2, x0), (0, x1), (9, 0)] [] h Q := by
  refine w_aload_n gz_51_0 rfl ?_
  refine w_iload_n gz_51_1 rfl ?_
  refine w_inv (k := 0) (as := [(0, x1)]) (r := []) (x := x0) (ls0 := [(2, x0), (0, x1)]) gz_51_2 gm_44 rfl t0 rd_5 rfl rfl rfl rfl rfl ?_
  refine w_aload_n gz_44_0 rfl ?_
  refine w_getI gz_44_1 t0 rd_5 rfl (fun v1 ev1 pv1 qv1 => ?_)
  refine w_iconst gz_44_4 (by decide) ?_
  refine w_iceq (t := 15) gz_44_5 rfl (fun u2 => ?_) (fun u2 => ?_)
  ·
    refine w_aload_n gz_44_15 rfl ?_
    refine w_getI gz_44_16 t0 rd_5 rfl (fun v3 ev3 pv3 qv3 => ?_)
    refine w_iload_n gz_44_19 rfl ?_
    refine w_iclt (t := 30) gz_44_20 rfl (fun u4 => ?_) (fun u4 => ?_)
    ·
      refine w_aload_n gz_44_30 rfl ?_
      refine w_getI gz_44_31 t0 rd_5 rfl (fun v5 ev5 pv5 qv5 => ?_)
      have zv5 := ev5.trans cf
      refine w_ifne (t := 44) gz_44_34 rfl (fun u6 => ?_) (fun u6 => by exfalso; omega)
      refine w_iconst gz_44_44 (by decide) ?_
      refine w_iret gz_44_45 gm_44 ?_
      show wp l rho (d + 2) 51 5 [(2, x0), (0, x1), (9, 0)] [(0, (-1))] h Q
      refine w_istore_n (ls' := [(2, x0), (0, x1), (0, (-1))]) gz_51_5 gm_51 rfl rfl rfl ?_
      refine w_iload_n gz_51_6 rfl ?_
      refine w_iconst gz_51_7 (by decide) ?_
      refine w_iceq (t := 15) gz_51_8 rfl (fun u7 => ?_) (fun u7 => by exfalso; omega)
      refine w_iload_n gz_51_15 rfl ?_
      have c8 := ev5.symm
      exact w_iret gz_51_16 gm_51 (k0 (by omega) (by omega))
    ·
      refine w_aload_n gz_44_23 rfl ?_
      refine w_iconst gz_44_24 (by decide) ?_
      refine w_inv (k := 0) (as := [(0, 4)]) (r := []) (x := x0) (ls0 := [(2, x0), (0, 4)]) gz_44_25 gm_42 rfl t0 rd_5 rfl rfl rfl rfl rfl ?_
      refine w_aload_n gz_42_0 rfl ?_
      refine w_getI gz_42_1 t0 rd_5 rfl (fun v9 ev9 pv9 qv9 => ?_)
      have zv9 := ev9.trans cf
      refine w_ifne (t := 20) gz_42_4 rfl (fun u10 => ?_) (fun u10 => by exfalso; omega)
      refine w_vret gz_42_20 gm_42 ?_
      show wp l rho (d + 1) 44 28 [(2, x0), (0, x1)] [] h _
      refine w_iconst gz_44_28 (by decide) ?_
      refine w_iret gz_44_29 gm_44 ?_
      show wp l rho (d + 2) 51 5 [(2, x0), (0, x1), (9, 0)] [(0, (-1))] h Q
      refine w_istore_n (ls' := [(2, x0), (0, x1), (0, (-1))]) gz_51_5 gm_51 rfl rfl rfl ?_
      refine w_iload_n gz_51_6 rfl ?_
      refine w_iconst gz_51_7 (by decide) ?_
      refine w_iceq (t := 15) gz_51_8 rfl (fun u11 => ?_) (fun u11 => by exfalso; omega)
      refine w_iload_n gz_51_15 rfl ?_
      have c12 := ev9.symm
      exact w_iret gz_51_16 gm_51 (k0 (by omega) (by omega))
  ·
    refine w_aload_n gz_44_8 rfl ?_
    refine w_iconst gz_44_9 (by decide) ?_
    refine w_inv (k := 0) (as := [(0, 1)]) (r := []) (x := x0) (ls0 := [(2, x0), (0, 1)]) gz_44_10 gm_42 rfl t0 rd_5 rfl rfl rfl rfl rfl ?_
    refine w_aload_n gz_42_0 rfl ?_
    refine w_getI gz_42_1 t0 rd_5 rfl (fun v13 ev13 pv13 qv13 => ?_)
    have zv13 := ev13.trans cf
    refine w_ifne (t := 20) gz_42_4 rfl (fun u14 => ?_) (fun u14 => by exfalso; omega)
    refine w_vret gz_42_20 gm_42 ?_
    show wp l rho (d + 1) 44 13 [(2, x0), (0, x1)] [] h _
    refine w_iconst gz_44_13 (by decide) ?_
    refine w_iret gz_44_14 gm_44 ?_
    show wp l rho (d + 2) 51 5 [(2, x0), (0, x1), (9, 0)] [(0, (-1))] h Q
    refine w_istore_n (ls' := [(2, x0), (0, x1), (0, (-1))]) gz_51_5 gm_51 rfl rfl rfl ?_
    refine w_iload_n gz_51_6 rfl ?_
    refine w_iconst gz_51_7 (by decide) ?_
    refine w_iceq (t := 15) gz_51_8 rfl (fun u15 => ?_) (fun u15 => by exfalso; omega)
    refine w_iload_n gz_51_15 rfl ?_
    have c16 := ev13.symm
    exact w_iret gz_51_16 gm_51 (k0 (by omega) (by omega))
theorem gz_72_0 : mz_pg 72 0 = some (.iload_n 1, 0, 0, 0) := by decide +kernel
theorem gz_72_1 : mz_pg 72 1 = some (.iload_n 2, 0, 0, 0) := by decide +kernel
theorem gz_72_2 : mz_pg 72 2 = some (.if_icmp .eq 24, 0, 0, 0) := by decide +kernel
theorem gz_72_5 : mz_pg 72 5 = some (.aload_n 0, 0, 0, 0) := by decide +kernel
theorem gz_72_6 : mz_pg 72 6 = some (.getfield 11, 8, 2, 333) := by decide +kernel
theorem gz_72_9 : mz_pg 72 9 = some (.iload_n 1, 0, 0, 0) := by decide +kernel
theorem gz_72_10 : mz_pg 72 10 = some (.bipush 17, 0, 0, 0) := by decide +kernel
theorem gz_72_12 : mz_pg 72 12 = some (.imul, 0, 0, 0) := by decide +kernel
theorem gz_72_13 : mz_pg 72 13 = some (.aload_n 0, 0, 0, 0) := by decide +kernel
theorem gz_72_14 : mz_pg 72 14 = some (.getfield 11, 8, 2, 333) := by decide +kernel
theorem gz_72_17 : mz_pg 72 17 = some (.iload_n 2, 0, 0, 0) := by decide +kernel
theorem gz_72_18 : mz_pg 72 18 = some (.bipush 17, 0, 0, 0) := by decide +kernel
theorem gz_72_20 : mz_pg 72 20 = some (.imul, 0, 0, 0) := by decide +kernel
theorem gz_72_21 : mz_pg 72 21 = some (.bipush 17, 0, 0, 0) := by decide +kernel
theorem gz_72_23 : mz_pg 72 23 = some (.invokestatic 96, 0, 0, 839) := by decide +kernel
theorem gz_72_26 : mz_pg 72 26 = some (.return_, 0, 0, 0) := by decide +kernel
theorem gz_74_0 : mz_pg 74 0 = some (.aload_n 0, 0, 0, 0) := by decide +kernel
theorem gz_74_1 : mz_pg 74 1 = some (.getfield 11, 8, 2, 333) := by decide +kernel
theorem gz_74_4 : mz_pg 74 4 = some (.iload_n 1, 0, 0, 0) := by decide +kernel
theorem gz_74_5 : mz_pg 74 5 = some (.bipush 17, 0, 0, 0) := by decide +kernel
theorem gz_74_7 : mz_pg 74 7 = some (.imul, 0, 0, 0) := by decide +kernel
theorem gz_74_8 : mz_pg 74 8 = some (.iload_n 2, 0, 0, 0) := by decide +kernel
theorem gz_74_9 : mz_pg 74 9 = some (.iadd, 0, 0, 0) := by decide +kernel
theorem gz_74_10 : mz_pg 74 10 = some (.iaload, 0, 0, 0) := by decide +kernel
theorem gz_74_11 : mz_pg 74 11 = some (.ireturn, 0, 0, 0) := by decide +kernel
theorem gz_77_0 : mz_pg 77 0 = some (.iconst 0, 0, 0, 0) := by decide +kernel
theorem gz_77_1 : mz_pg 77 1 = some (.istore 4, 0, 0, 0) := by decide +kernel
theorem gz_77_3 : mz_pg 77 3 = some (.iconst 0, 0, 0, 0) := by decide +kernel
theorem gz_77_4 : mz_pg 77 4 = some (.istore 5, 0, 0, 0) := by decide +kernel
theorem gz_77_6 : mz_pg 77 6 = some (.iload 5, 0, 0, 0) := by decide +kernel
theorem gz_77_8 : mz_pg 77 8 = some (.aload_n 0, 0, 0, 0) := by decide +kernel
theorem gz_77_9 : mz_pg 77 9 = some (.getfield 22, 8, 0, 327) := by decide +kernel
theorem gz_77_12 : mz_pg 77 12 = some (.if_icmp .ge 35, 0, 0, 0) := by decide +kernel
theorem gz_77_15 : mz_pg 77 15 = some (.iload_n 1, 0, 0, 0) := by decide +kernel
theorem gz_77_16 : mz_pg 77 16 = some (.aload_n 0, 0, 0, 0) := by decide +kernel
theorem gz_77_17 : mz_pg 77 17 = some (.iload 5, 0, 0, 0) := by decide +kernel
theorem gz_77_19 : mz_pg 77 19 = some (.iload_n 2, 0, 0, 0) := by decide +kernel
theorem gz_77_20 : mz_pg 77 20 = some (.invokevirtual 102, 1, 74, 843) := by decide +kernel
theorem gz_77_23 : mz_pg 77 23 = some (.iload_n 3, 0, 0, 0) := by decide +kernel
theorem gz_77_24 : mz_pg 77 24 = some (.invokestatic 105, 2, 78, 9) := by decide +kernel
theorem gz_77_27 : mz_pg 77 27 = some (.ifCond .eq 14, 0, 0, 0) := by decide +kernel
theorem gz_77_30 : mz_pg 77 30 = some (.aload_n 0, 0, 0, 0) := by decide +kernel
theorem gz_77_31 : mz_pg 77 31 = some (.iload 5, 0, 0, 0) := by decide +kernel
theorem gz_77_33 : mz_pg 77 33 = some (.iload 4, 0, 0, 0) := by decide +kernel
theorem gz_77_35 : mz_pg 77 35 = some (.iinc 4 1, 0, 0, 0) := by decide +kernel
theorem gz_77_38 : mz_pg 77 38 = some (.invokevirtual 109, 1, 72, 836) := by decide +kernel
theorem gz_77_41 : mz_pg 77 41 = some (.iinc 5 1, 0, 0, 0) := by decide +kernel
theorem gz_77_44 : mz_pg 77 44 = some (.goto (-38), 0, 0, 0) := by decide +kernel
theorem gz_77_47 : mz_pg 77 47 = some (.aload_n 0, 0, 0, 0) := by decide +kernel
theorem gz_77_48 : mz_pg 77 48 = some (.iload 4, 0, 0, 0) := by decide +kernel
theorem gz_77_50 : mz_pg 77 50 = some (.putfield 22, 8, 0, 327) := by decide +kernel
theorem gz_77_53 : mz_pg 77 53 = some (.return_, 0, 0, 0) := by decide +kernel
theorem gm_72 : my_mm 72 3 none 2 8 := by unfold my_mm; decide +kernel
theorem gm_74 : my_mm 74 3 (some .int) 2 8 := by unfold my_mm; decide +kernel
theorem gm_77 : my_mm 77 6 none 3 8 := by unfold my_mm; decide +kernel
theorem rd_8 : my_rd 8 = .inr (8, [(0, 0, 11), (0, 0, 8), (2, 42, 0), (2, 43, 0), (2, 44, 0)]) := rfl
theorem rd_42 : my_rd 42 = .inl (0, 204, my_gE) := rfl
theorem c48_View_cut {l : Launch} {rho : Nat → Int32} {d : Nat} {h : my_H} {Q : my_H → my_V → Prop} {x0 x1 x2 x3 : Int} (t0 : my_is 8 x0) (a1 : 0 ≤ x1) (b1 : x1 ≤ 5) (a2 : 0 ≤ x2) (b2 : x2 ≤ 7) (a3 : 0 ≤ x3) (b3 : x3 ≤ 199) (k0 : ∀ (h' : my_H), my_fr [(8, 0), (42, -1)] h h' → Q h' (9, 0)) : wp l rho (d + 2) 77 0 [(2, x0), (0, x1), (0, x2), (0, x3), (9, 0), (9, 0)] [] h Q := by
  have J6_0 : ∀ (n : Nat) (p6_0 p6_1 : Int) (h6_0 : my_H), my_fr [(8, 0), (42, -1)] h h6_0 → 0 ≤ p6_0 → p6_0 ≤ 11 → 0 ≤ p6_1 → p6_1 ≤ 11 → p6_0 ≤ p6_1 → 12 - p6_1 ≤ (n : Int) → wp l rho (d + 2) 77 6 [(2, x0), (0, x1), (0, x2), (0, x3), (0, p6_0), (0, p6_1)] [] h6_0 Q := by
    intro n
    induction n with
    | zero => intro p6_0 p6_1 h6_0 gh_6_0 q0_6_0 q1_6_0 q2_6_0 q3_6_0 q4_6_0 hm_6_0; exfalso; omega
    | succ n ih_6_0 =>
      intro p6_0 p6_1 h6_0 gh_6_0 q0_6_0 q1_6_0 q2_6_0 q3_6_0 q4_6_0 hm_6_0
      have J41_0 : ∀ (p41_0 p41_1 : Int) (h41_0 : my_H), my_fr [(8, 0), (42, -1)] h h41_0 → 0 ≤ p41_0 → p41_0 ≤ 11 → p6_1 ≤ 10 → 1 ≤ p41_1 → p41_1 ≤ 11 → p6_0 ≤ 10 → p41_0 ≤ p41_1 → p41_0 ≤ (p6_1 + 1) → p41_0 ≤ (p6_0 + 1) → p6_1 ≤ (p41_1 - 1) → p6_0 ≤ p41_0 → p6_0 ≤ (p41_1 - 1) → p6_0 ≤ p6_1 → h41_0 x0 ((0 : Nat) : Int) = p41_1 → wp l rho (d + 2) 77 41 [(2, x0), (0, x1), (0, x2), (0, x3), (0, p41_0), (0, p6_1)] [] h41_0 Q := by
        intro p41_0 p41_1 h41_0 gh_41_0 q0_41_0 q1_41_0 q2_41_0 q3_41_0 q4_41_0 q5_41_0 q6_41_0 q7_41_0 q8_41_0 q9_41_0 q10_41_0 q11_41_0 q12_41_0 c0_41_0
        refine w_iinc (ls' := [(2, x0), (0, x1), (0, x2), (0, x3), (0, p41_0), (0, (p6_1 + 1))]) gz_77_41 rfl gm_77 rfl rfl rfl ⟨by omega, by omega⟩ ?_
        refine w_goto (t := 6) gz_77_44 rfl ?_
        exact ih_6_0 (p41_0) ((p6_1 + 1)) h41_0 (gh_41_0) (by omega) (by omega) (by omega) (by omega) (by omega) (by omega)
      refine w_iload gz_77_6 rfl ?_
      refine w_aload_n gz_77_8 rfl ?_
      refine w_getI gz_77_9 t0 rd_8 rfl (fun v1 ev1 pv1 qv1 => ?_)
      refine w_icge (t := 47) gz_77_12 rfl (fun u2 => ?_) (fun u2 => ?_)
      ·
        refine w_aload_n gz_77_47 rfl ?_
        refine w_iload gz_77_48 rfl ?_
        refine w_putI gz_77_50 t0 rd_8 rfl (by omega) (by omega) rfl (fun h3 fh3 => ?_)
        have gh3 : my_fr [(8, 0), (42, -1)] h h3 := my_fr.up gh_6_0 t0 fh3 rfl
        exact w_vret gz_77_53 gm_77 (k0 h3 (gh3))
      ·
        refine w_iload_n gz_77_15 rfl ?_
        refine w_aload_n gz_77_16 rfl ?_
        refine w_iload gz_77_17 rfl ?_
        refine w_iload_n gz_77_19 rfl ?_
        refine w_inv (k := 0) (as := [(0, x2), (0, p6_1)]) (r := [(0, x1)]) (x := x0) (ls0 := [(2, x0), (0, p6_1), (0, x2)]) gz_77_20 gm_74 rfl t0 rd_8 rfl rfl rfl rfl rfl ?_
        refine w_aload_n gz_74_0 rfl ?_
        refine w_getR gz_74_1 t0 rd_8 rfl (fun v4 ev4 tv4 => ?_)
        refine w_iload_n gz_74_4 rfl ?_
        refine w_bipush gz_74_5 (by decide) ?_
        refine w_imul gz_74_7 ⟨by omega, by omega⟩ ?_
        refine w_iload_n gz_74_8 rfl ?_
        refine w_iadd gz_74_9 ⟨by omega, by omega⟩ ?_
        refine w_gldA gz_74_10 tv4 rd_42 (by omega) (by omega) (fun v5 ev5 pv5 qv5 => ?_)
        refine w_iret gz_74_11 gm_74 ?_
        show wp l rho (d + 2) 77 23 [(2, x0), (0, x1), (0, x2), (0, x3), (0, p6_0), (0, p6_1)] [(0, v5), (0, x1)] h6_0 Q
        refine w_iload_n gz_77_23 rfl ?_
        refine w_inS (k := 0) (as := [(0, x3), (0, v5), (0, x1)]) (r := []) (ls0 := [(0, x1), (0, v5), (0, x3)]) gz_77_24 gm_78 rfl rfl rfl rfl rfl rfl ?_
        refine w_iload_n gz_78_0 rfl ?_
        refine w_ifne (t := 17) gz_78_1 rfl (fun u6 => ?_) (fun u6 => ?_)
        ·
          refine w_iload_n gz_78_17 rfl ?_
          refine w_iconst gz_78_18 (by decide) ?_
          refine w_icne (t := 35) gz_78_19 rfl (fun u7 => ?_) (fun u7 => ?_)
          ·
            refine w_iload_n gz_78_35 rfl ?_
            refine w_iload_n gz_78_36 rfl ?_
            refine w_icle (t := 44) gz_78_37 rfl (fun u8 => ?_) (fun u8 => ?_)
            ·
              refine w_iconst gz_78_44 (by decide) ?_
              refine w_bret gz_78_45 gm_78 (by omega) (by omega) ?_
              show wp l rho (d + 2) 77 27 [(2, x0), (0, x1), (0, x2), (0, x3), (0, p6_0), (0, p6_1)] [(0, 0)] h6_0 Q
              refine w_ifeq (t := 41) gz_77_27 rfl (fun u9 => ?_) (fun u9 => by exfalso; omega)
              exact J41_0 (p6_0) (v1) h6_0 (gh_6_0) (by omega) (by omega) (by omega) (by omega) (by omega) (by omega) (by omega) (by omega) (by omega) (by omega) (by omega) (by omega) (by omega) (ev1.symm.trans (by omega))
            ·
              refine w_iconst gz_78_40 (by decide) ?_
              refine w_goto (t := 45) gz_78_41 rfl ?_
              refine w_bret gz_78_45 gm_78 (by omega) (by omega) ?_
              show wp l rho (d + 2) 77 27 [(2, x0), (0, x1), (0, x2), (0, x3), (0, p6_0), (0, p6_1)] [(0, 1)] h6_0 Q
              refine w_ifeq (t := 41) gz_77_27 rfl (fun u10 => by exfalso; omega) (fun u10 => ?_)
              refine w_aload_n gz_77_30 rfl ?_
              refine w_iload gz_77_31 rfl ?_
              refine w_iload gz_77_33 rfl ?_
              refine w_iinc (ls' := [(2, x0), (0, x1), (0, x2), (0, x3), (0, (p6_0 + 1)), (0, p6_1)]) gz_77_35 rfl gm_77 rfl rfl rfl ⟨by omega, by omega⟩ ?_
              refine w_inv (k := 0) (as := [(0, p6_0), (0, p6_1)]) (r := []) (x := x0) (ls0 := [(2, x0), (0, p6_1), (0, p6_0)]) gz_77_38 gm_72 rfl t0 rd_8 rfl rfl rfl rfl rfl ?_
              refine w_iload_n gz_72_0 rfl ?_
              refine w_iload_n gz_72_1 rfl ?_
              refine w_iceq (t := 26) gz_72_2 rfl (fun u11 => ?_) (fun u11 => ?_)
              ·
                refine w_vret gz_72_26 gm_72 ?_
                show wp l rho (d + 2) 77 41 [(2, x0), (0, x1), (0, x2), (0, x3), (0, (p6_0 + 1)), (0, p6_1)] [] h6_0 Q
                exact J41_0 ((p6_0 + 1)) (v1) h6_0 (gh_6_0) (by omega) (by omega) (by omega) (by omega) (by omega) (by omega) (by omega) (by omega) (by omega) (by omega) (by omega) (by omega) (by omega) (ev1.symm.trans (by omega))
              ·
                refine w_aload_n gz_72_5 rfl ?_
                refine w_getR gz_72_6 t0 rd_8 rfl (fun v12 ev12 tv12 => ?_)
                have zv12 : v4 = v12 := (ev12.trans ev4.symm).symm
                subst zv12
                refine w_iload_n gz_72_9 rfl ?_
                refine w_bipush gz_72_10 (by decide) ?_
                refine w_imul gz_72_12 ⟨by omega, by omega⟩ ?_
                refine w_aload_n gz_72_13 rfl ?_
                refine w_getR gz_72_14 t0 rd_8 rfl (fun v13 ev13 tv13 => ?_)
                have zv13 : v4 = v13 := (ev13.trans ev4.symm).symm
                subst zv13
                refine w_iload_n gz_72_17 rfl ?_
                refine w_bipush gz_72_18 (by decide) ?_
                refine w_imul gz_72_20 ⟨by omega, by omega⟩ ?_
                refine w_bipush gz_72_21 (by decide) ?_
                refine w_cpG gz_72_23 tv4 rd_42 tv4 rd_42 (by omega) (by omega) (by omega) (by omega) (by omega) rfl (by omega) (fun h14 fh14 => ?_)
                have gh14 : my_fr [(8, 0), (42, -1)] h h14 := my_fr.cp gh_6_0 tv4 fh14 rfl
                refine w_vret gz_72_26 gm_72 ?_
                show wp l rho (d + 2) 77 41 [(2, x0), (0, x1), (0, x2), (0, x3), (0, (p6_0 + 1)), (0, p6_1)] [] h14 Q
                exact J41_0 ((p6_0 + 1)) (v1) h14 (gh14) (by omega) (by omega) (by omega) (by omega) (by omega) (by omega) (by omega) (by omega) (by omega) (by omega) (by omega) (by omega) (by omega) (((my_cp_role fh14 t0 tv4 rfl).trans ev1.symm).trans (by omega))
          ·
            refine w_iload_n gz_78_22 rfl ?_
            refine w_iload_n gz_78_23 rfl ?_
            refine w_icne (t := 31) gz_78_24 rfl (fun u15 => ?_) (fun u15 => ?_)
            ·
              refine w_iconst gz_78_31 (by decide) ?_
              refine w_goto (t := 45) gz_78_32 rfl ?_
              refine w_bret gz_78_45 gm_78 (by omega) (by omega) ?_
              show wp l rho (d + 2) 77 27 [(2, x0), (0, x1), (0, x2), (0, x3), (0, p6_0), (0, p6_1)] [(0, 0)] h6_0 Q
              refine w_ifeq (t := 41) gz_77_27 rfl (fun u16 => ?_) (fun u16 => by exfalso; omega)
              exact J41_0 (p6_0) (v1) h6_0 (gh_6_0) (by omega) (by omega) (by omega) (by omega) (by omega) (by omega) (by omega) (by omega) (by omega) (by omega) (by omega) (by omega) (by omega) (ev1.symm.trans (by omega))
            ·
              refine w_iconst gz_78_27 (by decide) ?_
              refine w_goto (t := 45) gz_78_28 rfl ?_
              refine w_bret gz_78_45 gm_78 (by omega) (by omega) ?_
              show wp l rho (d + 2) 77 27 [(2, x0), (0, x1), (0, x2), (0, x3), (0, p6_0), (0, p6_1)] [(0, 1)] h6_0 Q
              refine w_ifeq (t := 41) gz_77_27 rfl (fun u17 => by exfalso; omega) (fun u17 => ?_)
              refine w_aload_n gz_77_30 rfl ?_
              refine w_iload gz_77_31 rfl ?_
              refine w_iload gz_77_33 rfl ?_
              refine w_iinc (ls' := [(2, x0), (0, x1), (0, x2), (0, x3), (0, (p6_0 + 1)), (0, p6_1)]) gz_77_35 rfl gm_77 rfl rfl rfl ⟨by omega, by omega⟩ ?_
              refine w_inv (k := 0) (as := [(0, p6_0), (0, p6_1)]) (r := []) (x := x0) (ls0 := [(2, x0), (0, p6_1), (0, p6_0)]) gz_77_38 gm_72 rfl t0 rd_8 rfl rfl rfl rfl rfl ?_
              refine w_iload_n gz_72_0 rfl ?_
              refine w_iload_n gz_72_1 rfl ?_
              refine w_iceq (t := 26) gz_72_2 rfl (fun u18 => ?_) (fun u18 => ?_)
              ·
                refine w_vret gz_72_26 gm_72 ?_
                show wp l rho (d + 2) 77 41 [(2, x0), (0, x1), (0, x2), (0, x3), (0, (p6_0 + 1)), (0, p6_1)] [] h6_0 Q
                exact J41_0 ((p6_0 + 1)) (v1) h6_0 (gh_6_0) (by omega) (by omega) (by omega) (by omega) (by omega) (by omega) (by omega) (by omega) (by omega) (by omega) (by omega) (by omega) (by omega) (ev1.symm.trans (by omega))
              ·
                refine w_aload_n gz_72_5 rfl ?_
                refine w_getR gz_72_6 t0 rd_8 rfl (fun v19 ev19 tv19 => ?_)
                have zv19 : v4 = v19 := (ev19.trans ev4.symm).symm
                subst zv19
                refine w_iload_n gz_72_9 rfl ?_
                refine w_bipush gz_72_10 (by decide) ?_
                refine w_imul gz_72_12 ⟨by omega, by omega⟩ ?_
                refine w_aload_n gz_72_13 rfl ?_
                refine w_getR gz_72_14 t0 rd_8 rfl (fun v20 ev20 tv20 => ?_)
                have zv20 : v4 = v20 := (ev20.trans ev4.symm).symm
                subst zv20
                refine w_iload_n gz_72_17 rfl ?_
                refine w_bipush gz_72_18 (by decide) ?_
                refine w_imul gz_72_20 ⟨by omega, by omega⟩ ?_
                refine w_bipush gz_72_21 (by decide) ?_
                refine w_cpG gz_72_23 tv4 rd_42 tv4 rd_42 (by omega) (by omega) (by omega) (by omega) (by omega) rfl (by omega) (fun h21 fh21 => ?_)
                have gh21 : my_fr [(8, 0), (42, -1)] h h21 := my_fr.cp gh_6_0 tv4 fh21 rfl
                refine w_vret gz_72_26 gm_72 ?_
                show wp l rho (d + 2) 77 41 [(2, x0), (0, x1), (0, x2), (0, x3), (0, (p6_0 + 1)), (0, p6_1)] [] h21 Q
                exact J41_0 ((p6_0 + 1)) (v1) h21 (gh21) (by omega) (by omega) (by omega) (by omega) (by omega) (by omega) (by omega) (by omega) (by omega) (by omega) (by omega) (by omega) (by omega) (((my_cp_role fh21 t0 tv4 rfl).trans ev1.symm).trans (by omega))
        ·
          refine w_iload_n gz_78_4 rfl ?_
          refine w_iload_n gz_78_5 rfl ?_
          refine w_icge (t := 13) gz_78_6 rfl (fun u22 => ?_) (fun u22 => ?_)
          ·
            refine w_iconst gz_78_13 (by decide) ?_
            refine w_goto (t := 45) gz_78_14 rfl ?_
            refine w_bret gz_78_45 gm_78 (by omega) (by omega) ?_
            show wp l rho (d + 2) 77 27 [(2, x0), (0, x1), (0, x2), (0, x3), (0, p6_0), (0, p6_1)] [(0, 0)] h6_0 Q
            refine w_ifeq (t := 41) gz_77_27 rfl (fun u23 => ?_) (fun u23 => by exfalso; omega)
            exact J41_0 (p6_0) (v1) h6_0 (gh_6_0) (by omega) (by omega) (by omega) (by omega) (by omega) (by omega) (by omega) (by omega) (by omega) (by omega) (by omega) (by omega) (by omega) (ev1.symm.trans (by omega))
          ·
            refine w_iconst gz_78_9 (by decide) ?_
            refine w_goto (t := 45) gz_78_10 rfl ?_
            refine w_bret gz_78_45 gm_78 (by omega) (by omega) ?_
            show wp l rho (d + 2) 77 27 [(2, x0), (0, x1), (0, x2), (0, x3), (0, p6_0), (0, p6_1)] [(0, 1)] h6_0 Q
            refine w_ifeq (t := 41) gz_77_27 rfl (fun u24 => by exfalso; omega) (fun u24 => ?_)
            refine w_aload_n gz_77_30 rfl ?_
            refine w_iload gz_77_31 rfl ?_
            refine w_iload gz_77_33 rfl ?_
            refine w_iinc (ls' := [(2, x0), (0, x1), (0, x2), (0, x3), (0, (p6_0 + 1)), (0, p6_1)]) gz_77_35 rfl gm_77 rfl rfl rfl ⟨by omega, by omega⟩ ?_
            refine w_inv (k := 0) (as := [(0, p6_0), (0, p6_1)]) (r := []) (x := x0) (ls0 := [(2, x0), (0, p6_1), (0, p6_0)]) gz_77_38 gm_72 rfl t0 rd_8 rfl rfl rfl rfl rfl ?_
            refine w_iload_n gz_72_0 rfl ?_
            refine w_iload_n gz_72_1 rfl ?_
            refine w_iceq (t := 26) gz_72_2 rfl (fun u25 => ?_) (fun u25 => ?_)
            ·
              refine w_vret gz_72_26 gm_72 ?_
              show wp l rho (d + 2) 77 41 [(2, x0), (0, x1), (0, x2), (0, x3), (0, (p6_0 + 1)), (0, p6_1)] [] h6_0 Q
              exact J41_0 ((p6_0 + 1)) (v1) h6_0 (gh_6_0) (by omega) (by omega) (by omega) (by omega) (by omega) (by omega) (by omega) (by omega) (by omega) (by omega) (by omega) (by omega) (by omega) (ev1.symm.trans (by omega))
            ·
              refine w_aload_n gz_72_5 rfl ?_
              refine w_getR gz_72_6 t0 rd_8 rfl (fun v26 ev26 tv26 => ?_)
              have zv26 : v4 = v26 := (ev26.trans ev4.symm).symm
              subst zv26
              refine w_iload_n gz_72_9 rfl ?_
              refine w_bipush gz_72_10 (by decide) ?_
              refine w_imul gz_72_12 ⟨by omega, by omega⟩ ?_
              refine w_aload_n gz_72_13 rfl ?_
              refine w_getR gz_72_14 t0 rd_8 rfl (fun v27 ev27 tv27 => ?_)
              have zv27 : v4 = v27 := (ev27.trans ev4.symm).symm
              subst zv27
              refine w_iload_n gz_72_17 rfl ?_
              refine w_bipush gz_72_18 (by decide) ?_
              refine w_imul gz_72_20 ⟨by omega, by omega⟩ ?_
              refine w_bipush gz_72_21 (by decide) ?_
              refine w_cpG gz_72_23 tv4 rd_42 tv4 rd_42 (by omega) (by omega) (by omega) (by omega) (by omega) rfl (by omega) (fun h28 fh28 => ?_)
              have gh28 : my_fr [(8, 0), (42, -1)] h h28 := my_fr.cp gh_6_0 tv4 fh28 rfl
              refine w_vret gz_72_26 gm_72 ?_
              show wp l rho (d + 2) 77 41 [(2, x0), (0, x1), (0, x2), (0, x3), (0, (p6_0 + 1)), (0, p6_1)] [] h28 Q
              exact J41_0 ((p6_0 + 1)) (v1) h28 (gh28) (by omega) (by omega) (by omega) (by omega) (by omega) (by omega) (by omega) (by omega) (by omega) (by omega) (by omega) (by omega) (by omega) (((my_cp_role fh28 t0 tv4 rfl).trans ev1.symm).trans (by omega))
  refine w_iconst gz_77_0 (by decide) ?_
  refine w_istore (ls' := [(2, x0), (0, x1), (0, x2), (0, x3), (0, 0), (9, 0)]) gz_77_1 gm_77 rfl rfl rfl ?_
  refine w_iconst gz_77_3 (by decide) ?_
  refine w_istore (ls' := [(2, x0), (0, x1), (0, x2), (0, x3), (0, 0), (0, 0)]) gz_77_4 gm_77 rfl rfl rfl ?_
  exact J6_0 12 (0) (0) h (my_fr.rf) (by omega) (by omega) (by omega) (by omega) (by omega) (by omega)
theorem gz_85_0 : mz_pg 85 0 = some (.iload_n 1, 0, 0, 0) := by decide +kernel
theorem gz_85_1 : mz_pg 85 1 = some (.ifCond .lt 19, 0, 0, 0) := by decide +kernel
theorem gz_85_4 : mz_pg 85 4 = some (.iload_n 1, 0, 0, 0) := by decide +kernel
theorem gz_85_5 : mz_pg 85 5 = some (.bipush 8, 0, 0, 0) := by decide +kernel
theorem gz_85_7 : mz_pg 85 7 = some (.if_icmp .ge 13, 0, 0, 0) := by decide +kernel
theorem gz_85_10 : mz_pg 85 10 = some (.iload_n 2, 0, 0, 0) := by decide +kernel
theorem gz_85_11 : mz_pg 85 11 = some (.ifCond .lt 9, 0, 0, 0) := by decide +kernel
theorem gz_85_14 : mz_pg 85 14 = some (.iload_n 2, 0, 0, 0) := by decide +kernel
theorem gz_85_15 : mz_pg 85 15 = some (.bipush 20, 0, 0, 0) := by decide +kernel
theorem gz_85_17 : mz_pg 85 17 = some (.if_icmp .lt 5, 0, 0, 0) := by decide +kernel
theorem gz_85_20 : mz_pg 85 20 = some (.iconst 0, 0, 0, 0) := by decide +kernel
theorem gz_85_21 : mz_pg 85 21 = some (.ireturn, 0, 0, 0) := by decide +kernel
theorem gz_85_22 : mz_pg 85 22 = some (.aload_n 0, 0, 0, 0) := by decide +kernel
theorem gz_85_23 : mz_pg 85 23 = some (.getfield 50, 9, 8, 536) := by decide +kernel
theorem gz_85_26 : mz_pg 85 26 = some (.iload_n 1, 0, 0, 0) := by decide +kernel
theorem gz_85_27 : mz_pg 85 27 = some (.iload_n 2, 0, 0, 0) := by decide +kernel
theorem gz_85_28 : mz_pg 85 28 = some (.iastore, 0, 0, 0) := by decide +kernel
theorem gz_85_29 : mz_pg 85 29 = some (.iconst 1, 0, 0, 0) := by decide +kernel
theorem gz_85_30 : mz_pg 85 30 = some (.ireturn, 0, 0, 0) := by decide +kernel
theorem gm_85 : my_mm 85 3 (some .boolean) 2 9 := by unfold my_mm; decide +kernel
theorem rd_23 : my_rd 23 = .inl (0, 8, [(0, 0, 19)]) := rfl
theorem c49_ThroughWindow_draft {l : Launch} {rho : Nat → Int32} {d : Nat} {h : my_H} {Q : my_H → my_V → Prop} {x0 x1 x2 : Int} (t0 : my_is 9 x0) (k0 : ∀ (h' : my_H), my_fr [(23, -1)] h h' → Q h' (0, 0)) (k1 : ∀ (h' : my_H), my_fr [(23, -1)] h h' → 0 ≤ x1 → x1 ≤ 7 → 0 ≤ x2 → x2 ≤ 19 → Q h' (0, 1)) : wp l rho d 85 0 [(2, x0), (0, x1), (0, x2)] [] h Q := by
  refine w_iload_n gz_85_0 rfl ?_
  refine w_iflt (t := 20) gz_85_1 rfl (fun u1 => ?_) (fun u1 => ?_)
  ·
    refine w_iconst gz_85_20 (by decide) ?_
    exact w_bret gz_85_21 gm_85 (by omega) (by omega) (k0 h (my_fr.rf))
  ·
    refine w_iload_n gz_85_4 rfl ?_
    refine w_bipush gz_85_5 (by decide) ?_
    refine w_icge (t := 20) gz_85_7 rfl (fun u2 => ?_) (fun u2 => ?_)
    ·
      refine w_iconst gz_85_20 (by decide) ?_
      exact w_bret gz_85_21 gm_85 (by omega) (by omega) (k0 h (my_fr.rf))
    ·
      refine w_iload_n gz_85_10 rfl ?_
      refine w_iflt (t := 20) gz_85_11 rfl (fun u3 => ?_) (fun u3 => ?_)
      ·
        refine w_iconst gz_85_20 (by decide) ?_
        exact w_bret gz_85_21 gm_85 (by omega) (by omega) (k0 h (my_fr.rf))
      ·
        refine w_iload_n gz_85_14 rfl ?_
        refine w_bipush gz_85_15 (by decide) ?_
        refine w_iclt (t := 22) gz_85_17 rfl (fun u4 => ?_) (fun u4 => ?_)
        ·
          refine w_aload_n gz_85_22 rfl ?_
          refine w_getR gz_85_23 t0 rd_9 rfl (fun v5 ev5 tv5 => ?_)
          refine w_iload_n gz_85_26 rfl ?_
          refine w_iload_n gz_85_27 rfl ?_
          refine w_iast gz_85_28 tv5 rd_23 (by omega) (by omega) (by omega) (by omega) (fun h6 fh6 => ?_)
          have gh6 : my_fr [(23, -1)] h h6 := my_fr.up my_fr.rf tv5 fh6 rfl
          refine w_iconst gz_85_29 (by decide) ?_
          exact w_bret gz_85_30 gm_85 (by omega) (by omega) (k1 h6 (gh6) (by omega) (by omega) (by omega) (by omega))
        ·
          refine w_iconst gz_85_20 (by decide) ?_
          exact w_bret gz_85_21 gm_85 (by omega) (by omega) (k0 h (my_fr.rf))
theorem gz_94_0 : mz_pg 94 0 = some (.aload_n 0, 0, 0, 0) := by decide +kernel
theorem gz_94_1 : mz_pg 94 1 = some (.getfield 38, 2, 8, 401) := by decide +kernel
theorem gz_94_4 : mz_pg 94 4 = some (.iload_n 1, 0, 0, 0) := by decide +kernel
theorem gz_94_5 : mz_pg 94 5 = some (.putfield 118, 7, 1, 363) := by decide +kernel
theorem gz_94_8 : mz_pg 94 8 = some (.aload_n 0, 0, 0, 0) := by decide +kernel
theorem gz_94_9 : mz_pg 94 9 = some (.getfield 38, 2, 8, 401) := by decide +kernel
theorem gz_94_12 : mz_pg 94 12 = some (.iload_n 2, 0, 0, 0) := by decide +kernel
theorem gz_94_13 : mz_pg 94 13 = some (.putfield 148, 7, 0, 360) := by decide +kernel
theorem gz_94_16 : mz_pg 94 16 = some (.aload_n 0, 0, 0, 0) := by decide +kernel
theorem gz_94_17 : mz_pg 94 17 = some (.getfield 42, 2, 9, 402) := by decide +kernel
theorem gz_94_20 : mz_pg 94 20 = some (.getfield 148, 7, 0, 360) := by decide +kernel
theorem gz_94_23 : mz_pg 94 23 = some (.iconst (-1), 0, 0, 0) := by decide +kernel
theorem gz_94_24 : mz_pg 94 24 = some (.if_icmp .eq 14, 0, 0, 0) := by decide +kernel
theorem gz_94_27 : mz_pg 94 27 = some (.iload_n 2, 0, 0, 0) := by decide +kernel
theorem gz_94_28 : mz_pg 94 28 = some (.aload_n 0, 0, 0, 0) := by decide +kernel
theorem gz_94_29 : mz_pg 94 29 = some (.getfield 42, 2, 9, 402) := by decide +kernel
theorem gz_94_32 : mz_pg 94 32 = some (.getfield 148, 7, 0, 360) := by decide +kernel
theorem gz_94_35 : mz_pg 94 35 = some (.if_icmp .ge 14, 0, 0, 0) := by decide +kernel
theorem gz_94_38 : mz_pg 94 38 = some (.aload_n 0, 0, 0, 0) := by decide +kernel
theorem gz_94_39 : mz_pg 94 39 = some (.getfield 42, 2, 9, 402) := by decide +kernel
theorem gz_94_42 : mz_pg 94 42 = some (.aload_n 0, 0, 0, 0) := by decide +kernel
theorem gz_94_43 : mz_pg 94 43 = some (.getfield 38, 2, 8, 401) := by decide +kernel
theorem gz_94_46 : mz_pg 94 46 = some (.invokevirtual 212, 1, 95, 928) := by decide +kernel
theorem gz_94_49 : mz_pg 94 49 = some (.aload_n 0, 0, 0, 0) := by decide +kernel
theorem gz_94_50 : mz_pg 94 50 = some (.getfield 154, 2, 11, 406) := by decide +kernel
theorem gz_94_53 : mz_pg 94 53 = some (.aload_n 0, 0, 0, 0) := by decide +kernel
theorem gz_94_54 : mz_pg 94 54 = some (.getfield 157, 2, 12, 408) := by decide +kernel
theorem gz_94_57 : mz_pg 94 57 = some (.if_icmp .ne 14, 0, 0, 0) := by decide +kernel
theorem gz_94_60 : mz_pg 94 60 = some (.aload_n 0, 0, 0, 0) := by decide +kernel
theorem gz_94_61 : mz_pg 94 61 = some (.getfield 45, 2, 10, 404) := by decide +kernel
theorem gz_94_64 : mz_pg 94 64 = some (.aload_n 0, 0, 0, 0) := by decide +kernel
theorem gz_94_65 : mz_pg 94 65 = some (.getfield 38, 2, 8, 401) := by decide +kernel
theorem gz_94_68 : mz_pg 94 68 = some (.invokevirtual 212, 1, 95, 928) := by decide +kernel
theorem gz_94_71 : mz_pg 94 71 = some (.aload_n 0, 0, 0, 0) := by decide +kernel
theorem gz_94_72 : mz_pg 94 72 = some (.dup, 0, 0, 0) := by decide +kernel
theorem gz_94_73 : mz_pg 94 73 = some (.getfield 154, 2, 11, 406) := by decide +kernel
theorem gz_94_76 : mz_pg 94 76 = some (.iconst 1, 0, 0, 0) := by decide +kernel
theorem gz_94_77 : mz_pg 94 77 = some (.iadd, 0, 0, 0) := by decide +kernel
theorem gz_94_78 : mz_pg 94 78 = some (.putfield 154, 2, 11, 406) := by decide +kernel
theorem gz_94_81 : mz_pg 94 81 = some (.return_, 0, 0, 0) := by decide +kernel
theorem gz_95_0 : mz_pg 95 0 = some (.aload_n 0, 0, 0, 0) := by decide +kernel
theorem gz_95_1 : mz_pg 95 1 = some (.aload_n 1, 0, 0, 0) := by decide +kernel
theorem gz_95_2 : mz_pg 95 2 = some (.getfield 14, 7, 0, 359) := by decide +kernel
theorem gz_95_5 : mz_pg 95 5 = some (.putfield 14, 7, 0, 359) := by decide +kernel
theorem gz_95_8 : mz_pg 95 8 = some (.aload_n 0, 0, 0, 0) := by decide +kernel
theorem gz_95_9 : mz_pg 95 9 = some (.aload_n 1, 0, 0, 0) := by decide +kernel
theorem gz_95_10 : mz_pg 95 10 = some (.getfield 18, 7, 1, 362) := by decide +kernel
theorem gz_95_13 : mz_pg 95 13 = some (.putfield 18, 7, 1, 362) := by decide +kernel
theorem gz_95_16 : mz_pg 95 16 = some (.aload_n 0, 0, 0, 0) := by decide +kernel
theorem gz_95_17 : mz_pg 95 17 = some (.aload_n 1, 0, 0, 0) := by decide +kernel
theorem gz_95_18 : mz_pg 95 18 = some (.getfield 21, 7, 2, 365) := by decide +kernel
theorem gz_95_21 : mz_pg 95 21 = some (.putfield 21, 7, 2, 365) := by decide +kernel
theorem gz_95_24 : mz_pg 95 24 = some (.aload_n 0, 0, 0, 0) := by decide +kernel
theorem gz_95_25 : mz_pg 95 25 = some (.aload_n 1, 0, 0, 0) := by decide +kernel
theorem gz_95_26 : mz_pg 95 26 = some (.getfield 24, 7, 3, 368) := by decide +kernel
theorem gz_95_29 : mz_pg 95 29 = some (.putfield 24, 7, 3, 368) := by decide +kernel
theorem gz_95_32 : mz_pg 95 32 = some (.aload_n 0, 0, 0, 0) := by decide +kernel
theorem gz_95_33 : mz_pg 95 33 = some (.aload_n 1, 0, 0, 0) := by decide +kernel
theorem gz_95_34 : mz_pg 95 34 = some (.getfield 27, 7, 4, 371) := by decide +kernel
theorem gz_95_37 : mz_pg 95 37 = some (.putfield 27, 7, 4, 371) := by decide +kernel
theorem gz_95_40 : mz_pg 95 40 = some (.aload_n 0, 0, 0, 0) := by decide +kernel
theorem gz_95_41 : mz_pg 95 41 = some (.aload_n 1, 0, 0, 0) := by decide +kernel
theorem gz_95_42 : mz_pg 95 42 = some (.getfield 30, 7, 5, 374) := by decide +kernel
theorem gz_95_45 : mz_pg 95 45 = some (.putfield 30, 7, 5, 374) := by decide +kernel
theorem gz_95_48 : mz_pg 95 48 = some (.return_, 0, 0, 0) := by decide +kernel
theorem gm_94 : my_mm 94 3 none 2 2 := by unfold my_mm; decide +kernel
theorem gm_95 : my_mm 95 2 none 1 7 := by unfold my_mm; decide +kernel
theorem rd_7 : my_rd 7 = .inr (7, [(0, -2147483648, 2147483647), (0, -1, 3), (0, -1, 2), (0, -1, 19), (0, -1, 3), (0, -1, 19)]) := rfl
theorem c50_Desk_keep {l : Launch} {rho : Nat → Int32} {d : Nat} {h : my_H} {Q : my_H → my_V → Prop} {x0 x1 x2 : Int} (t0 : my_is 2 x0) (a1 : 0 ≤ x1) (b1 : x1 ≤ 3) (a2 : 0 ≤ x2) (b2 : x2 ≤ 4) (k0 : ∀ (h' : my_H), my_fr [(2, 11), (7, 0), (7, 1), (7, 2), (7, 3), (7, 4), (7, 5)] h h' → Q h' (9, 0)) : wp l rho (d + 1) 94 0 [(2, x0), (0, x1), (0, x2)] [] h Q := by
  have J71_0 : ∀ (p71_0 p71_1 : Int) (h71_0 : my_H), my_fr [(2, 11), (7, 0), (7, 1), (7, 2), (7, 3), (7, 4), (7, 5)] h h71_0 → h71_0 x0 ((11 : Nat) : Int) = p71_0 → h71_0 x0 ((12 : Nat) : Int) = p71_1 → wp l rho (d + 1) 94 71 [(2, x0), (0, x1), (0, x2)] [] h71_0 Q := by
    intro p71_0 p71_1 h71_0 gh_71_0 c11_71_0 c12_71_0
    refine w_aload_n gz_94_71 rfl ?_
    refine w_dup gz_94_72 rfl ?_
    refine w_getI gz_94_73 t0 rd_2 rfl (fun v1 ev1 pv1 qv1 => ?_)
    have zv1 := ev1.trans c11_71_0
    refine w_iconst gz_94_76 (by decide) ?_
    refine w_ianyA gz_94_77 (fun v2 pv2 qv2 => ?_)
    refine w_putA gz_94_78 t0 rd_2 rfl rfl (fun h3 fh3 => ?_)
    have gh3 : my_fr [(2, 11), (7, 0), (7, 1), (7, 2), (7, 3), (7, 4), (7, 5)] h h3 := my_fr.up gh_71_0 t0 fh3 rfl
    exact w_vret gz_94_81 gm_94 (k0 h3 (gh3))
  have J49_0 : ∀ (h49_0 : my_H), my_fr [(2, 11), (7, 0), (7, 1), (7, 2), (7, 3), (7, 4), (7, 5)] h h49_0 → wp l rho (d + 1) 94 49 [(2, x0), (0, x1), (0, x2)] [] h49_0 Q := by
    intro h49_0 gh_49_0
    refine w_aload_n gz_94_49 rfl ?_
    refine w_getI gz_94_50 t0 rd_2 rfl (fun v4 ev4 pv4 qv4 => ?_)
    refine w_aload_n gz_94_53 rfl ?_
    refine w_getI gz_94_54 t0 rd_2 rfl (fun v5 ev5 pv5 qv5 => ?_)
    refine w_icne (t := 71) gz_94_57 rfl (fun u6 => ?_) (fun u6 => ?_)
    ·
      exact J71_0 (v4) (v5) h49_0 (gh_49_0) (ev4.symm.trans (by omega)) (ev5.symm.trans (by omega))
    ·
      refine w_aload_n gz_94_60 rfl ?_
      refine w_getR gz_94_61 t0 rd_2 rfl (fun v7 ev7 tv7 => ?_)
      refine w_aload_n gz_94_64 rfl ?_
      refine w_getR gz_94_65 t0 rd_2 rfl (fun v8 ev8 tv8 => ?_)
      refine w_inv (k := 0) (as := [(2, v8)]) (r := []) (x := v7) (ls0 := [(2, v7), (2, v8)]) gz_94_68 gm_95 rfl tv7 rd_7 rfl rfl rfl rfl rfl ?_
      refine w_aload_n gz_95_0 rfl ?_
      refine w_aload_n gz_95_1 rfl ?_
      refine w_getI gz_95_2 tv8 rd_7 rfl (fun v9 ev9 pv9 qv9 => ?_)
      refine w_putA gz_95_5 tv7 rd_7 rfl rfl (fun h10 fh10 => ?_)
      have gh10 : my_fr [(2, 11), (7, 0), (7, 1), (7, 2), (7, 3), (7, 4), (7, 5)] h h10 := my_fr.up gh_49_0 tv7 fh10 rfl
      refine w_aload_n gz_95_8 rfl ?_
      refine w_aload_n gz_95_9 rfl ?_
      refine w_getI gz_95_10 tv8 rd_7 rfl (fun v11 ev11 pv11 qv11 => ?_)
      refine w_putI gz_95_13 tv7 rd_7 rfl (by omega) (by omega) rfl (fun h12 fh12 => ?_)
      have gh12 : my_fr [(2, 11), (7, 0), (7, 1), (7, 2), (7, 3), (7, 4), (7, 5)] h h12 := my_fr.up gh10 tv7 fh12 rfl
      refine w_aload_n gz_95_16 rfl ?_
      refine w_aload_n gz_95_17 rfl ?_
      refine w_getI gz_95_18 tv8 rd_7 rfl (fun v13 ev13 pv13 qv13 => ?_)
      refine w_putI gz_95_21 tv7 rd_7 rfl (by omega) (by omega) rfl (fun h14 fh14 => ?_)
      have gh14 : my_fr [(2, 11), (7, 0), (7, 1), (7, 2), (7, 3), (7, 4), (7, 5)] h h14 := my_fr.up gh12 tv7 fh14 rfl
      refine w_aload_n gz_95_24 rfl ?_
      refine w_aload_n gz_95_25 rfl ?_
      refine w_getI gz_95_26 tv8 rd_7 rfl (fun v15 ev15 pv15 qv15 => ?_)
      refine w_putI gz_95_29 tv7 rd_7 rfl (by omega) (by omega) rfl (fun h16 fh16 => ?_)
      have gh16 : my_fr [(2, 11), (7, 0), (7, 1), (7, 2), (7, 3), (7, 4), (7, 5)] h h16 := my_fr.up gh14 tv7 fh16 rfl
      refine w_aload_n gz_95_32 rfl ?_
      refine w_aload_n gz_95_33 rfl ?_
      refine w_getI gz_95_34 tv8 rd_7 rfl (fun v17 ev17 pv17 qv17 => ?_)
      refine w_putI gz_95_37 tv7 rd_7 rfl (by omega) (by omega) rfl (fun h18 fh18 => ?_)
      have gh18 : my_fr [(2, 11), (7, 0), (7, 1), (7, 2), (7, 3), (7, 4), (7, 5)] h h18 := my_fr.up gh16 tv7 fh18 rfl
      refine w_aload_n gz_95_40 rfl ?_
      refine w_aload_n gz_95_41 rfl ?_
      refine w_getI gz_95_42 tv8 rd_7 rfl (fun v19 ev19 pv19 qv19 => ?_)
      refine w_putI gz_95_45 tv7 rd_7 rfl (by omega) (by omega) rfl (fun h20 fh20 => ?_)
      have gh20 : my_fr [(2, 11), (7, 0), (7, 1), (7, 2), (7, 3), (7, 4), (7, 5)] h h20 := my_fr.up gh18 tv7 fh20 rfl
      refine w_vret gz_95_48 gm_95 ?_
      show wp l rho (d + 1) 94 71 [(2, x0), (0, x1), (0, x2)] [] h20 Q
      exact J71_0 (v4) (v5) h20 (gh20) (((my_up_role fh20 t0 tv7 rfl).trans ((my_up_role fh18 t0 tv7 rfl).trans ((my_up_role fh16 t0 tv7 rfl).trans ((my_up_role fh14 t0 tv7 rfl).trans ((my_up_role fh12 t0 tv7 rfl).trans ((my_up_role fh10 t0 tv7 rfl).trans ev4.symm)))))).trans (by omega)) (((my_up_role fh20 t0 tv7 rfl).trans ((my_up_role fh18 t0 tv7 rfl).trans ((my_up_role fh16 t0 tv7 rfl).trans ((my_up_role fh14 t0 tv7 rfl).trans ((my_up_role fh12 t0 tv7 rfl).trans ((my_up_role fh10 t0 tv7 rfl).trans ev5.symm)))))).trans (by omega))
  have J38_0 : ∀ (h38_0 : my_H), my_fr [(2, 11), (7, 0), (7, 1), (7, 2), (7, 3), (7, 4), (7, 5)] h h38_0 → wp l rho (d + 1) 94 38 [(2, x0), (0, x1), (0, x2)] [] h38_0 Q := by
    intro h38_0 gh_38_0
    refine w_aload_n gz_94_38 rfl ?_
    refine w_getR gz_94_39 t0 rd_2 rfl (fun v21 ev21 tv21 => ?_)
    refine w_aload_n gz_94_42 rfl ?_
    refine w_getR gz_94_43 t0 rd_2 rfl (fun v22 ev22 tv22 => ?_)
    refine w_inv (k := 0) (as := [(2, v22)]) (r := []) (x := v21) (ls0 := [(2, v21), (2, v22)]) gz_94_46 gm_95 rfl tv21 rd_7 rfl rfl rfl rfl rfl ?_
    refine w_aload_n gz_95_0 rfl ?_
    refine w_aload_n gz_95_1 rfl ?_
    refine w_getI gz_95_2 tv22 rd_7 rfl (fun v23 ev23 pv23 qv23 => ?_)
    refine w_putA gz_95_5 tv21 rd_7 rfl rfl (fun h24 fh24 => ?_)
    have gh24 : my_fr [(2, 11), (7, 0), (7, 1), (7, 2), (7, 3), (7, 4), (7, 5)] h h24 := my_fr.up gh_38_0 tv21 fh24 rfl
    refine w_aload_n gz_95_8 rfl ?_
    refine w_aload_n gz_95_9 rfl ?_
    refine w_getI gz_95_10 tv22 rd_7 rfl (fun v25 ev25 pv25 qv25 => ?_)
    refine w_putI gz_95_13 tv21 rd_7 rfl (by omega) (by omega) rfl (fun h26 fh26 => ?_)
    have gh26 : my_fr [(2, 11), (7, 0), (7, 1), (7, 2), (7, 3), (7, 4), (7, 5)] h h26 := my_fr.up gh24 tv21 fh26 rfl
    refine w_aload_n gz_95_16 rfl ?_
    refine w_aload_n gz_95_17 rfl ?_
    refine w_getI gz_95_18 tv22 rd_7 rfl (fun v27 ev27 pv27 qv27 => ?_)
    refine w_putI gz_95_21 tv21 rd_7 rfl (by omega) (by omega) rfl (fun h28 fh28 => ?_)
    have gh28 : my_fr [(2, 11), (7, 0), (7, 1), (7, 2), (7, 3), (7, 4), (7, 5)] h h28 := my_fr.up gh26 tv21 fh28 rfl
    refine w_aload_n gz_95_24 rfl ?_
    refine w_aload_n gz_95_25 rfl ?_
    refine w_getI gz_95_26 tv22 rd_7 rfl (fun v29 ev29 pv29 qv29 => ?_)
    refine w_putI gz_95_29 tv21 rd_7 rfl (by omega) (by omega) rfl (fun h30 fh30 => ?_)
    have gh30 : my_fr [(2, 11), (7, 0), (7, 1), (7, 2), (7, 3), (7, 4), (7, 5)] h h30 := my_fr.up gh28 tv21 fh30 rfl
    refine w_aload_n gz_95_32 rfl ?_
    refine w_aload_n gz_95_33 rfl ?_
    refine w_getI gz_95_34 tv22 rd_7 rfl (fun v31 ev31 pv31 qv31 => ?_)
    refine w_putI gz_95_37 tv21 rd_7 rfl (by omega) (by omega) rfl (fun h32 fh32 => ?_)
    have gh32 : my_fr [(2, 11), (7, 0), (7, 1), (7, 2), (7, 3), (7, 4), (7, 5)] h h32 := my_fr.up gh30 tv21 fh32 rfl
    refine w_aload_n gz_95_40 rfl ?_
    refine w_aload_n gz_95_41 rfl ?_
    refine w_getI gz_95_42 tv22 rd_7 rfl (fun v33 ev33 pv33 qv33 => ?_)
    refine w_putI gz_95_45 tv21 rd_7 rfl (by omega) (by omega) rfl (fun h34 fh34 => ?_)
    have gh34 : my_fr [(2, 11), (7, 0), (7, 1), (7, 2), (7, 3), (7, 4), (7, 5)] h h34 := my_fr.up gh32 tv21 fh34 rfl
    refine w_vret gz_95_48 gm_95 ?_
    show wp l rho (d + 1) 94 49 [(2, x0), (0, x1), (0, x2)] [] h34 Q
    exact J49_0 h34 (gh34)
  refine w_aload_n gz_94_0 rfl ?_
  refine w_getR gz_94_1 t0 rd_2 rfl (fun v35 ev35 tv35 => ?_)
  refine w_iload_n gz_94_4 rfl ?_
  refine w_putI gz_94_5 tv35 rd_7 rfl (by omega) (by omega) rfl (fun h36 fh36 => ?_)
  have gh36 : my_fr [(2, 11), (7, 0), (7, 1), (7, 2), (7, 3), (7, 4), (7, 5)] h h36 := my_fr.up my_fr.rf tv35 fh36 rfl
  refine w_aload_n gz_94_8 rfl ?_
  refine w_getR gz_94_9 t0 rd_2 rfl (fun v37 ev37 tv37 => ?_)
  have zv37 : v35 = v37 := (ev37.trans ((my_up_role fh36 t0 tv35 rfl).trans ev35.symm)).symm
  subst zv37
  refine w_iload_n gz_94_12 rfl ?_
  refine w_putA gz_94_13 tv35 rd_7 rfl rfl (fun h38 fh38 => ?_)
  have gh38 : my_fr [(2, 11), (7, 0), (7, 1), (7, 2), (7, 3), (7, 4), (7, 5)] h h38 := my_fr.up gh36 tv35 fh38 rfl
  refine w_aload_n gz_94_16 rfl ?_
  refine w_getR gz_94_17 t0 rd_2 rfl (fun v39 ev39 tv39 => ?_)
  refine w_getI gz_94_20 tv39 rd_7 rfl (fun v40 ev40 pv40 qv40 => ?_)
  refine w_iconst gz_94_23 (by decide) ?_
  refine w_iceq (t := 38) gz_94_24 rfl (fun u41 => ?_) (fun u41 => ?_)
  ·
    exact J38_0 h38 (gh38)
  ·
    refine w_iload_n gz_94_27 rfl ?_
    refine w_aload_n gz_94_28 rfl ?_
    refine w_getR gz_94_29 t0 rd_2 rfl (fun v42 ev42 tv42 => ?_)
    have zv42 : v39 = v42 := (ev42.trans ev39.symm).symm
    subst zv42
    refine w_getI gz_94_32 tv39 rd_7 rfl (fun v43 ev43 pv43 qv43 => ?_)
    have zv43 := ev43.trans ev40.symm
    refine w_icge (t := 49) gz_94_35 rfl (fun u44 => ?_) (fun u44 => ?_)
    ·
      exact J49_0 h38 (gh38)
    ·
      exact J38_0 h38 (gh38)
theorem gz_75_0 : mz_pg 75 0 = some (.aload_n 0, 0, 0, 0) := by decide +kernel
theorem gz_75_1 : mz_pg 75 1 = some (.getfield 11, 8, 2, 333) := by decide +kernel
theorem gz_75_4 : mz_pg 75 4 = some (.iload_n 1, 0, 0, 0) := by decide +kernel
theorem gz_75_5 : mz_pg 75 5 = some (.bipush 17, 0, 0, 0) := by decide +kernel
theorem gz_75_7 : mz_pg 75 7 = some (.imul, 0, 0, 0) := by decide +kernel
theorem gz_75_8 : mz_pg 75 8 = some (.bipush 16, 0, 0, 0) := by decide +kernel
theorem gz_75_10 : mz_pg 75 10 = some (.iadd, 0, 0, 0) := by decide +kernel
theorem gz_75_11 : mz_pg 75 11 = some (.iaload, 0, 0, 0) := by decide +kernel
theorem gz_75_12 : mz_pg 75 12 = some (.ireturn, 0, 0, 0) := by decide +kernel
theorem gz_97_0 : mz_pg 97 0 = some (.iconst 0, 0, 0, 0) := by decide +kernel
theorem gz_97_1 : mz_pg 97 1 = some (.istore_n 2, 0, 0, 0) := by decide +kernel
theorem gz_97_2 : mz_pg 97 2 = some (.iload_n 2, 0, 0, 0) := by decide +kernel
theorem gz_97_3 : mz_pg 97 3 = some (.aload_n 0, 0, 0, 0) := by decide +kernel
theorem gz_97_4 : mz_pg 97 4 = some (.getfield 22, 8, 0, 327) := by decide +kernel
theorem gz_97_7 : mz_pg 97 7 = some (.if_icmp .ge 20, 0, 0, 0) := by decide +kernel
theorem gz_97_10 : mz_pg 97 10 = some (.aload_n 0, 0, 0, 0) := by decide +kernel
theorem gz_97_11 : mz_pg 97 11 = some (.iload_n 2, 0, 0, 0) := by decide +kernel
theorem gz_97_12 : mz_pg 97 12 = some (.invokevirtual 116, 1, 75, 848) := by decide +kernel
theorem gz_97_15 : mz_pg 97 15 = some (.iload_n 1, 0, 0, 0) := by decide +kernel
theorem gz_97_16 : mz_pg 97 16 = some (.if_icmp .ne 5, 0, 0, 0) := by decide +kernel
theorem gz_97_19 : mz_pg 97 19 = some (.iload_n 2, 0, 0, 0) := by decide +kernel
theorem gz_97_20 : mz_pg 97 20 = some (.ireturn, 0, 0, 0) := by decide +kernel
theorem gz_97_21 : mz_pg 97 21 = some (.iinc 2 1, 0, 0, 0) := by decide +kernel
theorem gz_97_24 : mz_pg 97 24 = some (.goto (-22), 0, 0, 0) := by decide +kernel
theorem gz_97_27 : mz_pg 97 27 = some (.iconst (-1), 0, 0, 0) := by decide +kernel
theorem gz_97_28 : mz_pg 97 28 = some (.ireturn, 0, 0, 0) := by decide +kernel
theorem gm_75 : my_mm 75 2 (some .int) 1 8 := by unfold my_mm; decide +kernel
theorem gm_97 : my_mm 97 3 (some .int) 1 8 := by unfold my_mm; decide +kernel
theorem c51_View_rowOf {l : Launch} {rho : Nat → Int32} {d : Nat} {h : my_H} {Q : my_H → my_V → Prop} {x0 x1 : Int} (t0 : my_is 8 x0) (a1 : 0 ≤ x1) (b1 : x1 ≤ 19) (k0 : Q h (0, (-1))) (k1 : ∀ (y : Int), 0 ≤ y → y ≤ 10 → 1 ≤ h x0 ((0 : Nat) : Int) → h x0 ((0 : Nat) : Int) ≤ 11 → Q h (0, y)) : wp l rho (d + 1) 97 0 [(2, x0), (0, x1), (9, 0)] [] h Q := by
  have J2_0 : ∀ (n : Nat) (p2_0 : Int), 0 ≤ p2_0 → p2_0 ≤ 11 → 12 - p2_0 ≤ (n : Int) → wp l rho (d + 1) 97 2 [(2, x0), (0, x1), (0, p2_0)] [] h Q := by
    intro n
    induction n with
    | zero => intro p2_0 q0_2_0 q1_2_0 hm_2_0; exfalso; omega
    | succ n ih_2_0 =>
      intro p2_0 q0_2_0 q1_2_0 hm_2_0
      refine w_iload_n gz_97_2 rfl ?_
      refine w_aload_n gz_97_3 rfl ?_
      refine w_getI gz_97_4 t0 rd_8 rfl (fun v1 ev1 pv1 qv1 => ?_)
      refine w_icge (t := 27) gz_97_7 rfl (fun u2 => ?_) (fun u2 => ?_)
      ·
        refine w_iconst gz_97_27 (by decide) ?_
        exact w_iret gz_97_28 gm_97 (k0 )
      ·
        refine w_aload_n gz_97_10 rfl ?_
        refine w_iload_n gz_97_11 rfl ?_
        refine w_inv (k := 0) (as := [(0, p2_0)]) (r := []) (x := x0) (ls0 := [(2, x0), (0, p2_0)]) gz_97_12 gm_75 rfl t0 rd_8 rfl rfl rfl rfl rfl ?_
        refine w_aload_n gz_75_0 rfl ?_
        refine w_getR gz_75_1 t0 rd_8 rfl (fun v3 ev3 tv3 => ?_)
        refine w_iload_n gz_75_4 rfl ?_
        refine w_bipush gz_75_5 (by decide) ?_
        refine w_imul gz_75_7 ⟨by omega, by omega⟩ ?_
        refine w_bipush gz_75_8 (by decide) ?_
        refine w_iadd gz_75_10 ⟨by omega, by omega⟩ ?_
        refine w_gldT gz_75_11 tv3 rd_42 (by omega) (by omega) (by omega) (fun v4 ev4 pv4 qv4 => ?_)
        refine w_iret gz_75_12 gm_75 ?_
        show wp l rho (d + 1) 97 15 [(2, x0), (0, x1), (0, p2_0)] [(0, v4)] h Q
        refine w_iload_n gz_97_15 rfl ?_
        refine w_icne (t := 21) gz_97_16 rfl (fun u5 => ?_) (fun u5 => ?_)
        ·
          refine w_iinc (ls' := [(2, x0), (0, x1), (0, (p2_0 + 1))]) gz_97_21 rfl gm_97 rfl rfl rfl ⟨by omega, by omega⟩ ?_
          refine w_goto (t := 2) gz_97_24 rfl ?_
          exact ih_2_0 ((p2_0 + 1)) (by omega) (by omega) (by omega)
        ·
          refine w_iload_n gz_97_19 rfl ?_
          have c6 := ev1.symm
          exact w_iret gz_97_20 gm_97 (k1 (p2_0) (by omega) (by omega) (by omega) (by omega))
  refine w_iconst gz_97_0 (by decide) ?_
  refine w_istore_n (ls' := [(2, x0), (0, x1), (0, 0)]) gz_97_1 gm_97 rfl rfl rfl ?_
  exact J2_0 12 (0) (by omega) (by omega) (by omega)
theorem gz_99_0 : mz_pg 99 0 = some (.aload_n 0, 0, 0, 0) := by decide +kernel
theorem gz_99_1 : mz_pg 99 1 = some (.getfield 59, 4, 8, 218) := by decide +kernel
theorem gz_99_4 : mz_pg 99 4 = some (.istore_n 1, 0, 0, 0) := by decide +kernel
theorem gz_99_5 : mz_pg 99 5 = some (.iconst 0, 0, 0, 0) := by decide +kernel
theorem gz_99_6 : mz_pg 99 6 = some (.istore_n 2, 0, 0, 0) := by decide +kernel
theorem gz_99_7 : mz_pg 99 7 = some (.iload_n 2, 0, 0, 0) := by decide +kernel
theorem gz_99_8 : mz_pg 99 8 = some (.aload_n 0, 0, 0, 0) := by decide +kernel
theorem gz_99_9 : mz_pg 99 9 = some (.getfield 46, 4, 4, 208) := by decide +kernel
theorem gz_99_12 : mz_pg 99 12 = some (.if_icmp .ge 33, 0, 0, 0) := by decide +kernel
theorem gz_99_15 : mz_pg 99 15 = some (.aload_n 0, 0, 0, 0) := by decide +kernel
theorem gz_99_16 : mz_pg 99 16 = some (.getfield 27, 4, 15, 232) := by decide +kernel
theorem gz_99_19 : mz_pg 99 19 = some (.iload_n 2, 0, 0, 0) := by decide +kernel
theorem gz_99_20 : mz_pg 99 20 = some (.iaload, 0, 0, 0) := by decide +kernel
theorem gz_99_21 : mz_pg 99 21 = some (.iconst (-1), 0, 0, 0) := by decide +kernel
theorem gz_99_22 : mz_pg 99 22 = some (.if_icmp .eq 17, 0, 0, 0) := by decide +kernel
theorem gz_99_25 : mz_pg 99 25 = some (.iload_n 1, 0, 0, 0) := by decide +kernel
theorem gz_99_26 : mz_pg 99 26 = some (.iconst 1, 0, 0, 0) := by decide +kernel
theorem gz_99_27 : mz_pg 99 27 = some (.aload_n 0, 0, 0, 0) := by decide +kernel
theorem gz_99_28 : mz_pg 99 28 = some (.getfield 27, 4, 15, 232) := by decide +kernel
theorem gz_99_31 : mz_pg 99 31 = some (.iload_n 2, 0, 0, 0) := by decide +kernel
theorem gz_99_32 : mz_pg 99 32 = some (.iaload, 0, 0, 0) := by decide +kernel
theorem gz_99_33 : mz_pg 99 33 = some (.bipush 16, 0, 0, 0) := by decide +kernel
theorem gz_99_35 : mz_pg 99 35 = some (.irem, 0, 0, 0) := by decide +kernel
theorem gz_99_36 : mz_pg 99 36 = some (.ishl, 0, 0, 0) := by decide +kernel
theorem gz_99_37 : mz_pg 99 37 = some (.ior, 0, 0, 0) := by decide +kernel
theorem gz_99_38 : mz_pg 99 38 = some (.istore_n 1, 0, 0, 0) := by decide +kernel
theorem gz_99_39 : mz_pg 99 39 = some (.iinc 2 1, 0, 0, 0) := by decide +kernel
theorem gz_99_42 : mz_pg 99 42 = some (.goto (-35), 0, 0, 0) := by decide +kernel
theorem gz_99_45 : mz_pg 99 45 = some (.iload_n 1, 0, 0, 0) := by decide +kernel
theorem gz_99_46 : mz_pg 99 46 = some (.ireturn, 0, 0, 0) := by decide +kernel
theorem gm_99 : my_mm 99 3 (some .int) 0 4 := by unfold my_mm; decide +kernel
theorem c52_Lens_liveColumns {l : Launch} {rho : Nat → Int32} {d : Nat} {h : my_H} {Q : my_H → my_V → Prop} {x0 : Int} (t0 : my_is 4 x0) (k0 : ∀ (y : Int), Q h (0, y)) : wp l rho d 99 0 [(2, x0), (9, 0), (9, 0)] [] h Q := by
  have J7_0 : ∀ (n : Nat) (p7_0 p7_1 p7_2 : Int), 0 ≤ p7_1 → p7_1 ≤ 8 → h x0 ((8 : Nat) : Int) = p7_2 → 9 - p7_1 ≤ (n : Int) → wp l rho d 99 7 [(2, x0), (0, p7_0), (0, p7_1)] [] h Q := by
    intro n
    induction n with
    | zero => intro p7_0 p7_1 p7_2 q0_7_0 q1_7_0 c8_7_0 hm_7_0; exfalso; omega
    | succ n ih_7_0 =>
      intro p7_0 p7_1 p7_2 q0_7_0 q1_7_0 c8_7_0 hm_7_0
      have J39_0 : ∀ (p39_0 p39_1 : Int), p7_1 ≤ 7 → 1 ≤ p39_1 → p39_1 ≤ 8 → p7_1 ≤ (p39_1 - 1) → h x0 ((4 : Nat) : Int) = p39_1 → h x0 ((8 : Nat) : Int) = p7_2 → wp l rho d 99 39 [(2, x0), (0, p39_0), (0, p7_1)] [] h Q := by
        intro p39_0 p39_1 q0_39_0 q1_39_0 q2_39_0 q3_39_0 c4_39_0 c8_39_0
        refine w_iinc (ls' := [(2, x0), (0, p39_0), (0, (p7_1 + 1))]) gz_99_39 rfl gm_99 rfl rfl rfl ⟨by omega, by omega⟩ ?_
        refine w_goto (t := 7) gz_99_42 rfl ?_
        exact ih_7_0 (p39_0) ((p7_1 + 1)) (p7_2) (by omega) (by omega) (c8_39_0.trans (by omega)) (by omega)
      refine w_iload_n gz_99_7 rfl ?_
      refine w_aload_n gz_99_8 rfl ?_
      refine w_getI gz_99_9 t0 rd_4 rfl (fun v1 ev1 pv1 qv1 => ?_)
      refine w_icge (t := 45) gz_99_12 rfl (fun u2 => ?_) (fun u2 => ?_)
      ·
        refine w_iload_n gz_99_45 rfl ?_
        exact w_iret gz_99_46 gm_99 (k0 (p7_0))
      ·
        refine w_aload_n gz_99_15 rfl ?_
        refine w_getR gz_99_16 t0 rd_4 rfl (fun v3 ev3 tv3 => ?_)
        refine w_iload_n gz_99_19 rfl ?_
        refine w_iald gz_99_20 tv3 rd_37 (by omega) (by omega) (fun v4 ev4 pv4 qv4 => ?_)
        refine w_iconst gz_99_21 (by decide) ?_
        refine w_iceq (t := 39) gz_99_22 rfl (fun u5 => ?_) (fun u5 => ?_)
        ·
          exact J39_0 (p7_0) (v1) (by omega) (by omega) (by omega) (by omega) (ev1.symm.trans (by omega)) (c8_7_0.trans (by omega))
        ·
          refine w_iload_n gz_99_25 rfl ?_
          refine w_iconst gz_99_26 (by decide) ?_
          refine w_aload_n gz_99_27 rfl ?_
          refine w_getR gz_99_28 t0 rd_4 rfl (fun v6 ev6 tv6 => ?_)
          have zv6 : v3 = v6 := (ev6.trans ev3.symm).symm
          subst zv6
          refine w_iload_n gz_99_31 rfl ?_
          refine w_iald gz_99_32 tv3 rd_37 (by omega) (by omega) (fun v7 ev7 pv7 qv7 => ?_)
          have zv7 := ev7.trans ev4.symm
          refine w_bipush gz_99_33 (by decide) ?_
          refine w_irem gz_99_35 (by omega) (by decide) ?_
          refine w_ianyL gz_99_36 (fun v8 pv8 qv8 => ?_)
          refine w_ianyO gz_99_37 (fun v9 pv9 qv9 => ?_)
          refine w_istore_n (ls' := [(2, x0), (0, v9), (0, p7_1)]) gz_99_38 gm_99 rfl rfl rfl ?_
          exact J39_0 (v9) (v1) (by omega) (by omega) (by omega) (by omega) (ev1.symm.trans (by omega)) (c8_7_0.trans (by omega))
  refine w_aload_n gz_99_0 rfl ?_
  refine w_getI gz_99_1 t0 rd_4 rfl (fun v10 ev10 pv10 qv10 => ?_)
  refine w_istore_n (ls' := [(2, x0), (0, v10), (9, 0)]) gz_99_4 gm_99 rfl rfl rfl ?_
  refine w_iconst gz_99_5 (by decide) ?_
  refine w_istore_n (ls' := [(2, x0), (0, v10), (0, 0)]) gz_99_6 gm_99 rfl rfl rfl ?_
  exact J7_0 9 (v10) (0) (v10) (by omega) (by omega) (ev10.symm.trans (by omega)) (by omega)
theorem gz_16_0 : mz_pg 16 0 = some (.aload_n 2, 0, 0, 0) := by decide +kernel
theorem gz_16_1 : mz_pg 16 1 = some (.iconst 0, 0, 0, 0) := by decide +kernel
theorem gz_16_2 : mz_pg 16 2 = some (.aload_n 0, 0, 0, 0) := by decide +kernel
theorem gz_16_3 : mz_pg 16 3 = some (.getfield 9, 6, 0, 176) := by decide +kernel
theorem gz_16_6 : mz_pg 16 6 = some (.iload_n 1, 0, 0, 0) := by decide +kernel
theorem gz_16_7 : mz_pg 16 7 = some (.aload_n 2, 0, 0, 0) := by decide +kernel
theorem gz_16_8 : mz_pg 16 8 = some (.iconst 0, 0, 0, 0) := by decide +kernel
theorem gz_16_9 : mz_pg 16 9 = some (.iaload, 0, 0, 0) := by decide +kernel
theorem gz_16_10 : mz_pg 16 10 = some (.invokestatic 18, 2, 17, 4) := by decide +kernel
theorem gz_16_13 : mz_pg 16 13 = some (.iconst 4, 0, 0, 0) := by decide +kernel
theorem gz_16_14 : mz_pg 16 14 = some (.invokestatic 22, 0, 0, 596) := by decide +kernel
theorem gz_16_17 : mz_pg 16 17 = some (.aload_n 0, 0, 0, 0) := by decide +kernel
theorem gz_16_18 : mz_pg 16 18 = some (.getfield 15, 6, 1, 182) := by decide +kernel
theorem gz_16_21 : mz_pg 16 21 = some (.iload_n 1, 0, 0, 0) := by decide +kernel
theorem gz_16_22 : mz_pg 16 22 = some (.dup2, 0, 0, 0) := by decide +kernel
theorem gz_16_23 : mz_pg 16 23 = some (.iaload, 0, 0, 0) := by decide +kernel
theorem gz_16_24 : mz_pg 16 24 = some (.iconst 1, 0, 0, 0) := by decide +kernel
theorem gz_16_25 : mz_pg 16 25 = some (.iadd, 0, 0, 0) := by decide +kernel
theorem gz_16_26 : mz_pg 16 26 = some (.iastore, 0, 0, 0) := by decide +kernel
theorem gz_16_27 : mz_pg 16 27 = some (.return_, 0, 0, 0) := by decide +kernel
theorem gz_106_0 : mz_pg 106 0 = some (.iconst 0, 0, 0, 0) := by decide +kernel
theorem gz_106_1 : mz_pg 106 1 = some (.istore_n 2, 0, 0, 0) := by decide +kernel
theorem gz_106_2 : mz_pg 106 2 = some (.iload_n 2, 0, 0, 0) := by decide +kernel
theorem gz_106_3 : mz_pg 106 3 = some (.iconst 4, 0, 0, 0) := by decide +kernel
theorem gz_106_4 : mz_pg 106 4 = some (.if_icmp .ge 41, 0, 0, 0) := by decide +kernel
theorem gz_106_7 : mz_pg 106 7 = some (.aload_n 1, 0, 0, 0) := by decide +kernel
theorem gz_106_8 : mz_pg 106 8 = some (.iload_n 2, 0, 0, 0) := by decide +kernel
theorem gz_106_9 : mz_pg 106 9 = some (.invokevirtual 253, 1, 107, 974) := by decide +kernel
theorem gz_106_12 : mz_pg 106 12 = some (.istore_n 3, 0, 0, 0) := by decide +kernel
theorem gz_106_13 : mz_pg 106 13 = some (.aload_n 0, 0, 0, 0) := by decide +kernel
theorem gz_106_14 : mz_pg 106 14 = some (.getfield 31, 2, 7, 400) := by decide +kernel
theorem gz_106_17 : mz_pg 106 17 = some (.iload_n 2, 0, 0, 0) := by decide +kernel
theorem gz_106_18 : mz_pg 106 18 = some (.iload_n 3, 0, 0, 0) := by decide +kernel
theorem gz_106_19 : mz_pg 106 19 = some (.iconst (-1), 0, 0, 0) := by decide +kernel
theorem gz_106_20 : mz_pg 106 20 = some (.if_icmp .eq 12, 0, 0, 0) := by decide +kernel
theorem gz_106_23 : mz_pg 106 23 = some (.aload_n 0, 0, 0, 0) := by decide +kernel
theorem gz_106_24 : mz_pg 106 24 = some (.getfield 56, 2, 2, 392) := by decide +kernel
theorem gz_106_27 : mz_pg 106 27 = some (.iload_n 3, 0, 0, 0) := by decide +kernel
theorem gz_106_28 : mz_pg 106 28 = some (.iaload, 0, 0, 0) := by decide +kernel
theorem gz_106_29 : mz_pg 106 29 = some (.goto 9, 0, 0, 0) := by decide +kernel
theorem gz_106_32 : mz_pg 106 32 = some (.aload_n 1, 0, 0, 0) := by decide +kernel
theorem gz_106_33 : mz_pg 106 33 = some (.getfield 256, 4, 16, 235) := by decide +kernel
theorem gz_106_36 : mz_pg 106 36 = some (.iload_n 2, 0, 0, 0) := by decide +kernel
theorem gz_106_37 : mz_pg 106 37 = some (.iaload, 0, 0, 0) := by decide +kernel
theorem gz_106_38 : mz_pg 106 38 = some (.iastore, 0, 0, 0) := by decide +kernel
theorem gz_106_39 : mz_pg 106 39 = some (.iinc 2 1, 0, 0, 0) := by decide +kernel
theorem gz_106_42 : mz_pg 106 42 = some (.goto (-40), 0, 0, 0) := by decide +kernel
theorem gz_106_45 : mz_pg 106 45 = some (.aload_n 0, 0, 0, 0) := by decide +kernel
theorem gz_106_46 : mz_pg 106 46 = some (.getfield 12, 2, 3, 393) := by decide +kernel
theorem gz_106_49 : mz_pg 106 49 = some (.getfield 259, 6, 1, 184) := by decide +kernel
theorem gz_106_52 : mz_pg 106 52 = some (.aload_n 1, 0, 0, 0) := by decide +kernel
theorem gz_106_53 : mz_pg 106 53 = some (.getfield 196, 4, 2, 203) := by decide +kernel
theorem gz_106_56 : mz_pg 106 56 = some (.iaload, 0, 0, 0) := by decide +kernel
theorem gz_106_57 : mz_pg 106 57 = some (.bipush 10, 0, 0, 0) := by decide +kernel
theorem gz_106_59 : mz_pg 106 59 = some (.if_icmp .ge 23, 0, 0, 0) := by decide +kernel
theorem gz_106_62 : mz_pg 106 62 = some (.aload_n 0, 0, 0, 0) := by decide +kernel
theorem gz_106_63 : mz_pg 106 63 = some (.getfield 12, 2, 3, 393) := by decide +kernel
theorem gz_106_66 : mz_pg 106 66 = some (.aload_n 1, 0, 0, 0) := by decide +kernel
theorem gz_106_67 : mz_pg 106 67 = some (.getfield 196, 4, 2, 203) := by decide +kernel
theorem gz_106_70 : mz_pg 106 70 = some (.aload_n 0, 0, 0, 0) := by decide +kernel
theorem gz_106_71 : mz_pg 106 71 = some (.getfield 31, 2, 7, 400) := by decide +kernel
theorem gz_106_74 : mz_pg 106 74 = some (.iconst 0, 0, 0, 0) := by decide +kernel
theorem gz_106_75 : mz_pg 106 75 = some (.iaload, 0, 0, 0) := by decide +kernel
theorem gz_106_76 : mz_pg 106 76 = some (.invokevirtual 199, 1, 15, 937) := by decide +kernel
theorem gz_106_79 : mz_pg 106 79 = some (.ifCond .eq 5, 0, 0, 0) := by decide +kernel
theorem gz_106_82 : mz_pg 106 82 = some (.iconst 0, 0, 0, 0) := by decide +kernel
theorem gz_106_83 : mz_pg 106 83 = some (.ireturn, 0, 0, 0) := by decide +kernel
theorem gz_106_84 : mz_pg 106 84 = some (.aload_n 0, 0, 0, 0) := by decide +kernel
theorem gz_106_85 : mz_pg 106 85 = some (.getfield 12, 2, 3, 393) := by decide +kernel
theorem gz_106_88 : mz_pg 106 88 = some (.aload_n 1, 0, 0, 0) := by decide +kernel
theorem gz_106_89 : mz_pg 106 89 = some (.getfield 196, 4, 2, 203) := by decide +kernel
theorem gz_106_92 : mz_pg 106 92 = some (.aload_n 0, 0, 0, 0) := by decide +kernel
theorem gz_106_93 : mz_pg 106 93 = some (.getfield 31, 2, 7, 400) := by decide +kernel
theorem gz_106_96 : mz_pg 106 96 = some (.invokevirtual 144, 1, 16, 978) := by decide +kernel
theorem gz_106_99 : mz_pg 106 99 = some (.iconst 1, 0, 0, 0) := by decide +kernel
theorem gz_106_100 : mz_pg 106 100 = some (.ireturn, 0, 0, 0) := by decide +kernel
theorem gm_16 : my_mm 16 3 none 2 6 := by unfold my_mm; decide +kernel
theorem gm_106 : my_mm 106 4 (some .boolean) 1 2 := by unfold my_mm; decide +kernel
theorem rd_31 : my_rd 31 = .inl (0, 3, [(0, -2147483648, 2147483647)]) := rfl
theorem rd_41 : my_rd 41 = .inl (0, 4, [(0, 0, 19)]) := rfl
theorem c53_Desk_rowComes {l : Launch} {rho : Nat → Int32} {d : Nat} {h : my_H} {Q : my_H → my_V → Prop} {x0 x1 : Int} (t0 : my_is 2 x0) (t1 : my_is 4 x1) (k0 : ∀ (h' : my_H), my_fr [(30, -1), (31, -1), (41, -1)] h h' → Q h' (0, 0)) (k1 : ∀ (h' : my_H), my_fr [(30, -1), (31, -1), (41, -1)] h h' → Q h' (0, 1)) : wp l rho (d + 2) 106 0 [(2, x0), (2, x1), (9, 0), (9, 0)] [] h Q := by
  have J2_0 : ∀ (n : Nat) (p2_0 : Int) (h2_0 : my_H), my_fr [(30, -1), (31, -1), (41, -1)] h h2_0 → 0 ≤ p2_0 → p2_0 ≤ 4 → 5 - p2_0 ≤ (n : Int) → wp l rho (d + 2) 106 2 [(2, x0), (2, x1), (0, p2_0), (9, 0)] [] h2_0 Q := by
    intro n
    induction n with
    | zero => intro p2_0 h2_0 gh_2_0 q0_2_0 q1_2_0 hm_2_0; exfalso; omega
    | succ n ih_2_0 =>
      intro p2_0 h2_0 gh_2_0 q0_2_0 q1_2_0 hm_2_0
      have J38_0 : ∀ (p38_0 r38_1 p38_2 : Int) (h38_0 : my_H), my_fr [(30, -1), (31, -1), (41, -1)] h h38_0 → my_is 41 r38_1 → p2_0 ≤ 3 → (-1) ≤ p38_0 → p38_0 ≤ 7 → 0 ≤ p38_2 → p38_2 ≤ 19 → wp l rho (d + 2) 106 38 [(2, x0), (2, x1), (0, p2_0), (0, p38_0)] [(0, p38_2), (0, p2_0), (2, r38_1)] h38_0 Q := by
        intro p38_0 r38_1 p38_2 h38_0 gh_38_0 tr38_1_38_0 q0_38_0 q1_38_0 q2_38_0 q3_38_0 q4_38_0
        refine w_iast gz_106_38 tr38_1_38_0 rd_41 (by omega) (by omega) (by omega) (by omega) (fun h1 fh1 => ?_)
        have gh1 : my_fr [(30, -1), (31, -1), (41, -1)] h h1 := my_fr.up gh_38_0 tr38_1_38_0 fh1 rfl
        refine w_iinc (ls' := [(2, x0), (2, x1), (0, (p2_0 + 1)), (0, p38_0)]) gz_106_39 rfl gm_106 rfl rfl rfl ⟨by omega, by omega⟩ ?_
        refine w_goto (t := 2) gz_106_42 rfl ?_
        refine w_weak (ls' := [(2, x0), (2, x1), (0, (p2_0 + 1)), (9, 0)]) (wk_e (wk_e (wk_e (wk_9 wk_n)))) ?_
        exact ih_2_0 ((p2_0 + 1)) h1 (gh1) (by omega) (by omega) (by omega)
      refine w_iload_n gz_106_2 rfl ?_
      refine w_iconst gz_106_3 (by decide) ?_
      refine w_icge (t := 45) gz_106_4 rfl (fun u2 => ?_) (fun u2 => ?_)
      ·
        refine w_aload_n gz_106_45 rfl ?_
        refine w_getR gz_106_46 t0 rd_2 rfl (fun v3 ev3 tv3 => ?_)
        refine w_getR gz_106_49 tv3 rd_6 rfl (fun v4 ev4 tv4 => ?_)
        refine w_aload_n gz_106_52 rfl ?_
        refine w_getI gz_106_53 t1 rd_4 rfl (fun v5 ev5 pv5 qv5 => ?_)
        refine w_iald gz_106_56 tv4 rd_31 (by omega) (by omega) (fun v6 ev6 pv6 qv6 => ?_)
        refine w_bipush gz_106_57 (by decide) ?_
        refine w_icge (t := 82) gz_106_59 rfl (fun u7 => ?_) (fun u7 => ?_)
        ·
          refine w_iconst gz_106_82 (by decide) ?_
          exact w_bret gz_106_83 gm_106 (by omega) (by omega) (k0 h2_0 (gh_2_0))
        ·
          refine w_aload_n gz_106_62 rfl ?_
          refine w_getR gz_106_63 t0 rd_2 rfl (fun v8 ev8 tv8 => ?_)
          have zv8 : v3 = v8 := (ev8.trans ev3.symm).symm
          subst zv8
          refine w_aload_n gz_106_66 rfl ?_
          refine w_getI gz_106_67 t1 rd_4 rfl (fun v9 ev9 pv9 qv9 => ?_)
          have zv9 := ev9.trans ev5.symm
          refine w_aload_n gz_106_70 rfl ?_
          refine w_getR gz_106_71 t0 rd_2 rfl (fun v10 ev10 tv10 => ?_)
          refine w_iconst gz_106_74 (by decide) ?_
          refine w_iald gz_106_75 tv10 rd_41 (by omega) (by omega) (fun v11 ev11 pv11 qv11 => ?_)
          refine w_inv (k := 0) (as := [(0, v11), (0, v9)]) (r := []) (x := v3) (ls0 := [(2, v3), (0, v9), (0, v11)]) gz_106_76 gm_15 rfl tv3 rd_6 rfl rfl rfl rfl rfl ?_
          refine w_iload_n gz_15_0 rfl ?_
          refine w_iflt (t := 31) gz_15_1 rfl (fun u12 => by exfalso; omega) (fun u12 => ?_)
          refine w_iload_n gz_15_4 rfl ?_
          refine w_bipush gz_15_5 (by decide) ?_
          refine w_icge (t := 31) gz_15_7 rfl (fun u13 => by exfalso; omega) (fun u13 => ?_)
          refine w_aload_n gz_15_10 rfl ?_
          refine w_getR gz_15_11 tv3 rd_6 rfl (fun v14 ev14 tv14 => ?_)
          refine w_iload_n gz_15_14 rfl ?_
          refine w_bipush gz_15_15 (by decide) ?_
          refine w_imul gz_15_17 ⟨by omega, by omega⟩ ?_
          refine w_iload_n gz_15_18 rfl ?_
          refine w_iadd gz_15_19 ⟨by omega, by omega⟩ ?_
          refine w_iconst gz_15_20 (by decide) ?_
          refine w_imul gz_15_21 ⟨by omega, by omega⟩ ?_
          refine w_iald gz_15_22 tv14 rd_30 (by omega) (by omega) (fun v15 ev15 pv15 qv15 => ?_)
          refine w_iconst gz_15_23 (by decide) ?_
          refine w_iceq (t := 31) gz_15_24 rfl (fun u16 => ?_) (fun u16 => ?_)
          ·
            refine w_iconst gz_15_31 (by decide) ?_
            refine w_bret gz_15_32 gm_15 (by omega) (by omega) ?_
            show wp l rho (d + 2) 106 79 [(2, x0), (2, x1), (0, p2_0), (9, 0)] [(0, 0)] h2_0 Q
            refine w_ifeq (t := 84) gz_106_79 rfl (fun u17 => ?_) (fun u17 => by exfalso; omega)
            refine w_aload_n gz_106_84 rfl ?_
            refine w_getR gz_106_85 t0 rd_2 rfl (fun v18 ev18 tv18 => ?_)
            have zv18 : v3 = v18 := (ev18.trans ev3.symm).symm
            subst zv18
            refine w_aload_n gz_106_88 rfl ?_
            refine w_getI gz_106_89 t1 rd_4 rfl (fun v19 ev19 pv19 qv19 => ?_)
            have zv19 := ev19.trans ev9.symm
            refine w_aload_n gz_106_92 rfl ?_
            refine w_getR gz_106_93 t0 rd_2 rfl (fun v20 ev20 tv20 => ?_)
            have zv20 : v10 = v20 := (ev20.trans ev10.symm).symm
            subst zv20
            refine w_inv (k := 0) (as := [(2, v10), (0, v19)]) (r := []) (x := v3) (ls0 := [(2, v3), (0, v19), (2, v10)]) gz_106_96 gm_16 rfl tv3 rd_6 rfl rfl rfl rfl rfl ?_
            refine w_aload_n gz_16_0 rfl ?_
            refine w_iconst gz_16_1 (by decide) ?_
            refine w_aload_n gz_16_2 rfl ?_
            refine w_getR gz_16_3 tv3 rd_6 rfl (fun v21 ev21 tv21 => ?_)
            have zv21 : v14 = v21 := (ev21.trans ev14.symm).symm
            subst zv21
            refine w_iload_n gz_16_6 rfl ?_
            refine w_aload_n gz_16_7 rfl ?_
            refine w_iconst gz_16_8 (by decide) ?_
            refine w_iald gz_16_9 tv10 rd_41 (by omega) (by omega) (fun v22 ev22 pv22 qv22 => ?_)
            have zv22 := ev22.trans ev11.symm
            refine w_inS (k := 0) (as := [(0, v22), (0, v19)]) (r := [(2, v14), (0, 0), (2, v10)]) (ls0 := [(0, v19), (0, v22)]) gz_16_10 gm_17 rfl rfl rfl rfl rfl rfl ?_
            refine w_iload_n gz_17_0 rfl ?_
            refine w_bipush gz_17_1 (by decide) ?_
            refine w_imul gz_17_3 ⟨by omega, by omega⟩ ?_
            refine w_iload_n gz_17_4 rfl ?_
            refine w_iadd gz_17_5 ⟨by omega, by omega⟩ ?_
            refine w_iconst gz_17_6 (by decide) ?_
            refine w_imul gz_17_7 ⟨by omega, by omega⟩ ?_
            refine w_iret gz_17_8 gm_17 ?_
            show wp l rho (d + 1) 16 13 [(2, v3), (0, v19), (2, v10)] [(0, (((v19 * 20) + v22) * 4)), (2, v14), (0, 0), (2, v10)] h2_0 _
            refine w_iconst gz_16_13 (by decide) ?_
            refine w_cpU gz_16_14 tv10 rd_41 tv14 rd_30 (by omega) (by omega) (by omega) (by omega) (by omega) rfl (by decide) (by decide) (fun h23 fh23 => ?_)
            have gh23 : my_fr [(30, -1), (31, -1), (41, -1)] h h23 := my_fr.cp gh_2_0 tv14 fh23 rfl
            refine w_aload_n gz_16_17 rfl ?_
            refine w_getR gz_16_18 tv3 rd_6 rfl (fun v24 ev24 tv24 => ?_)
            have zv24 : v4 = v24 := (ev24.trans ((my_cp_role fh23 tv3 tv14 rfl).trans ev4.symm)).symm
            subst zv24
            refine w_iload_n gz_16_21 rfl ?_
            refine w_dup2 gz_16_22 rfl rfl ?_
            refine w_iald gz_16_23 tv4 rd_31 (by omega) (by omega) (fun v25 ev25 pv25 qv25 => ?_)
            have wv25 : v19 = v5 := by omega
            rw [wv25] at ev25
            have zv25 := ev25.trans ((my_cp_role fh23 tv4 tv14 rfl).trans ev6.symm)
            refine w_iconst gz_16_24 (by decide) ?_
            refine w_iadd gz_16_25 ⟨by omega, by omega⟩ ?_
            refine w_iastA gz_16_26 tv4 rd_31 (by omega) (by omega) (fun h26 fh26 => ?_)
            have gh26 : my_fr [(30, -1), (31, -1), (41, -1)] h h26 := my_fr.up gh23 tv4 fh26 rfl
            refine w_vret gz_16_27 gm_16 ?_
            show wp l rho (d + 2) 106 99 [(2, x0), (2, x1), (0, p2_0), (9, 0)] [] h26 Q
            refine w_iconst gz_106_99 (by decide) ?_
            exact w_bret gz_106_100 gm_106 (by omega) (by omega) (k1 h26 (gh26))
          ·
            refine w_iconst gz_15_27 (by decide) ?_
            refine w_goto (t := 32) gz_15_28 rfl ?_
            refine w_bret gz_15_32 gm_15 (by omega) (by omega) ?_
            show wp l rho (d + 2) 106 79 [(2, x0), (2, x1), (0, p2_0), (9, 0)] [(0, 1)] h2_0 Q
            refine w_ifeq (t := 84) gz_106_79 rfl (fun u27 => by exfalso; omega) (fun u27 => ?_)
            refine w_iconst gz_106_82 (by decide) ?_
            exact w_bret gz_106_83 gm_106 (by omega) (by omega) (k0 h2_0 (gh_2_0))
      ·
        refine w_aload_n gz_106_7 rfl ?_
        refine w_iload_n gz_106_8 rfl ?_
        refine w_inv (k := 1) (as := [(0, p2_0)]) (r := []) (x := x1) (ls0 := [(2, x1), (0, p2_0), (9, 0)]) gz_106_9 gm_107 rfl t1 rd_4 rfl rfl rfl rfl rfl (c0_Lens_columnShowing (d := d) (x0 := x1) (x1 := p2_0) t1 (by omega) (by omega) ?_ (fun v28 w29 w30 w31 w32 => ?_))
        ·
          show wp l rho (d + 2) 106 12 [(2, x0), (2, x1), (0, p2_0), (9, 0)] [(0, (-1))] h2_0 Q
          refine w_istore_n (ls' := [(2, x0), (2, x1), (0, p2_0), (0, (-1))]) gz_106_12 gm_106 rfl rfl rfl ?_
          refine w_aload_n gz_106_13 rfl ?_
          refine w_getR gz_106_14 t0 rd_2 rfl (fun v33 ev33 tv33 => ?_)
          refine w_iload_n gz_106_17 rfl ?_
          refine w_iload_n gz_106_18 rfl ?_
          refine w_iconst gz_106_19 (by decide) ?_
          refine w_iceq (t := 32) gz_106_20 rfl (fun u34 => ?_) (fun u34 => by exfalso; omega)
          refine w_aload_n gz_106_32 rfl ?_
          refine w_getR gz_106_33 t1 rd_4 rfl (fun v35 ev35 tv35 => ?_)
          refine w_iload_n gz_106_36 rfl ?_
          refine w_iald gz_106_37 tv35 rd_38 (by omega) (by omega) (fun v36 ev36 pv36 qv36 => ?_)
          exact J38_0 ((-1)) (v33) (v36) h2_0 (gh_2_0) tv33 (by omega) (by omega) (by omega) (by omega) (by omega)
        ·
          show wp l rho (d + 2) 106 12 [(2, x0), (2, x1), (0, p2_0), (9, 0)] [(0, v28)] h2_0 Q
          refine w_istore_n (ls' := [(2, x0), (2, x1), (0, p2_0), (0, v28)]) gz_106_12 gm_106 rfl rfl rfl ?_
          refine w_aload_n gz_106_13 rfl ?_
          refine w_getR gz_106_14 t0 rd_2 rfl (fun v37 ev37 tv37 => ?_)
          refine w_iload_n gz_106_17 rfl ?_
          refine w_iload_n gz_106_18 rfl ?_
          refine w_iconst gz_106_19 (by decide) ?_
          refine w_iceq (t := 32) gz_106_20 rfl (fun u38 => by exfalso; omega) (fun u38 => ?_)
          refine w_aload_n gz_106_23 rfl ?_
          refine w_getR gz_106_24 t0 rd_2 rfl (fun v39 ev39 tv39 => ?_)
          refine w_iload_n gz_106_27 rfl ?_
          refine w_iald gz_106_28 tv39 rd_23 (by omega) (by omega) (fun v40 ev40 pv40 qv40 => ?_)
          refine w_goto (t := 38) gz_106_29 rfl ?_
          exact J38_0 (v28) (v37) (v40) h2_0 (gh_2_0) tv37 (by omega) (by omega) (by omega) (by omega) (by omega)
  refine w_iconst gz_106_0 (by decide) ?_
  refine w_istore_n (ls' := [(2, x0), (2, x1), (0, 0), (9, 0)]) gz_106_1 gm_106 rfl rfl rfl ?_
  exact J2_0 5 (0) h (my_fr.rf) (by omega) (by omega) (by omega)
theorem gz_135_0 : mz_pg 135 0 = some (.aload_n 0, 0, 0, 0) := by decide +kernel
theorem gz_135_1 : mz_pg 135 1 = some (.getfield 10, 9, 0, 528) := by decide +kernel
theorem gz_135_4 : mz_pg 135 4 = some (.iload_n 1, 0, 0, 0) := by decide +kernel
theorem gz_135_5 : mz_pg 135 5 = some (.invokevirtual 88, 1, 13, 578) := by decide +kernel
theorem gz_135_8 : mz_pg 135 8 = some (.ifCond .eq 31, 0, 0, 0) := by decide +kernel
theorem gz_135_11 : mz_pg 135 11 = some (.iload_n 2, 0, 0, 0) := by decide +kernel
theorem gz_135_12 : mz_pg 135 12 = some (.ifCond .lt 27, 0, 0, 0) := by decide +kernel
theorem gz_135_15 : mz_pg 135 15 = some (.iload_n 2, 0, 0, 0) := by decide +kernel
theorem gz_135_16 : mz_pg 135 16 = some (.iconst 1, 0, 0, 0) := by decide +kernel
theorem gz_135_17 : mz_pg 135 17 = some (.aload_n 0, 0, 0, 0) := by decide +kernel
theorem gz_135_18 : mz_pg 135 18 = some (.getfield 19, 9, 1, 529) := by decide +kernel
theorem gz_135_21 : mz_pg 135 21 = some (.getfield 95, 6, 1, 183) := by decide +kernel
theorem gz_135_24 : mz_pg 135 24 = some (.iload_n 1, 0, 0, 0) := by decide +kernel
theorem gz_135_25 : mz_pg 135 25 = some (.iaload, 0, 0, 0) := by decide +kernel
theorem gz_135_26 : mz_pg 135 26 = some (.ishl, 0, 0, 0) := by decide +kernel
theorem gz_135_27 : mz_pg 135 27 = some (.if_icmp .ge 12, 0, 0, 0) := by decide +kernel
theorem gz_135_30 : mz_pg 135 30 = some (.iload_n 3, 0, 0, 0) := by decide +kernel
theorem gz_135_31 : mz_pg 135 31 = some (.ifCond .lt 8, 0, 0, 0) := by decide +kernel
theorem gz_135_34 : mz_pg 135 34 = some (.iload_n 3, 0, 0, 0) := by decide +kernel
theorem gz_135_35 : mz_pg 135 35 = some (.iconst 3, 0, 0, 0) := by decide +kernel
theorem gz_135_36 : mz_pg 135 36 = some (.if_icmp .le 5, 0, 0, 0) := by decide +kernel
theorem gz_135_39 : mz_pg 135 39 = some (.iconst (-1), 0, 0, 0) := by decide +kernel
theorem gz_135_40 : mz_pg 135 40 = some (.ireturn, 0, 0, 0) := by decide +kernel
theorem gz_135_41 : mz_pg 135 41 = some (.aload_n 0, 0, 0, 0) := by decide +kernel
theorem gz_135_42 : mz_pg 135 42 = some (.getfield 68, 9, 10, 538) := by decide +kernel
theorem gz_135_45 : mz_pg 135 45 = some (.aload_n 0, 0, 0, 0) := by decide +kernel
theorem gz_135_46 : mz_pg 135 46 = some (.getfield 19, 9, 1, 529) := by decide +kernel
theorem gz_135_49 : mz_pg 135 49 = some (.iload_n 1, 0, 0, 0) := by decide +kernel
theorem gz_135_50 : mz_pg 135 50 = some (.aload_n 0, 0, 0, 0) := by decide +kernel
theorem gz_135_51 : mz_pg 135 51 = some (.getfield 19, 9, 1, 529) := by decide +kernel
theorem gz_135_54 : mz_pg 135 54 = some (.iload_n 1, 0, 0, 0) := by decide +kernel
theorem gz_135_55 : mz_pg 135 55 = some (.iload_n 2, 0, 0, 0) := by decide +kernel
theorem gz_135_56 : mz_pg 135 56 = some (.invokevirtual 311, 1, 121, 1104) := by decide +kernel
theorem gz_135_59 : mz_pg 135 59 = some (.invokevirtual 314, 1, 136, 1105) := by decide +kernel
theorem gz_135_62 : mz_pg 135 62 = some (.iload_n 3, 0, 0, 0) := by decide +kernel
theorem gz_135_63 : mz_pg 135 63 = some (.tableswitch 49 0 2 #[25, 33, 41], 0, 0, 0) := by decide +kernel
theorem gz_135_88 : mz_pg 135 88 = some (.aload_n 0, 0, 0, 0) := by decide +kernel
theorem gz_135_89 : mz_pg 135 89 = some (.getfield 68, 9, 10, 538) := by decide +kernel
theorem gz_135_92 : mz_pg 135 92 = some (.getfield 318, 1, 3, 459) := by decide +kernel
theorem gz_135_95 : mz_pg 135 95 = some (.ireturn, 0, 0, 0) := by decide +kernel
theorem gz_135_96 : mz_pg 135 96 = some (.aload_n 0, 0, 0, 0) := by decide +kernel
theorem gz_135_97 : mz_pg 135 97 = some (.getfield 68, 9, 10, 538) := by decide +kernel
theorem gz_135_100 : mz_pg 135 100 = some (.getfield 321, 1, 4, 461) := by decide +kernel
theorem gz_135_103 : mz_pg 135 103 = some (.ireturn, 0, 0, 0) := by decide +kernel
theorem gz_135_104 : mz_pg 135 104 = some (.aload_n 0, 0, 0, 0) := by decide +kernel
theorem gz_135_105 : mz_pg 135 105 = some (.getfield 68, 9, 10, 538) := by decide +kernel
theorem gz_135_108 : mz_pg 135 108 = some (.getfield 324, 1, 5, 463) := by decide +kernel
theorem gz_135_111 : mz_pg 135 111 = some (.ireturn, 0, 0, 0) := by decide +kernel
theorem gz_135_112 : mz_pg 135 112 = some (.aload_n 0, 0, 0, 0) := by decide +kernel
theorem gz_135_113 : mz_pg 135 113 = some (.getfield 68, 9, 10, 538) := by decide +kernel
theorem gz_135_116 : mz_pg 135 116 = some (.getfield 327, 1, 6, 465) := by decide +kernel
theorem gz_135_119 : mz_pg 135 119 = some (.ireturn, 0, 0, 0) := by decide +kernel
theorem gm_135 : my_mm 135 4 (some .int) 3 9 := by unfold my_mm; decide +kernel
theorem c54_ThroughWindow_cuts {l : Launch} {rho : Nat → Int32} {d : Nat} {h : my_H} {Q : my_H → my_V → Prop} {x0 x1 x2 x3 : Int} (t0 : my_is 9 x0) (k0 : ∀ (h' : my_H), my_fr [(1, 3), (1, 4), (1, 5), (1, 6)] h h' → Q h' (0, (-1))) (k1 : ∀ (h' : my_H), my_fr [(1, 3), (1, 4), (1, 5), (1, 6)] h h' → 0 ≤ x1 → x1 ≤ 2 → 0 ≤ x2 → x2 ≤ 2147483646 → 0 ≤ x3 → x3 ≤ 0 → Q h' (0, 0)) (k2 : ∀ (h' : my_H) (y : Int), my_fr [(1, 3), (1, 4), (1, 5), (1, 6)] h h' → 0 ≤ x1 → x1 ≤ 2 → 0 ≤ x2 → x2 ≤ 2147483646 → 0 ≤ x3 → x3 ≤ 3 → Q h' (0, y)) : wp l rho (d + 3) 135 0 [(2, x0), (0, x1), (0, x2), (0, x3)] [] h Q := by
  refine w_aload_n gz_135_0 rfl ?_
  refine w_getR gz_135_1 t0 rd_9 rfl (fun v1 ev1 tv1 => ?_)
  refine w_iload_n gz_135_4 rfl ?_
  refine w_inv (k := 0) (as := [(0, x1)]) (r := []) (x := v1) (ls0 := [(2, v1), (0, x1)]) gz_135_5 gm_13 rfl tv1 rd_3 rfl rfl rfl rfl rfl ?_
  refine w_iload_n gz_13_0 rfl ?_
  refine w_iflt (t := 22) gz_13_1 rfl (fun u2 => ?_) (fun u2 => ?_)
  ·
    refine w_iconst gz_13_22 (by decide) ?_
    refine w_bret gz_13_23 gm_13 (by omega) (by omega) ?_
    show wp l rho (d + 3) 135 8 [(2, x0), (0, x1), (0, x2), (0, x3)] [(0, 0)] h Q
    refine w_ifeq (t := 39) gz_135_8 rfl (fun u3 => ?_) (fun u3 => by exfalso; omega)
    refine w_iconst gz_135_39 (by decide) ?_
    exact w_iret gz_135_40 gm_135 (k0 h (my_fr.rf))
  ·
    refine w_iload_n gz_13_4 rfl ?_
    refine w_iconst gz_13_5 (by decide) ?_
    refine w_icge (t := 22) gz_13_6 rfl (fun u4 => ?_) (fun u4 => ?_)
    ·
      refine w_iconst gz_13_22 (by decide) ?_
      refine w_bret gz_13_23 gm_13 (by omega) (by omega) ?_
      show wp l rho (d + 3) 135 8 [(2, x0), (0, x1), (0, x2), (0, x3)] [(0, 0)] h Q
      refine w_ifeq (t := 39) gz_135_8 rfl (fun u5 => ?_) (fun u5 => by exfalso; omega)
      refine w_iconst gz_135_39 (by decide) ?_
      exact w_iret gz_135_40 gm_135 (k0 h (my_fr.rf))
    ·
      refine w_aload_n gz_13_9 rfl ?_
      refine w_getR gz_13_10 tv1 rd_3 rfl (fun v6 ev6 tv6 => ?_)
      refine w_iload_n gz_13_13 rfl ?_
      refine w_iald gz_13_14 tv6 rd_25 (by omega) (by omega) (fun v7 ev7 pv7 qv7 => ?_)
      refine w_ifle (t := 22) gz_13_15 rfl (fun u8 => ?_) (fun u8 => ?_)
      ·
        refine w_iconst gz_13_22 (by decide) ?_
        refine w_bret gz_13_23 gm_13 (by omega) (by omega) ?_
        show wp l rho (d + 3) 135 8 [(2, x0), (0, x1), (0, x2), (0, x3)] [(0, 0)] h Q
        refine w_ifeq (t := 39) gz_135_8 rfl (fun u9 => ?_) (fun u9 => by exfalso; omega)
        refine w_iconst gz_135_39 (by decide) ?_
        exact w_iret gz_135_40 gm_135 (k0 h (my_fr.rf))
      ·
        refine w_iconst gz_13_18 (by decide) ?_
        refine w_goto (t := 23) gz_13_19 rfl ?_
        refine w_bret gz_13_23 gm_13 (by omega) (by omega) ?_
        show wp l rho (d + 3) 135 8 [(2, x0), (0, x1), (0, x2), (0, x3)] [(0, 1)] h Q
        refine w_ifeq (t := 39) gz_135_8 rfl (fun u10 => by exfalso; omega) (fun u10 => ?_)
        refine w_iload_n gz_135_11 rfl ?_
        refine w_iflt (t := 39) gz_135_12 rfl (fun u11 => ?_) (fun u11 => ?_)
        ·
          refine w_iconst gz_135_39 (by decide) ?_
          exact w_iret gz_135_40 gm_135 (k0 h (my_fr.rf))
        ·
          refine w_iload_n gz_135_15 rfl ?_
          refine w_iconst gz_135_16 (by decide) ?_
          refine w_aload_n gz_135_17 rfl ?_
          refine w_getR gz_135_18 t0 rd_9 rfl (fun v12 ev12 tv12 => ?_)
          refine w_getR gz_135_21 tv12 rd_6 rfl (fun v13 ev13 tv13 => ?_)
          refine w_iload_n gz_135_24 rfl ?_
          refine w_iald gz_135_25 tv13 rd_31 (by omega) (by omega) (fun v14 ev14 pv14 qv14 => ?_)
          refine w_ianyL gz_135_26 (fun v15 pv15 qv15 => ?_)
          refine w_icge (t := 39) gz_135_27 rfl (fun u16 => ?_) (fun u16 => ?_)
          ·
            refine w_iconst gz_135_39 (by decide) ?_
            exact w_iret gz_135_40 gm_135 (k0 h (my_fr.rf))
          ·
            refine w_iload_n gz_135_30 rfl ?_
            refine w_iflt (t := 39) gz_135_31 rfl (fun u17 => ?_) (fun u17 => ?_)
            ·
              refine w_iconst gz_135_39 (by decide) ?_
              exact w_iret gz_135_40 gm_135 (k0 h (my_fr.rf))
            ·
              refine w_iload_n gz_135_34 rfl ?_
              refine w_iconst gz_135_35 (by decide) ?_
              refine w_icle (t := 41) gz_135_36 rfl (fun u18 => ?_) (fun u18 => ?_)
              ·
                refine w_aload_n gz_135_41 rfl ?_
                refine w_getR gz_135_42 t0 rd_9 rfl (fun v19 ev19 tv19 => ?_)
                refine w_aload_n gz_135_45 rfl ?_
                refine w_getR gz_135_46 t0 rd_9 rfl (fun v20 ev20 tv20 => ?_)
                have zv20 : v12 = v20 := (ev20.trans ev12.symm).symm
                subst zv20
                refine w_iload_n gz_135_49 rfl ?_
                refine w_aload_n gz_135_50 rfl ?_
                refine w_getR gz_135_51 t0 rd_9 rfl (fun v21 ev21 tv21 => ?_)
                have zv21 : v12 = v21 := (ev21.trans ev12.symm).symm
                subst zv21
                refine w_iload_n gz_135_54 rfl ?_
                refine w_iload_n gz_135_55 rfl ?_
                refine w_inv (k := 3) (as := [(0, x2), (0, x1)]) (r := [(0, x1), (2, v12), (2, v19)]) (x := v12) (ls0 := [(2, v12), (0, x1), (0, x2), (9, 0), (9, 0), (9, 0)]) gz_135_56 gm_121 rfl tv12 rd_6 rfl rfl rfl rfl rfl (c3_Rows_keysOf (d := (d + 1)) (x0 := v12) (x1 := x1) (x2 := x2) tv12 (by omega) (by omega) (by omega) (by omega) (fun v22 => ?_))
                show wp l rho (d + 3) 135 59 [(2, x0), (0, x1), (0, x2), (0, x3)] [(0, v22), (0, x1), (2, v12), (2, v19)] h Q
                refine w_inv (k := 3) (as := [(0, v22), (0, x1), (2, v12)]) (r := []) (x := v19) (ls0 := [(2, v19), (2, v12), (0, x1), (0, v22), (9, 0), (9, 0), (9, 0)]) gz_135_59 gm_136 rfl tv19 rd_1 rfl rfl rfl rfl rfl (c7_Cutter_findCuts (d := d) (x0 := v19) (x1 := v12) (x2 := x1) (x3 := v22) tv19 tv12 (by omega) (by omega) (fun h23 frh23 w24 w25 w26 w27 w28 w29 => ?_))
                have gh23 : my_fr [(1, 3), (1, 4), (1, 5), (1, 6)] h h23 := my_fr.tr my_fr.rf (frh23.mo rfl)
                show wp l rho (d + 3) 135 62 [(2, x0), (0, x1), (0, x2), (0, x3)] [] h23 Q
                refine w_iload_n gz_135_62 rfl ?_
                by_cases u30 : x3 = 0
                ·
                  refine w_tswE (t := 88) gz_135_63 u30 (by decide) (by decide) rfl rfl ?_
                  refine w_aload_n gz_135_88 rfl ?_
                  refine w_getR gz_135_89 t0 rd_9 rfl (fun v31 ev31 tv31 => ?_)
                  have zv31 : v19 = v31 := (ev31.trans ((my_fr.at frh23 t0 rfl).trans ev19.symm)).symm
                  subst zv31
                  refine w_getI gz_135_92 tv19 rd_1 rfl (fun v32 ev32 pv32 qv32 => ?_)
                  exact w_iret gz_135_95 gm_135 (k2 h23 (v32) (gh23) (by omega) (by omega) (by omega) (by omega) (by omega) (by omega))
                ·
                  by_cases u33 : x3 = 1
                  ·
                    refine w_tswE (t := 96) gz_135_63 u33 (by decide) (by decide) rfl rfl ?_
                    refine w_aload_n gz_135_96 rfl ?_
                    refine w_getR gz_135_97 t0 rd_9 rfl (fun v34 ev34 tv34 => ?_)
                    have zv34 : v19 = v34 := (ev34.trans ((my_fr.at frh23 t0 rfl).trans ev19.symm)).symm
                    subst zv34
                    refine w_getI gz_135_100 tv19 rd_1 rfl (fun v35 ev35 pv35 qv35 => ?_)
                    have zv35 := ev35.trans (rfl : h23 v19 ((4 : Nat) : Int) = h23 v19 ((4 : Nat) : Int))
                    exact w_iret gz_135_103 gm_135 (k2 h23 (v35) (gh23) (by omega) (by omega) (by omega) (by omega) (by omega) (by omega))
                  ·
                    by_cases u36 : x3 = 2
                    ·
                      refine w_tswE (t := 104) gz_135_63 u36 (by decide) (by decide) rfl rfl ?_
                      refine w_aload_n gz_135_104 rfl ?_
                      refine w_getR gz_135_105 t0 rd_9 rfl (fun v37 ev37 tv37 => ?_)
                      have zv37 : v19 = v37 := (ev37.trans ((my_fr.at frh23 t0 rfl).trans ev19.symm)).symm
                      subst zv37
                      refine w_getI gz_135_108 tv19 rd_1 rfl (fun v38 ev38 pv38 qv38 => ?_)
                      have zv38 := ev38.trans (rfl : h23 v19 ((5 : Nat) : Int) = h23 v19 ((5 : Nat) : Int))
                      exact w_iret gz_135_111 gm_135 (k2 h23 (v38) (gh23) (by omega) (by omega) (by omega) (by omega) (by omega) (by omega))
                    ·
                      refine w_tswD (t := 112) gz_135_63 (by omega) rfl ?_
                      refine w_aload_n gz_135_112 rfl ?_
                      refine w_getR gz_135_113 t0 rd_9 rfl (fun v39 ev39 tv39 => ?_)
                      have zv39 : v19 = v39 := (ev39.trans ((my_fr.at frh23 t0 rfl).trans ev19.symm)).symm
                      subst zv39
                      refine w_getI gz_135_116 tv19 rd_1 rfl (fun v40 ev40 pv40 qv40 => ?_)
                      have zv40 := ev40.trans (rfl : h23 v19 ((6 : Nat) : Int) = h23 v19 ((6 : Nat) : Int))
                      exact w_iret gz_135_119 gm_135 (k2 h23 (v40) (gh23) (by omega) (by omega) (by omega) (by omega) (by omega) (by omega))
              ·
                refine w_iconst gz_135_39 (by decide) ?_
                exact w_iret gz_135_40 gm_135 (k0 h (my_fr.rf))
theorem gz_137_0 : mz_pg 137 0 = some (.aload_n 0, 0, 0, 0) := by decide +kernel
theorem gz_137_1 : mz_pg 137 1 = some (.getfield 10, 9, 0, 528) := by decide +kernel
theorem gz_137_4 : mz_pg 137 4 = some (.iload_n 1, 0, 0, 0) := by decide +kernel
theorem gz_137_5 : mz_pg 137 5 = some (.iload_n 2, 0, 0, 0) := by decide +kernel
theorem gz_137_6 : mz_pg 137 6 = some (.invokevirtual 118, 1, 27, 634) := by decide +kernel
theorem gz_137_9 : mz_pg 137 9 = some (.ifCond .eq 12, 0, 0, 0) := by decide +kernel
theorem gz_137_12 : mz_pg 137 12 = some (.iload_n 3, 0, 0, 0) := by decide +kernel
theorem gz_137_13 : mz_pg 137 13 = some (.iload 4, 0, 0, 0) := by decide +kernel
theorem gz_137_15 : mz_pg 137 15 = some (.invokestatic 119, 1, 28, 639) := by decide +kernel
theorem gz_137_18 : mz_pg 137 18 = some (.ifCond .ne 5, 0, 0, 0) := by decide +kernel
theorem gz_137_21 : mz_pg 137 21 = some (.iconst (-1), 0, 0, 0) := by decide +kernel
theorem gz_137_22 : mz_pg 137 22 = some (.ireturn, 0, 0, 0) := by decide +kernel
theorem gz_137_23 : mz_pg 137 23 = some (.aload_n 0, 0, 0, 0) := by decide +kernel
theorem gz_137_24 : mz_pg 137 24 = some (.getfield 19, 9, 1, 529) := by decide +kernel
theorem gz_137_27 : mz_pg 137 27 = some (.iload_n 1, 0, 0, 0) := by decide +kernel
theorem gz_137_28 : mz_pg 137 28 = some (.iload_n 2, 0, 0, 0) := by decide +kernel
theorem gz_137_29 : mz_pg 137 29 = some (.iload_n 3, 0, 0, 0) := by decide +kernel
theorem gz_137_30 : mz_pg 137 30 = some (.iload 4, 0, 0, 0) := by decide +kernel
theorem gz_137_32 : mz_pg 137 32 = some (.invokevirtual 122, 1, 20, 642) := by decide +kernel
theorem gz_137_35 : mz_pg 137 35 = some (.ireturn, 0, 0, 0) := by decide +kernel
theorem gm_137 : my_mm 137 5 (some .int) 4 9 := by unfold my_mm; decide +kernel
theorem c55_ThroughWindow_moves {l : Launch} {rho : Nat → Int32} {d : Nat} {h : my_H} {Q : my_H → my_V → Prop} {x0 x1 x2 x3 x4 : Int} (t0 : my_is 9 x0) (k0 : Q h (0, (-1))) (k1 : ∀ (y : Int), 0 ≤ y → y ≤ 20 → 0 ≤ x1 → x1 ≤ 2 → 0 ≤ x2 → x2 ≤ 3 → 0 ≤ x3 → x3 ≤ 19 → 0 ≤ x4 → x4 ≤ 19 → Q h (0, y)) : wp l rho (d + 2) 137 0 [(2, x0), (0, x1), (0, x2), (0, x3), (0, x4)] [] h Q := by
  refine w_aload_n gz_137_0 rfl ?_
  refine w_getR gz_137_1 t0 rd_9 rfl (fun v1 ev1 tv1 => ?_)
  refine w_iload_n gz_137_4 rfl ?_
  refine w_iload_n gz_137_5 rfl ?_
  refine w_inv (k := 0) (as := [(0, x2), (0, x1)]) (r := []) (x := v1) (ls0 := [(2, v1), (0, x1), (0, x2)]) gz_137_6 gm_27 rfl tv1 rd_3 rfl rfl rfl rfl rfl ?_
  refine w_aload_n gz_27_0 rfl ?_
  refine w_iload_n gz_27_1 rfl ?_
  refine w_inv (k := 0) (as := [(0, x1)]) (r := []) (x := v1) (ls0 := [(2, v1), (0, x1)]) gz_27_2 gm_13 rfl tv1 rd_3 rfl rfl rfl rfl rfl ?_
  refine w_iload_n gz_13_0 rfl ?_
  refine w_iflt (t := 22) gz_13_1 rfl (fun u2 => ?_) (fun u2 => ?_)
  ·
    refine w_iconst gz_13_22 (by decide) ?_
    refine w_bret gz_13_23 gm_13 (by omega) (by omega) ?_
    show wp l rho (d + 1) 27 5 [(2, v1), (0, x1), (0, x2)] [(0, 0)] h _
    refine w_ifeq (t := 26) gz_27_5 rfl (fun u3 => ?_) (fun u3 => by exfalso; omega)
    refine w_iconst gz_27_26 (by decide) ?_
    refine w_bret gz_27_27 gm_27 (by omega) (by omega) ?_
    show wp l rho (d + 2) 137 9 [(2, x0), (0, x1), (0, x2), (0, x3), (0, x4)] [(0, 0)] h Q
    refine w_ifeq (t := 21) gz_137_9 rfl (fun u4 => ?_) (fun u4 => by exfalso; omega)
    refine w_iconst gz_137_21 (by decide) ?_
    exact w_iret gz_137_22 gm_137 (k0 )
  ·
    refine w_iload_n gz_13_4 rfl ?_
    refine w_iconst gz_13_5 (by decide) ?_
    refine w_icge (t := 22) gz_13_6 rfl (fun u5 => ?_) (fun u5 => ?_)
    ·
      refine w_iconst gz_13_22 (by decide) ?_
      refine w_bret gz_13_23 gm_13 (by omega) (by omega) ?_
      show wp l rho (d + 1) 27 5 [(2, v1), (0, x1), (0, x2)] [(0, 0)] h _
      refine w_ifeq (t := 26) gz_27_5 rfl (fun u6 => ?_) (fun u6 => by exfalso; omega)
      refine w_iconst gz_27_26 (by decide) ?_
      refine w_bret gz_27_27 gm_27 (by omega) (by omega) ?_
      show wp l rho (d + 2) 137 9 [(2, x0), (0, x1), (0, x2), (0, x3), (0, x4)] [(0, 0)] h Q
      refine w_ifeq (t := 21) gz_137_9 rfl (fun u7 => ?_) (fun u7 => by exfalso; omega)
      refine w_iconst gz_137_21 (by decide) ?_
      exact w_iret gz_137_22 gm_137 (k0 )
    ·
      refine w_aload_n gz_13_9 rfl ?_
      refine w_getR gz_13_10 tv1 rd_3 rfl (fun v8 ev8 tv8 => ?_)
      refine w_iload_n gz_13_13 rfl ?_
      refine w_iald gz_13_14 tv8 rd_25 (by omega) (by omega) (fun v9 ev9 pv9 qv9 => ?_)
      refine w_ifle (t := 22) gz_13_15 rfl (fun u10 => ?_) (fun u10 => ?_)
      ·
        refine w_iconst gz_13_22 (by decide) ?_
        refine w_bret gz_13_23 gm_13 (by omega) (by omega) ?_
        show wp l rho (d + 1) 27 5 [(2, v1), (0, x1), (0, x2)] [(0, 0)] h _
        refine w_ifeq (t := 26) gz_27_5 rfl (fun u11 => ?_) (fun u11 => by exfalso; omega)
        refine w_iconst gz_27_26 (by decide) ?_
        refine w_bret gz_27_27 gm_27 (by omega) (by omega) ?_
        show wp l rho (d + 2) 137 9 [(2, x0), (0, x1), (0, x2), (0, x3), (0, x4)] [(0, 0)] h Q
        refine w_ifeq (t := 21) gz_137_9 rfl (fun u12 => ?_) (fun u12 => by exfalso; omega)
        refine w_iconst gz_137_21 (by decide) ?_
        exact w_iret gz_137_22 gm_137 (k0 )
      ·
        refine w_iconst gz_13_18 (by decide) ?_
        refine w_goto (t := 23) gz_13_19 rfl ?_
        refine w_bret gz_13_23 gm_13 (by omega) (by omega) ?_
        show wp l rho (d + 1) 27 5 [(2, v1), (0, x1), (0, x2)] [(0, 1)] h _
        refine w_ifeq (t := 26) gz_27_5 rfl (fun u13 => by exfalso; omega) (fun u13 => ?_)
        refine w_iload_n gz_27_8 rfl ?_
        refine w_iflt (t := 26) gz_27_9 rfl (fun u14 => ?_) (fun u14 => ?_)
        ·
          refine w_iconst gz_27_26 (by decide) ?_
          refine w_bret gz_27_27 gm_27 (by omega) (by omega) ?_
          show wp l rho (d + 2) 137 9 [(2, x0), (0, x1), (0, x2), (0, x3), (0, x4)] [(0, 0)] h Q
          refine w_ifeq (t := 21) gz_137_9 rfl (fun u15 => ?_) (fun u15 => by exfalso; omega)
          refine w_iconst gz_137_21 (by decide) ?_
          exact w_iret gz_137_22 gm_137 (k0 )
        ·
          refine w_iload_n gz_27_12 rfl ?_
          refine w_aload_n gz_27_13 rfl ?_
          refine w_getR gz_27_14 tv1 rd_3 rfl (fun v16 ev16 tv16 => ?_)
          have zv16 : v8 = v16 := (ev16.trans ev8.symm).symm
          subst zv16
          refine w_iload_n gz_27_17 rfl ?_
          refine w_iald gz_27_18 tv8 rd_25 (by omega) (by omega) (fun v17 ev17 pv17 qv17 => ?_)
          have zv17 := ev17.trans ev9.symm
          refine w_icge (t := 26) gz_27_19 rfl (fun u18 => ?_) (fun u18 => ?_)
          ·
            refine w_iconst gz_27_26 (by decide) ?_
            refine w_bret gz_27_27 gm_27 (by omega) (by omega) ?_
            show wp l rho (d + 2) 137 9 [(2, x0), (0, x1), (0, x2), (0, x3), (0, x4)] [(0, 0)] h Q
            refine w_ifeq (t := 21) gz_137_9 rfl (fun u19 => ?_) (fun u19 => by exfalso; omega)
            refine w_iconst gz_137_21 (by decide) ?_
            exact w_iret gz_137_22 gm_137 (k0 )
          ·
            refine w_iconst gz_27_22 (by decide) ?_
            refine w_goto (t := 27) gz_27_23 rfl ?_
            refine w_bret gz_27_27 gm_27 (by omega) (by omega) ?_
            show wp l rho (d + 2) 137 9 [(2, x0), (0, x1), (0, x2), (0, x3), (0, x4)] [(0, 1)] h Q
            refine w_ifeq (t := 21) gz_137_9 rfl (fun u20 => by exfalso; omega) (fun u20 => ?_)
            refine w_iload_n gz_137_12 rfl ?_
            refine w_iload gz_137_13 rfl ?_
            refine w_inS (k := 0) (as := [(0, x4), (0, x3)]) (r := []) (ls0 := [(0, x3), (0, x4)]) gz_137_15 gm_28 rfl rfl rfl rfl rfl rfl ?_
            refine w_iload_n gz_28_0 rfl ?_
            refine w_iflt (t := 19) gz_28_1 rfl (fun u21 => ?_) (fun u21 => ?_)
            ·
              refine w_iconst gz_28_19 (by decide) ?_
              refine w_bret gz_28_20 gm_28 (by omega) (by omega) ?_
              show wp l rho (d + 2) 137 18 [(2, x0), (0, x1), (0, x2), (0, x3), (0, x4)] [(0, 0)] h Q
              refine w_ifne (t := 23) gz_137_18 rfl (fun u22 => by exfalso; omega) (fun u22 => ?_)
              refine w_iconst gz_137_21 (by decide) ?_
              exact w_iret gz_137_22 gm_137 (k0 )
            ·
              refine w_iload_n gz_28_4 rfl ?_
              refine w_iload_n gz_28_5 rfl ?_
              refine w_icgt (t := 19) gz_28_6 rfl (fun u23 => ?_) (fun u23 => ?_)
              ·
                refine w_iconst gz_28_19 (by decide) ?_
                refine w_bret gz_28_20 gm_28 (by omega) (by omega) ?_
                show wp l rho (d + 2) 137 18 [(2, x0), (0, x1), (0, x2), (0, x3), (0, x4)] [(0, 0)] h Q
                refine w_ifne (t := 23) gz_137_18 rfl (fun u24 => by exfalso; omega) (fun u24 => ?_)
                refine w_iconst gz_137_21 (by decide) ?_
                exact w_iret gz_137_22 gm_137 (k0 )
              ·
                refine w_iload_n gz_28_9 rfl ?_
                refine w_bipush gz_28_10 (by decide) ?_
                refine w_icge (t := 19) gz_28_12 rfl (fun u25 => ?_) (fun u25 => ?_)
                ·
                  refine w_iconst gz_28_19 (by decide) ?_
                  refine w_bret gz_28_20 gm_28 (by omega) (by omega) ?_
                  show wp l rho (d + 2) 137 18 [(2, x0), (0, x1), (0, x2), (0, x3), (0, x4)] [(0, 0)] h Q
                  refine w_ifne (t := 23) gz_137_18 rfl (fun u26 => by exfalso; omega) (fun u26 => ?_)
                  refine w_iconst gz_137_21 (by decide) ?_
                  exact w_iret gz_137_22 gm_137 (k0 )
                ·
                  refine w_iconst gz_28_15 (by decide) ?_
                  refine w_goto (t := 20) gz_28_16 rfl ?_
                  refine w_bret gz_28_20 gm_28 (by omega) (by omega) ?_
                  show wp l rho (d + 2) 137 18 [(2, x0), (0, x1), (0, x2), (0, x3), (0, x4)] [(0, 1)] h Q
                  refine w_ifne (t := 23) gz_137_18 rfl (fun u27 => ?_) (fun u27 => by exfalso; omega)
                  refine w_aload_n gz_137_23 rfl ?_
                  refine w_getR gz_137_24 t0 rd_9 rfl (fun v28 ev28 tv28 => ?_)
                  refine w_iload_n gz_137_27 rfl ?_
                  refine w_iload_n gz_137_28 rfl ?_
                  refine w_iload_n gz_137_29 rfl ?_
                  refine w_iload gz_137_30 rfl ?_
                  refine w_inv (k := 3) (as := [(0, x4), (0, x3), (0, x2), (0, x1)]) (r := []) (x := v28) (ls0 := [(2, v28), (0, x1), (0, x2), (0, x3), (0, x4), (9, 0), (9, 0), (9, 0)]) gz_137_32 gm_20 rfl tv28 rd_6 rfl rfl rfl rfl rfl (c26_Rows_outside (d := d) (x0 := v28) (x1 := x1) (x2 := x2) (x3 := x3) (x4 := x4) tv28 (by omega) (by omega) (by omega) (by omega) (by omega) (by omega) (by omega) (by omega) (fun v29 w30 w31 => ?_))
                  show wp l rho (d + 2) 137 35 [(2, x0), (0, x1), (0, x2), (0, x3), (0, x4)] [(0, v29)] h Q
                  exact w_iret gz_137_35 gm_137 (k1 (v29) (by omega) (by omega) (by omega) (by omega) (by omega) (by omega) (by omega) (by omega) (by omega) (by omega))
theorem gz_139_0 : mz_pg 139 0 = some (.iload_n 1, 0, 0, 0) := by decide +kernel
theorem gz_139_1 : mz_pg 139 1 = some (.ifCond .lt 33, 0, 0, 0) := by decide +kernel
theorem gz_139_4 : mz_pg 139 4 = some (.iload_n 1, 0, 0, 0) := by decide +kernel
theorem gz_139_5 : mz_pg 139 5 = some (.iconst 3, 0, 0, 0) := by decide +kernel
theorem gz_139_6 : mz_pg 139 6 = some (.if_icmp .ge 28, 0, 0, 0) := by decide +kernel
theorem gz_139_9 : mz_pg 139 9 = some (.aload_n 0, 0, 0, 0) := by decide +kernel
theorem gz_139_10 : mz_pg 139 10 = some (.getfield 10, 9, 0, 528) := by decide +kernel
theorem gz_139_13 : mz_pg 139 13 = some (.iload_n 1, 0, 0, 0) := by decide +kernel
theorem gz_139_14 : mz_pg 139 14 = some (.invokevirtual 88, 1, 13, 578) := by decide +kernel
theorem gz_139_17 : mz_pg 139 17 = some (.ifCond .eq 15, 0, 0, 0) := by decide +kernel
theorem gz_139_20 : mz_pg 139 20 = some (.aload_n 0, 0, 0, 0) := by decide +kernel
theorem gz_139_21 : mz_pg 139 21 = some (.getfield 19, 9, 1, 529) := by decide +kernel
theorem gz_139_24 : mz_pg 139 24 = some (.getfield 95, 6, 1, 183) := by decide +kernel
theorem gz_139_27 : mz_pg 139 27 = some (.iload_n 1, 0, 0, 0) := by decide +kernel
theorem gz_139_28 : mz_pg 139 28 = some (.iaload, 0, 0, 0) := by decide +kernel
theorem gz_139_29 : mz_pg 139 29 = some (.goto 4, 0, 0, 0) := by decide +kernel
theorem gz_139_32 : mz_pg 139 32 = some (.iconst (-1), 0, 0, 0) := by decide +kernel
theorem gz_139_33 : mz_pg 139 33 = some (.ireturn, 0, 0, 0) := by decide +kernel
theorem gz_139_34 : mz_pg 139 34 = some (.iload_n 1, 0, 0, 0) := by decide +kernel
theorem gz_139_35 : mz_pg 139 35 = some (.tableswitch 46 3 5 #[25, 30, 38], 0, 0, 0) := by decide +kernel
theorem gz_139_60 : mz_pg 139 60 = some (.aload_n 0, 0, 0, 0) := by decide +kernel
theorem gz_139_61 : mz_pg 139 61 = some (.invokevirtual 330, 1, 140, 1121) := by decide +kernel
theorem gz_139_64 : mz_pg 139 64 = some (.ireturn, 0, 0, 0) := by decide +kernel
theorem gz_139_65 : mz_pg 139 65 = some (.aload_n 0, 0, 0, 0) := by decide +kernel
theorem gz_139_66 : mz_pg 139 66 = some (.getfield 46, 9, 7, 535) := by decide +kernel
theorem gz_139_69 : mz_pg 139 69 = some (.getfield 146, 5, 4, 286) := by decide +kernel
theorem gz_139_72 : mz_pg 139 72 = some (.ireturn, 0, 0, 0) := by decide +kernel
theorem gz_139_73 : mz_pg 139 73 = some (.aload_n 0, 0, 0, 0) := by decide +kernel
theorem gz_139_74 : mz_pg 139 74 = some (.getfield 19, 9, 1, 529) := by decide +kernel
theorem gz_139_77 : mz_pg 139 77 = some (.invokevirtual 334, 1, 141, 1124) := by decide +kernel
theorem gz_139_80 : mz_pg 139 80 = some (.ireturn, 0, 0, 0) := by decide +kernel
theorem gz_139_81 : mz_pg 139 81 = some (.iconst (-1), 0, 0, 0) := by decide +kernel
theorem gz_139_82 : mz_pg 139 82 = some (.ireturn, 0, 0, 0) := by decide +kernel
theorem gm_139 : my_mm 139 2 (some .int) 1 9 := by unfold my_mm; decide +kernel
theorem c56_ThroughWindow_count {l : Launch} {rho : Nat → Int32} {d : Nat} {h : my_H} {Q : my_H → my_V → Prop} {x0 x1 : Int} (t0 : my_is 9 x0) (k0 : Q h (0, (-1))) (k1 : ∀ (y : Int), 0 ≤ x1 → x1 ≤ 5 → Q h (0, y)) : wp l rho (d + 1) 139 0 [(2, x0), (0, x1)] [] h Q := by
  have J34_0 : wp l rho (d + 1) 139 34 [(2, x0), (0, x1)] [] h Q := by
    refine w_iload_n gz_139_34 rfl ?_
    by_cases u1 : x1 = 3
    ·
      refine w_tswE (t := 60) gz_139_35 u1 (by decide) (by decide) rfl rfl ?_
      refine w_aload_n gz_139_60 rfl ?_
      refine w_inv (k := 2) (as := []) (r := []) (x := x0) (ls0 := [(2, x0), (9, 0), (9, 0)]) gz_139_61 gm_140 rfl t0 rd_9 rfl rfl rfl rfl rfl (c8_ThroughWindow_countTold (d := d) (x0 := x0) t0 (fun v2 w3 w4 => ?_))
      show wp l rho (d + 1) 139 64 [(2, x0), (0, x1)] [(0, v2)] h Q
      exact w_iret gz_139_64 gm_139 (k1 (v2) (by omega) (by omega))
    ·
      by_cases u5 : x1 = 4
      ·
        refine w_tswE (t := 65) gz_139_35 u5 (by decide) (by decide) rfl rfl ?_
        refine w_aload_n gz_139_65 rfl ?_
        refine w_getR gz_139_66 t0 rd_9 rfl (fun v6 ev6 tv6 => ?_)
        refine w_getI gz_139_69 tv6 rd_5 rfl (fun v7 ev7 pv7 qv7 => ?_)
        exact w_iret gz_139_72 gm_139 (k1 (v7) (by omega) (by omega))
      ·
        by_cases u8 : x1 = 5
        ·
          refine w_tswE (t := 73) gz_139_35 u8 (by decide) (by decide) rfl rfl ?_
          refine w_aload_n gz_139_73 rfl ?_
          refine w_getR gz_139_74 t0 rd_9 rfl (fun v9 ev9 tv9 => ?_)
          refine w_inv (k := 2) (as := []) (r := []) (x := v9) (ls0 := [(2, v9), (9, 0), (9, 0)]) gz_139_77 gm_141 rfl tv9 rd_6 rfl rfl rfl rfl rfl (c9_Rows_sumOfValues (d := d) (x0 := v9) tv9 (fun v10 => ?_))
          show wp l rho (d + 1) 139 80 [(2, x0), (0, x1)] [(0, v10)] h Q
          exact w_iret gz_139_80 gm_139 (k1 (v10) (by omega) (by omega))
        ·
          refine w_tswD (t := 81) gz_139_35 (by omega) rfl ?_
          refine w_iconst gz_139_81 (by decide) ?_
          exact w_iret gz_139_82 gm_139 (k0 )
  refine w_iload_n gz_139_0 rfl ?_
  refine w_iflt (t := 34) gz_139_1 rfl (fun u11 => ?_) (fun u11 => ?_)
  ·
    exact J34_0 
  ·
    refine w_iload_n gz_139_4 rfl ?_
    refine w_iconst gz_139_5 (by decide) ?_
    refine w_icge (t := 34) gz_139_6 rfl (fun u12 => ?_) (fun u12 => ?_)
    ·
      exact J34_0 
    ·
      refine w_aload_n gz_139_9 rfl ?_
      refine w_getR gz_139_10 t0 rd_9 rfl (fun v13 ev13 tv13 => ?_)
      refine w_iload_n gz_139_13 rfl ?_
      refine w_inv (k := 0) (as := [(0, x1)]) (r := []) (x := v13) (ls0 := [(2, v13), (0, x1)]) gz_139_14 gm_13 rfl tv13 rd_3 rfl rfl rfl rfl rfl ?_
      refine w_iload_n gz_13_0 rfl ?_
      refine w_iflt (t := 22) gz_13_1 rfl (fun u14 => by exfalso; omega) (fun u14 => ?_)
      refine w_iload_n gz_13_4 rfl ?_
      refine w_iconst gz_13_5 (by decide) ?_
      refine w_icge (t := 22) gz_13_6 rfl (fun u15 => by exfalso; omega) (fun u15 => ?_)
      refine w_aload_n gz_13_9 rfl ?_
      refine w_getR gz_13_10 tv13 rd_3 rfl (fun v16 ev16 tv16 => ?_)
      refine w_iload_n gz_13_13 rfl ?_
      refine w_iald gz_13_14 tv16 rd_25 (by omega) (by omega) (fun v17 ev17 pv17 qv17 => ?_)
      refine w_ifle (t := 22) gz_13_15 rfl (fun u18 => ?_) (fun u18 => ?_)
      ·
        refine w_iconst gz_13_22 (by decide) ?_
        refine w_bret gz_13_23 gm_13 (by omega) (by omega) ?_
        show wp l rho (d + 1) 139 17 [(2, x0), (0, x1)] [(0, 0)] h Q
        refine w_ifeq (t := 32) gz_139_17 rfl (fun u19 => ?_) (fun u19 => by exfalso; omega)
        refine w_iconst gz_139_32 (by decide) ?_
        exact w_iret gz_139_33 gm_139 (k0 )
      ·
        refine w_iconst gz_13_18 (by decide) ?_
        refine w_goto (t := 23) gz_13_19 rfl ?_
        refine w_bret gz_13_23 gm_13 (by omega) (by omega) ?_
        show wp l rho (d + 1) 139 17 [(2, x0), (0, x1)] [(0, 1)] h Q
        refine w_ifeq (t := 32) gz_139_17 rfl (fun u20 => by exfalso; omega) (fun u20 => ?_)
        refine w_aload_n gz_139_20 rfl ?_
        refine w_getR gz_139_21 t0 rd_9 rfl (fun v21 ev21 tv21 => ?_)
        refine w_getR gz_139_24 tv21 rd_6 rfl (fun v22 ev22 tv22 => ?_)
        refine w_iload_n gz_139_27 rfl ?_
        refine w_iald gz_139_28 tv22 rd_31 (by omega) (by omega) (fun v23 ev23 pv23 qv23 => ?_)
        refine w_goto (t := 33) gz_139_29 rfl ?_
        exact w_iret gz_139_33 gm_139 (k1 (v23) (by omega) (by omega))
theorem gz_143_0 : mz_pg 143 0 = some (.aload_n 0, 0, 0, 0) := by decide +kernel
theorem gz_143_1 : mz_pg 143 1 = some (.iconst 0, 0, 0, 0) := by decide +kernel
theorem gz_143_2 : mz_pg 143 2 = some (.putfield 1, 10, 0, 1213) := by decide +kernel
theorem gz_143_5 : mz_pg 143 5 = some (.aload_n 0, 0, 0, 0) := by decide +kernel
theorem gz_143_6 : mz_pg 143 6 = some (.lload_n 1, 0, 0, 0) := by decide +kernel
theorem gz_143_7 : mz_pg 143 7 = some (.invokevirtual 7, 1, 144, 1192) := by decide +kernel
theorem gz_143_10 : mz_pg 143 10 = some (.aload_n 0, 0, 0, 0) := by decide +kernel
theorem gz_143_11 : mz_pg 143 11 = some (.lload_n 3, 0, 0, 0) := by decide +kernel
theorem gz_143_12 : mz_pg 143 12 = some (.invokevirtual 7, 1, 144, 1192) := by decide +kernel
theorem gz_143_15 : mz_pg 143 15 = some (.aload_n 0, 0, 0, 0) := by decide +kernel
theorem gz_143_16 : mz_pg 143 16 = some (.lload 5, 0, 0, 0) := by decide +kernel
theorem gz_143_18 : mz_pg 143 18 = some (.invokevirtual 7, 1, 144, 1192) := by decide +kernel
theorem gz_143_21 : mz_pg 143 21 = some (.aload_n 0, 0, 0, 0) := by decide +kernel
theorem gz_143_22 : mz_pg 143 22 = some (.getfield 11, 10, 2, 1215) := by decide +kernel
theorem gz_143_25 : mz_pg 143 25 = some (.ireturn, 0, 0, 0) := by decide +kernel
theorem gm_143 : my_mm 143 7 (some .int) 3 10 := by unfold my_mm; decide +kernel
theorem c57_Model_feed {l : Launch} {rho : Nat → Int32} {d : Nat} {h : my_H} {Q : my_H → my_V → Prop} {x0 x1 x2 x3 : Int} (t0 : my_is 10 x0) (k0 : ∀ (h' : my_H) (y : Int), my_fr [(10, 0), (10, 2), (51, -1)] h h' → 0 ≤ y → y ≤ 1000 → h' x0 ((0 : Nat) : Int) = 0 → Q h' (0, y)) : wp l rho (d + 1) 143 0 [(2, x0), (1, x1), (9, 0), (1, x2), (9, 0), (1, x3), (9, 0)] [] h Q := by
  refine w_aload_n gz_143_0 rfl ?_
  refine w_iconst gz_143_1 (by decide) ?_
  refine w_putI gz_143_2 t0 rd_10 rfl (by omega) (by omega) rfl (fun h1 fh1 => ?_)
  have gh1 : my_fr [(10, 0), (10, 2), (51, -1)] h h1 := my_fr.up my_fr.rf t0 fh1 rfl
  refine w_aload_n gz_143_5 rfl ?_
  refine w_lload_n gz_143_6 rfl ?_
  refine w_inv (k := 2) (as := [(1, x1)]) (r := []) (x := x0) (ls0 := [(2, x0), (1, x1), (9, 0), (9, 0), (9, 0)]) gz_143_7 gm_144 rfl t0 rd_10 rfl rfl rfl rfl rfl (c10_Model_lay (d := d) (x0 := x0) (x1 := x1) t0 (fun h2 frh2 => ?_))
  have gh2 : my_fr [(10, 0), (10, 2), (51, -1)] h h2 := my_fr.tr gh1 (frh2.mo rfl)
  show wp l rho (d + 1) 143 10 [(2, x0), (1, x1), (9, 0), (1, x2), (9, 0), (1, x3), (9, 0)] [] h2 Q
  refine w_aload_n gz_143_10 rfl ?_
  refine w_lload_n gz_143_11 rfl ?_
  refine w_inv (k := 2) (as := [(1, x2)]) (r := []) (x := x0) (ls0 := [(2, x0), (1, x2), (9, 0), (9, 0), (9, 0)]) gz_143_12 gm_144 rfl t0 rd_10 rfl rfl rfl rfl rfl (c10_Model_lay (d := d) (x0 := x0) (x1 := x2) t0 (fun h3 frh3 => ?_))
  have gh3 : my_fr [(10, 0), (10, 2), (51, -1)] h h3 := my_fr.tr gh2 (frh3.mo rfl)
  show wp l rho (d + 1) 143 15 [(2, x0), (1, x1), (9, 0), (1, x2), (9, 0), (1, x3), (9, 0)] [] h3 Q
  refine w_aload_n gz_143_15 rfl ?_
  refine w_lload gz_143_16 rfl ?_
  refine w_inv (k := 2) (as := [(1, x3)]) (r := []) (x := x0) (ls0 := [(2, x0), (1, x3), (9, 0), (9, 0), (9, 0)]) gz_143_18 gm_144 rfl t0 rd_10 rfl rfl rfl rfl rfl (c10_Model_lay (d := d) (x0 := x0) (x1 := x3) t0 (fun h4 frh4 => ?_))
  have gh4 : my_fr [(10, 0), (10, 2), (51, -1)] h h4 := my_fr.tr gh3 (frh4.mo rfl)
  show wp l rho (d + 1) 143 21 [(2, x0), (1, x1), (9, 0), (1, x2), (9, 0), (1, x3), (9, 0)] [] h4 Q
  refine w_aload_n gz_143_21 rfl ?_
  refine w_getI gz_143_22 t0 rd_10 rfl (fun v5 ev5 pv5 qv5 => ?_)
  have c6 := ((my_fr.at frh4 t0 rfl).trans ((my_fr.at frh3 t0 rfl).trans ((my_fr.at frh2 t0 rfl).trans (my_up_self fh1))))
  exact w_iret gz_143_25 gm_143 (k0 h4 (v5) (gh4) (by omega) (by omega) (by omega))
theorem gz_155_0 : mz_pg 155 0 = some (.iconst 0, 0, 0, 0) := by decide +kernel
theorem gz_155_1 : mz_pg 155 1 = some (.istore_n 2, 0, 0, 0) := by decide +kernel
theorem gz_155_2 : mz_pg 155 2 = some (.iload_n 2, 0, 0, 0) := by decide +kernel
theorem gz_155_3 : mz_pg 155 3 = some (.iconst 3, 0, 0, 0) := by decide +kernel
theorem gz_155_4 : mz_pg 155 4 = some (.if_icmp .ge 49, 0, 0, 0) := by decide +kernel
theorem gz_155_7 : mz_pg 155 7 = some (.iconst 0, 0, 0, 0) := by decide +kernel
theorem gz_155_8 : mz_pg 155 8 = some (.istore_n 3, 0, 0, 0) := by decide +kernel
theorem gz_155_9 : mz_pg 155 9 = some (.iload_n 3, 0, 0, 0) := by decide +kernel
theorem gz_155_10 : mz_pg 155 10 = some (.bipush 20, 0, 0, 0) := by decide +kernel
theorem gz_155_12 : mz_pg 155 12 = some (.if_icmp .ge 35, 0, 0, 0) := by decide +kernel
theorem gz_155_15 : mz_pg 155 15 = some (.aload_n 0, 0, 0, 0) := by decide +kernel
theorem gz_155_16 : mz_pg 155 16 = some (.getfield 77, 10, 15, 1228) := by decide +kernel
theorem gz_155_19 : mz_pg 155 19 = some (.iload_n 1, 0, 0, 0) := by decide +kernel
theorem gz_155_20 : mz_pg 155 20 = some (.iload_n 2, 0, 0, 0) := by decide +kernel
theorem gz_155_21 : mz_pg 155 21 = some (.iload_n 3, 0, 0, 0) := by decide +kernel
theorem gz_155_22 : mz_pg 155 22 = some (.invokestatic 242, 1, 150, 1429) := by decide +kernel
theorem gz_155_25 : mz_pg 155 25 = some (.baload, 0, 0, 0) := by decide +kernel
theorem gz_155_26 : mz_pg 155 26 = some (.ifCond .eq 15, 0, 0, 0) := by decide +kernel
theorem gz_155_29 : mz_pg 155 29 = some (.aload_n 0, 0, 0, 0) := by decide +kernel
theorem gz_155_30 : mz_pg 155 30 = some (.iload_n 1, 0, 0, 0) := by decide +kernel
theorem gz_155_31 : mz_pg 155 31 = some (.iload_n 2, 0, 0, 0) := by decide +kernel
theorem gz_155_32 : mz_pg 155 32 = some (.iload_n 3, 0, 0, 0) := by decide +kernel
theorem gz_155_33 : mz_pg 155 33 = some (.invokevirtual 254, 1, 156, 1447) := by decide +kernel
theorem gz_155_36 : mz_pg 155 36 = some (.ifCond .ne 5, 0, 0, 0) := by decide +kernel
theorem gz_155_39 : mz_pg 155 39 = some (.iconst 0, 0, 0, 0) := by decide +kernel
theorem gz_155_40 : mz_pg 155 40 = some (.ireturn, 0, 0, 0) := by decide +kernel
theorem gz_155_41 : mz_pg 155 41 = some (.iinc 3 1, 0, 0, 0) := by decide +kernel
theorem gz_155_44 : mz_pg 155 44 = some (.goto (-35), 0, 0, 0) := by decide +kernel
theorem gz_155_47 : mz_pg 155 47 = some (.iinc 2 1, 0, 0, 0) := by decide +kernel
theorem gz_155_50 : mz_pg 155 50 = some (.goto (-48), 0, 0, 0) := by decide +kernel
theorem gz_155_53 : mz_pg 155 53 = some (.iconst 1, 0, 0, 0) := by decide +kernel
theorem gz_155_54 : mz_pg 155 54 = some (.ireturn, 0, 0, 0) := by decide +kernel
theorem gm_155 : my_mm 155 4 (some .boolean) 1 10 := by unfold my_mm; decide +kernel
theorem c58_Model_isLawful {l : Launch} {rho : Nat → Int32} {d : Nat} {h : my_H} {Q : my_H → my_V → Prop} {x0 x1 : Int} (t0 : my_is 10 x0) (a1 : 0 ≤ x1) (b1 : x1 ≤ 8) (k0 : Q h (0, 0)) (k1 : Q h (0, 1)) : wp l rho (d + 3) 155 0 [(2, x0), (0, x1), (9, 0), (9, 0)] [] h Q := by
  have J2_0 : ∀ (n : Nat) (p2_0 : Int), 0 ≤ p2_0 → p2_0 ≤ 3 → 4 - p2_0 ≤ (n : Int) → wp l rho (d + 3) 155 2 [(2, x0), (0, x1), (0, p2_0), (9, 0)] [] h Q := by
    intro n
    induction n with
    | zero => intro p2_0 q0_2_0 q1_2_0 hm_2_0; exfalso; omega
    | succ n ih_2_0 =>
      intro p2_0 q0_2_0 q1_2_0 hm_2_0
      have J9_0 : ∀ (n : Nat) (p9_0 : Int), p2_0 ≤ 2 → 0 ≤ p9_0 → p9_0 ≤ 20 → 21 - p9_0 ≤ (n : Int) → wp l rho (d + 3) 155 9 [(2, x0), (0, x1), (0, p2_0), (0, p9_0)] [] h Q := by
        intro n
        induction n with
        | zero => intro p9_0 q0_9_0 q1_9_0 q2_9_0 hm_9_0; exfalso; omega
        | succ n ih_9_0 =>
          intro p9_0 q0_9_0 q1_9_0 q2_9_0 hm_9_0
          have J41_0 : p9_0 ≤ 19 → wp l rho (d + 3) 155 41 [(2, x0), (0, x1), (0, p2_0), (0, p9_0)] [] h Q := by
            intro q0_41_0
            refine w_iinc (ls' := [(2, x0), (0, x1), (0, p2_0), (0, (p9_0 + 1))]) gz_155_41 rfl gm_155 rfl rfl rfl ⟨by omega, by omega⟩ ?_
            refine w_goto (t := 9) gz_155_44 rfl ?_
            exact ih_9_0 ((p9_0 + 1)) (by omega) (by omega) (by omega) (by omega)
          refine w_iload_n gz_155_9 rfl ?_
          refine w_bipush gz_155_10 (by decide) ?_
          refine w_icge (t := 47) gz_155_12 rfl (fun u1 => ?_) (fun u1 => ?_)
          ·
            refine w_iinc (ls' := [(2, x0), (0, x1), (0, (p2_0 + 1)), (0, p9_0)]) gz_155_47 rfl gm_155 rfl rfl rfl ⟨by omega, by omega⟩ ?_
            refine w_goto (t := 2) gz_155_50 rfl ?_
            refine w_weak (ls' := [(2, x0), (0, x1), (0, (p2_0 + 1)), (9, 0)]) (wk_e (wk_e (wk_e (wk_9 wk_n)))) ?_
            exact ih_2_0 ((p2_0 + 1)) (by omega) (by omega) (by omega)
          ·
            refine w_aload_n gz_155_15 rfl ?_
            refine w_getR gz_155_16 t0 rd_10 rfl (fun v2 ev2 tv2 => ?_)
            refine w_iload_n gz_155_19 rfl ?_
            refine w_iload_n gz_155_20 rfl ?_
            refine w_iload_n gz_155_21 rfl ?_
            refine w_inS (k := 0) (as := [(0, p9_0), (0, p2_0), (0, x1)]) (r := [(2, v2)]) (ls0 := [(0, x1), (0, p2_0), (0, p9_0)]) gz_155_22 gm_150 rfl rfl rfl rfl rfl rfl ?_
            refine w_bipush gz_150_0 (by decide) ?_
            refine w_iload_n gz_150_2 rfl ?_
            refine w_imul gz_150_3 ⟨by omega, by omega⟩ ?_
            refine w_bipush gz_150_4 (by decide) ?_
            refine w_iload_n gz_150_6 rfl ?_
            refine w_imul gz_150_7 ⟨by omega, by omega⟩ ?_
            refine w_iadd gz_150_8 ⟨by omega, by omega⟩ ?_
            refine w_iload_n gz_150_9 rfl ?_
            refine w_iadd gz_150_10 ⟨by omega, by omega⟩ ?_
            refine w_iret gz_150_11 gm_150 ?_
            show wp l rho (d + 3) 155 25 [(2, x0), (0, x1), (0, p2_0), (0, p9_0)] [(0, (((60 * x1) + (20 * p2_0)) + p9_0)), (2, v2)] h Q
            refine w_bald gz_155_25 tv2 rd_61 (by omega) (by omega) (fun v3 ev3 pv3 qv3 => ?_)
            refine w_ifeq (t := 41) gz_155_26 rfl (fun u4 => ?_) (fun u4 => ?_)
            ·
              exact J41_0 (by omega)
            ·
              refine w_aload_n gz_155_29 rfl ?_
              refine w_iload_n gz_155_30 rfl ?_
              refine w_iload_n gz_155_31 rfl ?_
              refine w_iload_n gz_155_32 rfl ?_
              refine w_inv (k := 4) (as := [(0, p9_0), (0, p2_0), (0, x1)]) (r := []) (x := x0) (ls0 := [(2, x0), (0, x1), (0, p2_0), (0, p9_0), (9, 0), (9, 0), (9, 0), (9, 0)]) gz_155_33 gm_156 rfl t0 rd_10 rfl rfl rfl rfl rfl (c13_Model_isLawfulRow (d := d) (x0 := x0) (x1 := x1) (x2 := p2_0) (x3 := p9_0) t0 (by omega) (by omega) (by omega) (by omega) (by omega) (by omega) ?_ ?_)
              ·
                show wp l rho (d + 3) 155 36 [(2, x0), (0, x1), (0, p2_0), (0, p9_0)] [(0, 0)] h Q
                refine w_ifne (t := 41) gz_155_36 rfl (fun u5 => by exfalso; omega) (fun u5 => ?_)
                refine w_iconst gz_155_39 (by decide) ?_
                exact w_bret gz_155_40 gm_155 (by omega) (by omega) (k0 )
              ·
                show wp l rho (d + 3) 155 36 [(2, x0), (0, x1), (0, p2_0), (0, p9_0)] [(0, 1)] h Q
                refine w_ifne (t := 41) gz_155_36 rfl (fun u6 => ?_) (fun u6 => by exfalso; omega)
                exact J41_0 (by omega)
      refine w_iload_n gz_155_2 rfl ?_
      refine w_iconst gz_155_3 (by decide) ?_
      refine w_icge (t := 53) gz_155_4 rfl (fun u7 => ?_) (fun u7 => ?_)
      ·
        refine w_iconst gz_155_53 (by decide) ?_
        exact w_bret gz_155_54 gm_155 (by omega) (by omega) (k1 )
      ·
        refine w_iconst gz_155_7 (by decide) ?_
        refine w_istore_n (ls' := [(2, x0), (0, x1), (0, p2_0), (0, 0)]) gz_155_8 gm_155 rfl rfl rfl ?_
        exact J9_0 21 (0) (by omega) (by omega) (by omega) (by omega)
  refine w_iconst gz_155_0 (by decide) ?_
  refine w_istore_n (ls' := [(2, x0), (0, x1), (0, 0), (9, 0)]) gz_155_1 gm_155 rfl rfl rfl ?_
  exact J2_0 4 (0) (by omega) (by omega) (by omega)
theorem gz_160_0 : mz_pg 160 0 = some (.aload_n 0, 0, 0, 0) := by decide +kernel
theorem gz_160_1 : mz_pg 160 1 = some (.iconst 0, 0, 0, 0) := by decide +kernel
theorem gz_160_2 : mz_pg 160 2 = some (.putfield 1, 10, 0, 1213) := by decide +kernel
theorem gz_160_5 : mz_pg 160 5 = some (.aload_n 0, 0, 0, 0) := by decide +kernel
theorem gz_160_6 : mz_pg 160 6 = some (.iload_n 1, 0, 0, 0) := by decide +kernel
theorem gz_160_7 : mz_pg 160 7 = some (.iload_n 2, 0, 0, 0) := by decide +kernel
theorem gz_160_8 : mz_pg 160 8 = some (.iload_n 3, 0, 0, 0) := by decide +kernel
theorem gz_160_9 : mz_pg 160 9 = some (.iload 4, 0, 0, 0) := by decide +kernel
theorem gz_160_11 : mz_pg 160 11 = some (.invokevirtual 286, 1, 161, 1464) := by decide +kernel
theorem gz_160_14 : mz_pg 160 14 = some (.ifCond .eq 15, 0, 0, 0) := by decide +kernel
theorem gz_160_17 : mz_pg 160 17 = some (.aload_n 0, 0, 0, 0) := by decide +kernel
theorem gz_160_18 : mz_pg 160 18 = some (.iload_n 1, 0, 0, 0) := by decide +kernel
theorem gz_160_19 : mz_pg 160 19 = some (.iload_n 2, 0, 0, 0) := by decide +kernel
theorem gz_160_20 : mz_pg 160 20 = some (.iload_n 3, 0, 0, 0) := by decide +kernel
theorem gz_160_21 : mz_pg 160 21 = some (.iload 4, 0, 0, 0) := by decide +kernel
theorem gz_160_23 : mz_pg 160 23 = some (.invokevirtual 290, 1, 163, 1470) := by decide +kernel
theorem gz_160_26 : mz_pg 160 26 = some (.ifCond .le 5, 0, 0, 0) := by decide +kernel
theorem gz_160_29 : mz_pg 160 29 = some (.iconst 0, 0, 0, 0) := by decide +kernel
theorem gz_160_30 : mz_pg 160 30 = some (.ireturn, 0, 0, 0) := by decide +kernel
theorem gz_160_31 : mz_pg 160 31 = some (.aload_n 0, 0, 0, 0) := by decide +kernel
theorem gz_160_32 : mz_pg 160 32 = some (.getfield 64, 10, 11, 1224) := by decide +kernel
theorem gz_160_35 : mz_pg 160 35 = some (.iconst 4, 0, 0, 0) := by decide +kernel
theorem gz_160_36 : mz_pg 160 36 = some (.iload_n 1, 0, 0, 0) := by decide +kernel
theorem gz_160_37 : mz_pg 160 37 = some (.imul, 0, 0, 0) := by decide +kernel
theorem gz_160_38 : mz_pg 160 38 = some (.iload_n 2, 0, 0, 0) := by decide +kernel
theorem gz_160_39 : mz_pg 160 39 = some (.iadd, 0, 0, 0) := by decide +kernel
theorem gz_160_40 : mz_pg 160 40 = some (.iload_n 3, 0, 0, 0) := by decide +kernel
theorem gz_160_41 : mz_pg 160 41 = some (.iastore, 0, 0, 0) := by decide +kernel
theorem gz_160_42 : mz_pg 160 42 = some (.aload_n 0, 0, 0, 0) := by decide +kernel
theorem gz_160_43 : mz_pg 160 43 = some (.getfield 67, 10, 12, 1225) := by decide +kernel
theorem gz_160_46 : mz_pg 160 46 = some (.iconst 4, 0, 0, 0) := by decide +kernel
theorem gz_160_47 : mz_pg 160 47 = some (.iload_n 1, 0, 0, 0) := by decide +kernel
theorem gz_160_48 : mz_pg 160 48 = some (.imul, 0, 0, 0) := by decide +kernel
theorem gz_160_49 : mz_pg 160 49 = some (.iload_n 2, 0, 0, 0) := by decide +kernel
theorem gz_160_50 : mz_pg 160 50 = some (.iadd, 0, 0, 0) := by decide +kernel
theorem gz_160_51 : mz_pg 160 51 = some (.iload 4, 0, 0, 0) := by decide +kernel
theorem gz_160_53 : mz_pg 160 53 = some (.iastore, 0, 0, 0) := by decide +kernel
theorem gz_160_54 : mz_pg 160 54 = some (.iconst 1, 0, 0, 0) := by decide +kernel
theorem gz_160_55 : mz_pg 160 55 = some (.ireturn, 0, 0, 0) := by decide +kernel
theorem gm_160 : my_mm 160 5 (some .boolean) 4 10 := by unfold my_mm; decide +kernel
theorem c59_Model_span {l : Launch} {rho : Nat → Int32} {d : Nat} {h : my_H} {Q : my_H → my_V → Prop} {x0 x1 x2 x3 x4 : Int} (t0 : my_is 10 x0) (k0 : ∀ (h' : my_H), my_fr [(10, 0), (57, -1), (58, -1)] h h' → h' x0 ((0 : Nat) : Int) = 0 → Q h' (0, 0)) (k1 : ∀ (h' : my_H), my_fr [(10, 0), (57, -1), (58, -1)] h h' → 0 ≤ x1 → x1 ≤ 2 → 0 ≤ x2 → x2 ≤ 3 → 0 ≤ x3 → x3 ≤ 19 → 0 ≤ x4 → x4 ≤ 19 → h' x0 ((0 : Nat) : Int) = 0 → Q h' (0, 1)) : wp l rho (d + 3) 160 0 [(2, x0), (0, x1), (0, x2), (0, x3), (0, x4)] [] h Q := by
  refine w_aload_n gz_160_0 rfl ?_
  refine w_iconst gz_160_1 (by decide) ?_
  refine w_putI gz_160_2 t0 rd_10 rfl (by omega) (by omega) rfl (fun h1 fh1 => ?_)
  have gh1 : my_fr [(10, 0), (57, -1), (58, -1)] h h1 := my_fr.up my_fr.rf t0 fh1 rfl
  refine w_aload_n gz_160_5 rfl ?_
  refine w_iload_n gz_160_6 rfl ?_
  refine w_iload_n gz_160_7 rfl ?_
  refine w_iload_n gz_160_8 rfl ?_
  refine w_iload gz_160_9 rfl ?_
  refine w_inv (k := 0) (as := [(0, x4), (0, x3), (0, x2), (0, x1)]) (r := []) (x := x0) (ls0 := [(2, x0), (0, x1), (0, x2), (0, x3), (0, x4)]) gz_160_11 gm_161 rfl t0 rd_10 rfl rfl rfl rfl rfl (c15_Model_isSpan (d := d) (x0 := x0) (x1 := x1) (x2 := x2) (x3 := x3) (x4 := x4) t0 ?_ (fun w2 w3 w4 w5 w6 w7 w8 w9 => ?_))
  ·
    show wp l rho (d + 3) 160 14 [(2, x0), (0, x1), (0, x2), (0, x3), (0, x4)] [(0, 0)] h1 Q
    refine w_ifeq (t := 29) gz_160_14 rfl (fun u10 => ?_) (fun u10 => by exfalso; omega)
    refine w_iconst gz_160_29 (by decide) ?_
    have c11 := (my_up_self fh1)
    exact w_bret gz_160_30 gm_160 (by omega) (by omega) (k0 h1 (gh1) (by omega))
  ·
    show wp l rho (d + 3) 160 14 [(2, x0), (0, x1), (0, x2), (0, x3), (0, x4)] [(0, 1)] h1 Q
    refine w_ifeq (t := 29) gz_160_14 rfl (fun u12 => by exfalso; omega) (fun u12 => ?_)
    refine w_aload_n gz_160_17 rfl ?_
    refine w_iload_n gz_160_18 rfl ?_
    refine w_iload_n gz_160_19 rfl ?_
    refine w_iload_n gz_160_20 rfl ?_
    refine w_iload gz_160_21 rfl ?_
    refine w_inv (k := 2) (as := [(0, x4), (0, x3), (0, x2), (0, x1)]) (r := []) (x := x0) (ls0 := [(2, x0), (0, x1), (0, x2), (0, x3), (0, x4), (9, 0), (9, 0)]) gz_160_23 gm_163 rfl t0 rd_10 rfl rfl rfl rfl rfl (c16_Model_outside (d := d) (x0 := x0) (x1 := x1) (x2 := x2) (x3 := x3) (x4 := x4) t0 (by omega) (by omega) (by omega) (by omega) (by omega) (by omega) (by omega) (by omega) (fun v13 w14 w15 => ?_))
    show wp l rho (d + 3) 160 26 [(2, x0), (0, x1), (0, x2), (0, x3), (0, x4)] [(0, v13)] h1 Q
    refine w_ifle (t := 31) gz_160_26 rfl (fun u16 => ?_) (fun u16 => ?_)
    ·
      refine w_aload_n gz_160_31 rfl ?_
      refine w_getR gz_160_32 t0 rd_10 rfl (fun v17 ev17 tv17 => ?_)
      refine w_iconst gz_160_35 (by decide) ?_
      refine w_iload_n gz_160_36 rfl ?_
      refine w_imul gz_160_37 ⟨by omega, by omega⟩ ?_
      refine w_iload_n gz_160_38 rfl ?_
      refine w_iadd gz_160_39 ⟨by omega, by omega⟩ ?_
      refine w_iload_n gz_160_40 rfl ?_
      refine w_iast gz_160_41 tv17 rd_57 (by omega) (by omega) (by omega) (by omega) (fun h18 fh18 => ?_)
      have gh18 : my_fr [(10, 0), (57, -1), (58, -1)] h h18 := my_fr.up gh1 tv17 fh18 rfl
      refine w_aload_n gz_160_42 rfl ?_
      refine w_getR gz_160_43 t0 rd_10 rfl (fun v19 ev19 tv19 => ?_)
      refine w_iconst gz_160_46 (by decide) ?_
      refine w_iload_n gz_160_47 rfl ?_
      refine w_imul gz_160_48 ⟨by omega, by omega⟩ ?_
      refine w_iload_n gz_160_49 rfl ?_
      refine w_iadd gz_160_50 ⟨by omega, by omega⟩ ?_
      refine w_iload gz_160_51 rfl ?_
      refine w_iast gz_160_53 tv19 rd_58 (by omega) (by omega) (by omega) (by omega) (fun h20 fh20 => ?_)
      have gh20 : my_fr [(10, 0), (57, -1), (58, -1)] h h20 := my_fr.up gh18 tv19 fh20 rfl
      refine w_iconst gz_160_54 (by decide) ?_
      have c21 := ((my_up_role fh20 t0 tv19 rfl).trans ((my_up_role fh18 t0 tv17 rfl).trans (my_up_self fh1)))
      exact w_bret gz_160_55 gm_160 (by omega) (by omega) (k1 h20 (gh20) (by omega) (by omega) (by omega) (by omega) (by omega) (by omega) (by omega) (by omega) (by omega))
    ·
      refine w_iconst gz_160_29 (by decide) ?_
      have c22 := (my_up_self fh1)
      exact w_bret gz_160_30 gm_160 (by omega) (by omega) (k0 h1 (gh1) (by omega))
theorem gz_165_0 : mz_pg 165 0 = some (.aload_n 0, 0, 0, 0) := by decide +kernel
theorem gz_165_1 : mz_pg 165 1 = some (.iconst 0, 0, 0, 0) := by decide +kernel
theorem gz_165_2 : mz_pg 165 2 = some (.putfield 1, 10, 0, 1213) := by decide +kernel
theorem gz_165_5 : mz_pg 165 5 = some (.aload_n 0, 0, 0, 0) := by decide +kernel
theorem gz_165_6 : mz_pg 165 6 = some (.iload_n 1, 0, 0, 0) := by decide +kernel
theorem gz_165_7 : mz_pg 165 7 = some (.iload_n 2, 0, 0, 0) := by decide +kernel
theorem gz_165_8 : mz_pg 165 8 = some (.invokevirtual 283, 1, 162, 1467) := by decide +kernel
theorem gz_165_11 : mz_pg 165 11 = some (.ifCond .eq 25, 0, 0, 0) := by decide +kernel
theorem gz_165_14 : mz_pg 165 14 = some (.iload_n 2, 0, 0, 0) := by decide +kernel
theorem gz_165_15 : mz_pg 165 15 = some (.ifCond .eq 21, 0, 0, 0) := by decide +kernel
theorem gz_165_18 : mz_pg 165 18 = some (.iload_n 3, 0, 0, 0) := by decide +kernel
theorem gz_165_19 : mz_pg 165 19 = some (.iconst (-1), 0, 0, 0) := by decide +kernel
theorem gz_165_20 : mz_pg 165 20 = some (.if_icmp .eq 18, 0, 0, 0) := by decide +kernel
theorem gz_165_23 : mz_pg 165 23 = some (.aload_n 0, 0, 0, 0) := by decide +kernel
theorem gz_165_24 : mz_pg 165 24 = some (.iload_n 3, 0, 0, 0) := by decide +kernel
theorem gz_165_25 : mz_pg 165 25 = some (.invokevirtual 257, 1, 149, 1426) := by decide +kernel
theorem gz_165_28 : mz_pg 165 28 = some (.ifCond .eq 8, 0, 0, 0) := by decide +kernel
theorem gz_165_31 : mz_pg 165 31 = some (.iload_n 3, 0, 0, 0) := by decide +kernel
theorem gz_165_32 : mz_pg 165 32 = some (.iload_n 1, 0, 0, 0) := by decide +kernel
theorem gz_165_33 : mz_pg 165 33 = some (.if_icmp .ne 5, 0, 0, 0) := by decide +kernel
theorem gz_165_36 : mz_pg 165 36 = some (.iconst 0, 0, 0, 0) := by decide +kernel
theorem gz_165_37 : mz_pg 165 37 = some (.ireturn, 0, 0, 0) := by decide +kernel
theorem gz_165_38 : mz_pg 165 38 = some (.aload_n 0, 0, 0, 0) := by decide +kernel
theorem gz_165_39 : mz_pg 165 39 = some (.getfield 70, 10, 13, 1226) := by decide +kernel
theorem gz_165_42 : mz_pg 165 42 = some (.iconst 4, 0, 0, 0) := by decide +kernel
theorem gz_165_43 : mz_pg 165 43 = some (.iload_n 1, 0, 0, 0) := by decide +kernel
theorem gz_165_44 : mz_pg 165 44 = some (.imul, 0, 0, 0) := by decide +kernel
theorem gz_165_45 : mz_pg 165 45 = some (.iload_n 2, 0, 0, 0) := by decide +kernel
theorem gz_165_46 : mz_pg 165 46 = some (.iadd, 0, 0, 0) := by decide +kernel
theorem gz_165_47 : mz_pg 165 47 = some (.iaload, 0, 0, 0) := by decide +kernel
theorem gz_165_48 : mz_pg 165 48 = some (.istore 4, 0, 0, 0) := by decide +kernel
theorem gz_165_50 : mz_pg 165 50 = some (.aload_n 0, 0, 0, 0) := by decide +kernel
theorem gz_165_51 : mz_pg 165 51 = some (.getfield 70, 10, 13, 1226) := by decide +kernel
theorem gz_165_54 : mz_pg 165 54 = some (.iconst 4, 0, 0, 0) := by decide +kernel
theorem gz_165_55 : mz_pg 165 55 = some (.iload_n 1, 0, 0, 0) := by decide +kernel
theorem gz_165_56 : mz_pg 165 56 = some (.imul, 0, 0, 0) := by decide +kernel
theorem gz_165_57 : mz_pg 165 57 = some (.iload_n 2, 0, 0, 0) := by decide +kernel
theorem gz_165_58 : mz_pg 165 58 = some (.iadd, 0, 0, 0) := by decide +kernel
theorem gz_165_59 : mz_pg 165 59 = some (.iload_n 3, 0, 0, 0) := by decide +kernel
theorem gz_165_60 : mz_pg 165 60 = some (.iastore, 0, 0, 0) := by decide +kernel
theorem gz_165_61 : mz_pg 165 61 = some (.aload_n 0, 0, 0, 0) := by decide +kernel
theorem gz_165_62 : mz_pg 165 62 = some (.iconst 0, 0, 0, 0) := by decide +kernel
theorem gz_165_63 : mz_pg 165 63 = some (.invokevirtual 260, 1, 155, 1444) := by decide +kernel
theorem gz_165_66 : mz_pg 165 66 = some (.ifCond .ne 17, 0, 0, 0) := by decide +kernel
theorem gz_165_69 : mz_pg 165 69 = some (.aload_n 0, 0, 0, 0) := by decide +kernel
theorem gz_165_70 : mz_pg 165 70 = some (.getfield 70, 10, 13, 1226) := by decide +kernel
theorem gz_165_73 : mz_pg 165 73 = some (.iconst 4, 0, 0, 0) := by decide +kernel
theorem gz_165_74 : mz_pg 165 74 = some (.iload_n 1, 0, 0, 0) := by decide +kernel
theorem gz_165_75 : mz_pg 165 75 = some (.imul, 0, 0, 0) := by decide +kernel
theorem gz_165_76 : mz_pg 165 76 = some (.iload_n 2, 0, 0, 0) := by decide +kernel
theorem gz_165_77 : mz_pg 165 77 = some (.iadd, 0, 0, 0) := by decide +kernel
theorem gz_165_78 : mz_pg 165 78 = some (.iload 4, 0, 0, 0) := by decide +kernel
theorem gz_165_80 : mz_pg 165 80 = some (.iastore, 0, 0, 0) := by decide +kernel
theorem gz_165_81 : mz_pg 165 81 = some (.iconst 0, 0, 0, 0) := by decide +kernel
theorem gz_165_82 : mz_pg 165 82 = some (.ireturn, 0, 0, 0) := by decide +kernel
theorem gz_165_83 : mz_pg 165 83 = some (.iconst 1, 0, 0, 0) := by decide +kernel
theorem gz_165_84 : mz_pg 165 84 = some (.ireturn, 0, 0, 0) := by decide +kernel
theorem gm_165 : my_mm 165 5 (some .boolean) 3 10 := by unfold my_mm; decide +kernel
theorem c60_Model_names {l : Launch} {rho : Nat → Int32} {d : Nat} {h : my_H} {Q : my_H → my_V → Prop} {x0 x1 x2 x3 : Int} (t0 : my_is 10 x0) (k0 : ∀ (h' : my_H), my_fr [(10, 0), (59, -1)] h h' → h' x0 ((0 : Nat) : Int) = 0 → Q h' (0, 0)) (k1 : ∀ (h' : my_H), my_fr [(10, 0), (59, -1)] h h' → 0 ≤ x1 → x1 ≤ 2 → 1 ≤ x2 → x2 ≤ 3 → (-1) ≤ x3 → x3 ≤ 2 → h' x0 ((0 : Nat) : Int) = 0 → Q h' (0, 1)) : wp l rho (d + 4) 165 0 [(2, x0), (0, x1), (0, x2), (0, x3), (9, 0)] [] h Q := by
  have J38_0 : ∀ (h38_0 : my_H), my_fr [(10, 0), (59, -1)] h h38_0 → 0 ≤ x1 → x1 ≤ 2 → 1 ≤ x2 → x2 ≤ 3 → (-1) ≤ x3 → x3 ≤ 2 → h38_0 x0 ((0 : Nat) : Int) = 0 → wp l rho (d + 4) 165 38 [(2, x0), (0, x1), (0, x2), (0, x3), (9, 0)] [] h38_0 Q := by
    intro h38_0 gh_38_0 q0_38_0 q1_38_0 q2_38_0 q3_38_0 q4_38_0 q5_38_0 c0_38_0
    refine w_aload_n gz_165_38 rfl ?_
    refine w_getR gz_165_39 t0 rd_10 rfl (fun v1 ev1 tv1 => ?_)
    refine w_iconst gz_165_42 (by decide) ?_
    refine w_iload_n gz_165_43 rfl ?_
    refine w_imul gz_165_44 ⟨by omega, by omega⟩ ?_
    refine w_iload_n gz_165_45 rfl ?_
    refine w_iadd gz_165_46 ⟨by omega, by omega⟩ ?_
    refine w_iald gz_165_47 tv1 rd_59 (by omega) (by omega) (fun v2 ev2 pv2 qv2 => ?_)
    refine w_istore (ls' := [(2, x0), (0, x1), (0, x2), (0, x3), (0, v2)]) gz_165_48 gm_165 rfl rfl rfl ?_
    refine w_aload_n gz_165_50 rfl ?_
    refine w_getR gz_165_51 t0 rd_10 rfl (fun v3 ev3 tv3 => ?_)
    have zv3 : v1 = v3 := (ev3.trans ev1.symm).symm
    subst zv3
    refine w_iconst gz_165_54 (by decide) ?_
    refine w_iload_n gz_165_55 rfl ?_
    refine w_imul gz_165_56 ⟨by omega, by omega⟩ ?_
    refine w_iload_n gz_165_57 rfl ?_
    refine w_iadd gz_165_58 ⟨by omega, by omega⟩ ?_
    refine w_iload_n gz_165_59 rfl ?_
    refine w_iast gz_165_60 tv1 rd_59 (by omega) (by omega) (by omega) (by omega) (fun h4 fh4 => ?_)
    have gh4 : my_fr [(10, 0), (59, -1)] h h4 := my_fr.up gh_38_0 tv1 fh4 rfl
    refine w_aload_n gz_165_61 rfl ?_
    refine w_iconst gz_165_62 (by decide) ?_
    refine w_inv (k := 2) (as := [(0, 0)]) (r := []) (x := x0) (ls0 := [(2, x0), (0, 0), (9, 0), (9, 0)]) gz_165_63 gm_155 rfl t0 rd_10 rfl rfl rfl rfl rfl (c58_Model_isLawful (d := d) (x0 := x0) (x1 := 0) t0 (by omega) (by omega) ?_ ?_)
    ·
      show wp l rho (d + 4) 165 66 [(2, x0), (0, x1), (0, x2), (0, x3), (0, v2)] [(0, 0)] h4 Q
      refine w_ifne (t := 83) gz_165_66 rfl (fun u5 => by exfalso; omega) (fun u5 => ?_)
      refine w_aload_n gz_165_69 rfl ?_
      refine w_getR gz_165_70 t0 rd_10 rfl (fun v6 ev6 tv6 => ?_)
      have zv6 : v1 = v6 := (ev6.trans ((my_up_role fh4 t0 tv1 rfl).trans ev1.symm)).symm
      subst zv6
      refine w_iconst gz_165_73 (by decide) ?_
      refine w_iload_n gz_165_74 rfl ?_
      refine w_imul gz_165_75 ⟨by omega, by omega⟩ ?_
      refine w_iload_n gz_165_76 rfl ?_
      refine w_iadd gz_165_77 ⟨by omega, by omega⟩ ?_
      refine w_iload gz_165_78 rfl ?_
      refine w_iast gz_165_80 tv1 rd_59 (by omega) (by omega) (by omega) (by omega) (fun h7 fh7 => ?_)
      have gh7 : my_fr [(10, 0), (59, -1)] h h7 := my_fr.up gh4 tv1 fh7 rfl
      refine w_iconst gz_165_81 (by decide) ?_
      have c8 := ((my_up_role fh7 t0 tv1 rfl).trans ((my_up_role fh4 t0 tv1 rfl).trans c0_38_0))
      exact w_bret gz_165_82 gm_165 (by omega) (by omega) (k0 h7 (gh7) (by omega))
    ·
      show wp l rho (d + 4) 165 66 [(2, x0), (0, x1), (0, x2), (0, x3), (0, v2)] [(0, 1)] h4 Q
      refine w_ifne (t := 83) gz_165_66 rfl (fun u9 => ?_) (fun u9 => by exfalso; omega)
      refine w_iconst gz_165_83 (by decide) ?_
      have c10 := ((my_up_role fh4 t0 tv1 rfl).trans c0_38_0)
      exact w_bret gz_165_84 gm_165 (by omega) (by omega) (k1 h4 (gh4) (by omega) (by omega) (by omega) (by omega) (by omega) (by omega) (by omega))
  refine w_aload_n gz_165_0 rfl ?_
  refine w_iconst gz_165_1 (by decide) ?_
  refine w_putI gz_165_2 t0 rd_10 rfl (by omega) (by omega) rfl (fun h11 fh11 => ?_)
  have gh11 : my_fr [(10, 0), (59, -1)] h h11 := my_fr.up my_fr.rf t0 fh11 rfl
  refine w_aload_n gz_165_5 rfl ?_
  refine w_iload_n gz_165_6 rfl ?_
  refine w_iload_n gz_165_7 rfl ?_
  refine w_inv (k := 0) (as := [(0, x2), (0, x1)]) (r := []) (x := x0) (ls0 := [(2, x0), (0, x1), (0, x2)]) gz_165_8 gm_162 rfl t0 rd_10 rfl rfl rfl rfl rfl ?_
  refine w_aload_n gz_162_0 rfl ?_
  refine w_iload_n gz_162_1 rfl ?_
  refine w_inv (k := 0) (as := [(0, x1)]) (r := []) (x := x0) (ls0 := [(2, x0), (0, x1)]) gz_162_2 gm_149 rfl t0 rd_10 rfl rfl rfl rfl rfl ?_
  refine w_iload_n gz_149_0 rfl ?_
  refine w_iflt (t := 22) gz_149_1 rfl (fun u12 => ?_) (fun u12 => ?_)
  ·
    refine w_iconst gz_149_22 (by decide) ?_
    refine w_bret gz_149_23 gm_149 (by omega) (by omega) ?_
    show wp l rho (d + 3) 162 5 [(2, x0), (0, x1), (0, x2)] [(0, 0)] h11 _
    refine w_ifeq (t := 26) gz_162_5 rfl (fun u13 => ?_) (fun u13 => by exfalso; omega)
    refine w_iconst gz_162_26 (by decide) ?_
    refine w_bret gz_162_27 gm_162 (by omega) (by omega) ?_
    show wp l rho (d + 4) 165 11 [(2, x0), (0, x1), (0, x2), (0, x3), (9, 0)] [(0, 0)] h11 Q
    refine w_ifeq (t := 36) gz_165_11 rfl (fun u14 => ?_) (fun u14 => by exfalso; omega)
    refine w_iconst gz_165_36 (by decide) ?_
    have c15 := (my_up_self fh11)
    exact w_bret gz_165_37 gm_165 (by omega) (by omega) (k0 h11 (gh11) (by omega))
  ·
    refine w_iload_n gz_149_4 rfl ?_
    refine w_iconst gz_149_5 (by decide) ?_
    refine w_icge (t := 22) gz_149_6 rfl (fun u16 => ?_) (fun u16 => ?_)
    ·
      refine w_iconst gz_149_22 (by decide) ?_
      refine w_bret gz_149_23 gm_149 (by omega) (by omega) ?_
      show wp l rho (d + 3) 162 5 [(2, x0), (0, x1), (0, x2)] [(0, 0)] h11 _
      refine w_ifeq (t := 26) gz_162_5 rfl (fun u17 => ?_) (fun u17 => by exfalso; omega)
      refine w_iconst gz_162_26 (by decide) ?_
      refine w_bret gz_162_27 gm_162 (by omega) (by omega) ?_
      show wp l rho (d + 4) 165 11 [(2, x0), (0, x1), (0, x2), (0, x3), (9, 0)] [(0, 0)] h11 Q
      refine w_ifeq (t := 36) gz_165_11 rfl (fun u18 => ?_) (fun u18 => by exfalso; omega)
      refine w_iconst gz_165_36 (by decide) ?_
      have c19 := (my_up_self fh11)
      exact w_bret gz_165_37 gm_165 (by omega) (by omega) (k0 h11 (gh11) (by omega))
    ·
      refine w_aload_n gz_149_9 rfl ?_
      refine w_getR gz_149_10 t0 rd_10 rfl (fun v20 ev20 tv20 => ?_)
      refine w_iload_n gz_149_13 rfl ?_
      refine w_iald gz_149_14 tv20 rd_56 (by omega) (by omega) (fun v21 ev21 pv21 qv21 => ?_)
      refine w_ifle (t := 22) gz_149_15 rfl (fun u22 => ?_) (fun u22 => ?_)
      ·
        refine w_iconst gz_149_22 (by decide) ?_
        refine w_bret gz_149_23 gm_149 (by omega) (by omega) ?_
        show wp l rho (d + 3) 162 5 [(2, x0), (0, x1), (0, x2)] [(0, 0)] h11 _
        refine w_ifeq (t := 26) gz_162_5 rfl (fun u23 => ?_) (fun u23 => by exfalso; omega)
        refine w_iconst gz_162_26 (by decide) ?_
        refine w_bret gz_162_27 gm_162 (by omega) (by omega) ?_
        show wp l rho (d + 4) 165 11 [(2, x0), (0, x1), (0, x2), (0, x3), (9, 0)] [(0, 0)] h11 Q
        refine w_ifeq (t := 36) gz_165_11 rfl (fun u24 => ?_) (fun u24 => by exfalso; omega)
        refine w_iconst gz_165_36 (by decide) ?_
        have c25 := (my_up_self fh11)
        exact w_bret gz_165_37 gm_165 (by omega) (by omega) (k0 h11 (gh11) (by omega))
      ·
        refine w_iconst gz_149_18 (by decide) ?_
        refine w_goto (t := 23) gz_149_19 rfl ?_
        refine w_bret gz_149_23 gm_149 (by omega) (by omega) ?_
        show wp l rho (d + 3) 162 5 [(2, x0), (0, x1), (0, x2)] [(0, 1)] h11 _
        refine w_ifeq (t := 26) gz_162_5 rfl (fun u26 => by exfalso; omega) (fun u26 => ?_)
        refine w_iload_n gz_162_8 rfl ?_
        refine w_iflt (t := 26) gz_162_9 rfl (fun u27 => ?_) (fun u27 => ?_)
        ·
          refine w_iconst gz_162_26 (by decide) ?_
          refine w_bret gz_162_27 gm_162 (by omega) (by omega) ?_
          show wp l rho (d + 4) 165 11 [(2, x0), (0, x1), (0, x2), (0, x3), (9, 0)] [(0, 0)] h11 Q
          refine w_ifeq (t := 36) gz_165_11 rfl (fun u28 => ?_) (fun u28 => by exfalso; omega)
          refine w_iconst gz_165_36 (by decide) ?_
          have c29 := (my_up_self fh11)
          exact w_bret gz_165_37 gm_165 (by omega) (by omega) (k0 h11 (gh11) (by omega))
        ·
          refine w_iload_n gz_162_12 rfl ?_
          refine w_aload_n gz_162_13 rfl ?_
          refine w_getR gz_162_14 t0 rd_10 rfl (fun v30 ev30 tv30 => ?_)
          have zv30 : v20 = v30 := (ev30.trans ev20.symm).symm
          subst zv30
          refine w_iload_n gz_162_17 rfl ?_
          refine w_iald gz_162_18 tv20 rd_56 (by omega) (by omega) (fun v31 ev31 pv31 qv31 => ?_)
          have zv31 := ev31.trans ev21.symm
          refine w_icge (t := 26) gz_162_19 rfl (fun u32 => ?_) (fun u32 => ?_)
          ·
            refine w_iconst gz_162_26 (by decide) ?_
            refine w_bret gz_162_27 gm_162 (by omega) (by omega) ?_
            show wp l rho (d + 4) 165 11 [(2, x0), (0, x1), (0, x2), (0, x3), (9, 0)] [(0, 0)] h11 Q
            refine w_ifeq (t := 36) gz_165_11 rfl (fun u33 => ?_) (fun u33 => by exfalso; omega)
            refine w_iconst gz_165_36 (by decide) ?_
            have c34 := (my_up_self fh11)
            exact w_bret gz_165_37 gm_165 (by omega) (by omega) (k0 h11 (gh11) (by omega))
          ·
            refine w_iconst gz_162_22 (by decide) ?_
            refine w_goto (t := 27) gz_162_23 rfl ?_
            refine w_bret gz_162_27 gm_162 (by omega) (by omega) ?_
            show wp l rho (d + 4) 165 11 [(2, x0), (0, x1), (0, x2), (0, x3), (9, 0)] [(0, 1)] h11 Q
            refine w_ifeq (t := 36) gz_165_11 rfl (fun u35 => by exfalso; omega) (fun u35 => ?_)
            refine w_iload_n gz_165_14 rfl ?_
            refine w_ifeq (t := 36) gz_165_15 rfl (fun u36 => ?_) (fun u36 => ?_)
            ·
              refine w_iconst gz_165_36 (by decide) ?_
              have c37 := (my_up_self fh11)
              exact w_bret gz_165_37 gm_165 (by omega) (by omega) (k0 h11 (gh11) (by omega))
            ·
              refine w_iload_n gz_165_18 rfl ?_
              refine w_iconst gz_165_19 (by decide) ?_
              refine w_iceq (t := 38) gz_165_20 rfl (fun u38 => ?_) (fun u38 => ?_)
              ·
                exact J38_0 h11 (gh11) (by omega) (by omega) (by omega) (by omega) (by omega) (by omega) ((my_up_self fh11).trans (by omega))
              ·
                refine w_aload_n gz_165_23 rfl ?_
                refine w_iload_n gz_165_24 rfl ?_
                refine w_inv (k := 0) (as := [(0, x3)]) (r := []) (x := x0) (ls0 := [(2, x0), (0, x3)]) gz_165_25 gm_149 rfl t0 rd_10 rfl rfl rfl rfl rfl ?_
                refine w_iload_n gz_149_0 rfl ?_
                refine w_iflt (t := 22) gz_149_1 rfl (fun u39 => ?_) (fun u39 => ?_)
                ·
                  refine w_iconst gz_149_22 (by decide) ?_
                  refine w_bret gz_149_23 gm_149 (by omega) (by omega) ?_
                  show wp l rho (d + 4) 165 28 [(2, x0), (0, x1), (0, x2), (0, x3), (9, 0)] [(0, 0)] h11 Q
                  refine w_ifeq (t := 36) gz_165_28 rfl (fun u40 => ?_) (fun u40 => by exfalso; omega)
                  refine w_iconst gz_165_36 (by decide) ?_
                  have c41 := (my_up_self fh11)
                  exact w_bret gz_165_37 gm_165 (by omega) (by omega) (k0 h11 (gh11) (by omega))
                ·
                  refine w_iload_n gz_149_4 rfl ?_
                  refine w_iconst gz_149_5 (by decide) ?_
                  refine w_icge (t := 22) gz_149_6 rfl (fun u42 => ?_) (fun u42 => ?_)
                  ·
                    refine w_iconst gz_149_22 (by decide) ?_
                    refine w_bret gz_149_23 gm_149 (by omega) (by omega) ?_
                    show wp l rho (d + 4) 165 28 [(2, x0), (0, x1), (0, x2), (0, x3), (9, 0)] [(0, 0)] h11 Q
                    refine w_ifeq (t := 36) gz_165_28 rfl (fun u43 => ?_) (fun u43 => by exfalso; omega)
                    refine w_iconst gz_165_36 (by decide) ?_
                    have c44 := (my_up_self fh11)
                    exact w_bret gz_165_37 gm_165 (by omega) (by omega) (k0 h11 (gh11) (by omega))
                  ·
                    refine w_aload_n gz_149_9 rfl ?_
                    refine w_getR gz_149_10 t0 rd_10 rfl (fun v45 ev45 tv45 => ?_)
                    have zv45 : v20 = v45 := (ev45.trans ev20.symm).symm
                    subst zv45
                    refine w_iload_n gz_149_13 rfl ?_
                    refine w_iald gz_149_14 tv20 rd_56 (by omega) (by omega) (fun v46 ev46 pv46 qv46 => ?_)
                    refine w_ifle (t := 22) gz_149_15 rfl (fun u47 => ?_) (fun u47 => ?_)
                    ·
                      refine w_iconst gz_149_22 (by decide) ?_
                      refine w_bret gz_149_23 gm_149 (by omega) (by omega) ?_
                      show wp l rho (d + 4) 165 28 [(2, x0), (0, x1), (0, x2), (0, x3), (9, 0)] [(0, 0)] h11 Q
                      refine w_ifeq (t := 36) gz_165_28 rfl (fun u48 => ?_) (fun u48 => by exfalso; omega)
                      refine w_iconst gz_165_36 (by decide) ?_
                      have c49 := (my_up_self fh11)
                      exact w_bret gz_165_37 gm_165 (by omega) (by omega) (k0 h11 (gh11) (by omega))
                    ·
                      refine w_iconst gz_149_18 (by decide) ?_
                      refine w_goto (t := 23) gz_149_19 rfl ?_
                      refine w_bret gz_149_23 gm_149 (by omega) (by omega) ?_
                      show wp l rho (d + 4) 165 28 [(2, x0), (0, x1), (0, x2), (0, x3), (9, 0)] [(0, 1)] h11 Q
                      refine w_ifeq (t := 36) gz_165_28 rfl (fun u50 => by exfalso; omega) (fun u50 => ?_)
                      refine w_iload_n gz_165_31 rfl ?_
                      refine w_iload_n gz_165_32 rfl ?_
                      refine w_icne (t := 38) gz_165_33 rfl (fun u51 => ?_) (fun u51 => ?_)
                      ·
                        exact J38_0 h11 (gh11) (by omega) (by omega) (by omega) (by omega) (by omega) (by omega) ((my_up_self fh11).trans (by omega))
                      ·
                        refine w_iconst gz_165_36 (by decide) ?_
                        have c52 := (my_up_self fh11)
                        exact w_bret gz_165_37 gm_165 (by omega) (by omega) (k0 h11 (gh11) (by omega))
theorem gz_166_0 : mz_pg 166 0 = some (.aload_n 0, 0, 0, 0) := by decide +kernel
theorem gz_166_1 : mz_pg 166 1 = some (.iconst 0, 0, 0, 0) := by decide +kernel
theorem gz_166_2 : mz_pg 166 2 = some (.putfield 1, 10, 0, 1213) := by decide +kernel
theorem gz_166_5 : mz_pg 166 5 = some (.aload_n 0, 0, 0, 0) := by decide +kernel
theorem gz_166_6 : mz_pg 166 6 = some (.iload_n 1, 0, 0, 0) := by decide +kernel
theorem gz_166_7 : mz_pg 166 7 = some (.iload_n 2, 0, 0, 0) := by decide +kernel
theorem gz_166_8 : mz_pg 166 8 = some (.invokevirtual 283, 1, 162, 1467) := by decide +kernel
theorem gz_166_11 : mz_pg 166 11 = some (.ifCond .eq 7, 0, 0, 0) := by decide +kernel
theorem gz_166_14 : mz_pg 166 14 = some (.iload_n 2, 0, 0, 0) := by decide +kernel
theorem gz_166_15 : mz_pg 166 15 = some (.ifCond .ne 5, 0, 0, 0) := by decide +kernel
theorem gz_166_18 : mz_pg 166 18 = some (.iconst 0, 0, 0, 0) := by decide +kernel
theorem gz_166_19 : mz_pg 166 19 = some (.ireturn, 0, 0, 0) := by decide +kernel
theorem gz_166_20 : mz_pg 166 20 = some (.aload_n 0, 0, 0, 0) := by decide +kernel
theorem gz_166_21 : mz_pg 166 21 = some (.getfield 73, 10, 14, 1227) := by decide +kernel
theorem gz_166_24 : mz_pg 166 24 = some (.iconst 4, 0, 0, 0) := by decide +kernel
theorem gz_166_25 : mz_pg 166 25 = some (.iload_n 1, 0, 0, 0) := by decide +kernel
theorem gz_166_26 : mz_pg 166 26 = some (.imul, 0, 0, 0) := by decide +kernel
theorem gz_166_27 : mz_pg 166 27 = some (.iload_n 2, 0, 0, 0) := by decide +kernel
theorem gz_166_28 : mz_pg 166 28 = some (.iadd, 0, 0, 0) := by decide +kernel
theorem gz_166_29 : mz_pg 166 29 = some (.baload, 0, 0, 0) := by decide +kernel
theorem gz_166_30 : mz_pg 166 30 = some (.istore 4, 0, 0, 0) := by decide +kernel
theorem gz_166_32 : mz_pg 166 32 = some (.aload_n 0, 0, 0, 0) := by decide +kernel
theorem gz_166_33 : mz_pg 166 33 = some (.getfield 73, 10, 14, 1227) := by decide +kernel
theorem gz_166_36 : mz_pg 166 36 = some (.iconst 4, 0, 0, 0) := by decide +kernel
theorem gz_166_37 : mz_pg 166 37 = some (.iload_n 1, 0, 0, 0) := by decide +kernel
theorem gz_166_38 : mz_pg 166 38 = some (.imul, 0, 0, 0) := by decide +kernel
theorem gz_166_39 : mz_pg 166 39 = some (.iload_n 2, 0, 0, 0) := by decide +kernel
theorem gz_166_40 : mz_pg 166 40 = some (.iadd, 0, 0, 0) := by decide +kernel
theorem gz_166_41 : mz_pg 166 41 = some (.iload_n 3, 0, 0, 0) := by decide +kernel
theorem gz_166_42 : mz_pg 166 42 = some (.bastore, 0, 0, 0) := by decide +kernel
theorem gz_166_43 : mz_pg 166 43 = some (.aload_n 0, 0, 0, 0) := by decide +kernel
theorem gz_166_44 : mz_pg 166 44 = some (.iconst 0, 0, 0, 0) := by decide +kernel
theorem gz_166_45 : mz_pg 166 45 = some (.invokevirtual 260, 1, 155, 1444) := by decide +kernel
theorem gz_166_48 : mz_pg 166 48 = some (.ifCond .ne 17, 0, 0, 0) := by decide +kernel
theorem gz_166_51 : mz_pg 166 51 = some (.aload_n 0, 0, 0, 0) := by decide +kernel
theorem gz_166_52 : mz_pg 166 52 = some (.getfield 73, 10, 14, 1227) := by decide +kernel
theorem gz_166_55 : mz_pg 166 55 = some (.iconst 4, 0, 0, 0) := by decide +kernel
theorem gz_166_56 : mz_pg 166 56 = some (.iload_n 1, 0, 0, 0) := by decide +kernel
theorem gz_166_57 : mz_pg 166 57 = some (.imul, 0, 0, 0) := by decide +kernel
theorem gz_166_58 : mz_pg 166 58 = some (.iload_n 2, 0, 0, 0) := by decide +kernel
theorem gz_166_59 : mz_pg 166 59 = some (.iadd, 0, 0, 0) := by decide +kernel
theorem gz_166_60 : mz_pg 166 60 = some (.iload 4, 0, 0, 0) := by decide +kernel
theorem gz_166_62 : mz_pg 166 62 = some (.bastore, 0, 0, 0) := by decide +kernel
theorem gz_166_63 : mz_pg 166 63 = some (.iconst 0, 0, 0, 0) := by decide +kernel
theorem gz_166_64 : mz_pg 166 64 = some (.ireturn, 0, 0, 0) := by decide +kernel
theorem gz_166_65 : mz_pg 166 65 = some (.iconst 1, 0, 0, 0) := by decide +kernel
theorem gz_166_66 : mz_pg 166 66 = some (.ireturn, 0, 0, 0) := by decide +kernel
theorem gm_166 : my_mm 166 5 (some .boolean) 3 10 := by unfold my_mm; decide +kernel
theorem c61_Model_once {l : Launch} {rho : Nat → Int32} {d : Nat} {h : my_H} {Q : my_H → my_V → Prop} {x0 x1 x2 x3 : Int} (t0 : my_is 10 x0) (a3 : 0 ≤ x3) (b3 : x3 ≤ 1) (k0 : ∀ (h' : my_H), my_fr [(10, 0), (60, -1)] h h' → h' x0 ((0 : Nat) : Int) = 0 → Q h' (0, 0)) (k1 : ∀ (h' : my_H), my_fr [(10, 0), (60, -1)] h h' → 0 ≤ x1 → x1 ≤ 2 → 1 ≤ x2 → x2 ≤ 3 → h' x0 ((0 : Nat) : Int) = 0 → Q h' (0, 1)) : wp l rho (d + 4) 166 0 [(2, x0), (0, x1), (0, x2), (0, x3), (9, 0)] [] h Q := by
  refine w_aload_n gz_166_0 rfl ?_
  refine w_iconst gz_166_1 (by decide) ?_
  refine w_putI gz_166_2 t0 rd_10 rfl (by omega) (by omega) rfl (fun h1 fh1 => ?_)
  have gh1 : my_fr [(10, 0), (60, -1)] h h1 := my_fr.up my_fr.rf t0 fh1 rfl
  refine w_aload_n gz_166_5 rfl ?_
  refine w_iload_n gz_166_6 rfl ?_
  refine w_iload_n gz_166_7 rfl ?_
  refine w_inv (k := 0) (as := [(0, x2), (0, x1)]) (r := []) (x := x0) (ls0 := [(2, x0), (0, x1), (0, x2)]) gz_166_8 gm_162 rfl t0 rd_10 rfl rfl rfl rfl rfl ?_
  refine w_aload_n gz_162_0 rfl ?_
  refine w_iload_n gz_162_1 rfl ?_
  refine w_inv (k := 0) (as := [(0, x1)]) (r := []) (x := x0) (ls0 := [(2, x0), (0, x1)]) gz_162_2 gm_149 rfl t0 rd_10 rfl rfl rfl rfl rfl ?_
  refine w_iload_n gz_149_0 rfl ?_
  refine w_iflt (t := 22) gz_149_1 rfl (fun u2 => ?_) (fun u2 => ?_)
  ·
    refine w_iconst gz_149_22 (by decide) ?_
    refine w_bret gz_149_23 gm_149 (by omega) (by omega) ?_
    show wp l rho (d + 3) 162 5 [(2, x0), (0, x1), (0, x2)] [(0, 0)] h1 _
    refine w_ifeq (t := 26) gz_162_5 rfl (fun u3 => ?_) (fun u3 => by exfalso; omega)
    refine w_iconst gz_162_26 (by decide) ?_
    refine w_bret gz_162_27 gm_162 (by omega) (by omega) ?_
    show wp l rho (d + 4) 166 11 [(2, x0), (0, x1), (0, x2), (0, x3), (9, 0)] [(0, 0)] h1 Q
    refine w_ifeq (t := 18) gz_166_11 rfl (fun u4 => ?_) (fun u4 => by exfalso; omega)
    refine w_iconst gz_166_18 (by decide) ?_
    have c5 := (my_up_self fh1)
    exact w_bret gz_166_19 gm_166 (by omega) (by omega) (k0 h1 (gh1) (by omega))
  ·
    refine w_iload_n gz_149_4 rfl ?_
    refine w_iconst gz_149_5 (by decide) ?_
    refine w_icge (t := 22) gz_149_6 rfl (fun u6 => ?_) (fun u6 => ?_)
    ·
      refine w_iconst gz_149_22 (by decide) ?_
      refine w_bret gz_149_23 gm_149 (by omega) (by omega) ?_
      show wp l rho (d + 3) 162 5 [(2, x0), (0, x1), (0, x2)] [(0, 0)] h1 _
      refine w_ifeq (t := 26) gz_162_5 rfl (fun u7 => ?_) (fun u7 => by exfalso; omega)
      refine w_iconst gz_162_26 (by decide) ?_
      refine w_bret gz_162_27 gm_162 (by omega) (by omega) ?_
      show wp l rho (d + 4) 166 11 [(2, x0), (0, x1), (0, x2), (0, x3), (9, 0)] [(0, 0)] h1 Q
      refine w_ifeq (t := 18) gz_166_11 rfl (fun u8 => ?_) (fun u8 => by exfalso; omega)
      refine w_iconst gz_166_18 (by decide) ?_
      have c9 := (my_up_self fh1)
      exact w_bret gz_166_19 gm_166 (by omega) (by omega) (k0 h1 (gh1) (by omega))
    ·
      refine w_aload_n gz_149_9 rfl ?_
      refine w_getR gz_149_10 t0 rd_10 rfl (fun v10 ev10 tv10 => ?_)
      refine w_iload_n gz_149_13 rfl ?_
      refine w_iald gz_149_14 tv10 rd_56 (by omega) (by omega) (fun v11 ev11 pv11 qv11 => ?_)
      refine w_ifle (t := 22) gz_149_15 rfl (fun u12 => ?_) (fun u12 => ?_)
      ·
        refine w_iconst gz_149_22 (by decide) ?_
        refine w_bret gz_149_23 gm_149 (by omega) (by omega) ?_
        show wp l rho (d + 3) 162 5 [(2, x0), (0, x1), (0, x2)] [(0, 0)] h1 _
        refine w_ifeq (t := 26) gz_162_5 rfl (fun u13 => ?_) (fun u13 => by exfalso; omega)
        refine w_iconst gz_162_26 (by decide) ?_
        refine w_bret gz_162_27 gm_162 (by omega) (by omega) ?_
        show wp l rho (d + 4) 166 11 [(2, x0), (0, x1), (0, x2), (0, x3), (9, 0)] [(0, 0)] h1 Q
        refine w_ifeq (t := 18) gz_166_11 rfl (fun u14 => ?_) (fun u14 => by exfalso; omega)
        refine w_iconst gz_166_18 (by decide) ?_
        have c15 := (my_up_self fh1)
        exact w_bret gz_166_19 gm_166 (by omega) (by omega) (k0 h1 (gh1) (by omega))
      ·
        refine w_iconst gz_149_18 (by decide) ?_
        refine w_goto (t := 23) gz_149_19 rfl ?_
        refine w_bret gz_149_23 gm_149 (by omega) (by omega) ?_
        show wp l rho (d + 3) 162 5 [(2, x0), (0, x1), (0, x2)] [(0, 1)] h1 _
        refine w_ifeq (t := 26) gz_162_5 rfl (fun u16 => by exfalso; omega) (fun u16 => ?_)
        refine w_iload_n gz_162_8 rfl ?_
        refine w_iflt (t := 26) gz_162_9 rfl (fun u17 => ?_) (fun u17 => ?_)
        ·
          refine w_iconst gz_162_26 (by decide) ?_
          refine w_bret gz_162_27 gm_162 (by omega) (by omega) ?_
          show wp l rho (d + 4) 166 11 [(2, x0), (0, x1), (0, x2), (0, x3), (9, 0)] [(0, 0)] h1 Q
          refine w_ifeq (t := 18) gz_166_11 rfl (fun u18 => ?_) (fun u18 => by exfalso; omega)
          refine w_iconst gz_166_18 (by decide) ?_
          have c19 := (my_up_self fh1)
          exact w_bret gz_166_19 gm_166 (by omega) (by omega) (k0 h1 (gh1) (by omega))
        ·
          refine w_iload_n gz_162_12 rfl ?_
          refine w_aload_n gz_162_13 rfl ?_
          refine w_getR gz_162_14 t0 rd_10 rfl (fun v20 ev20 tv20 => ?_)
          have zv20 : v10 = v20 := (ev20.trans ev10.symm).symm
          subst zv20
          refine w_iload_n gz_162_17 rfl ?_
          refine w_iald gz_162_18 tv10 rd_56 (by omega) (by omega) (fun v21 ev21 pv21 qv21 => ?_)
          have zv21 := ev21.trans ev11.symm
          refine w_icge (t := 26) gz_162_19 rfl (fun u22 => ?_) (fun u22 => ?_)
          ·
            refine w_iconst gz_162_26 (by decide) ?_
            refine w_bret gz_162_27 gm_162 (by omega) (by omega) ?_
            show wp l rho (d + 4) 166 11 [(2, x0), (0, x1), (0, x2), (0, x3), (9, 0)] [(0, 0)] h1 Q
            refine w_ifeq (t := 18) gz_166_11 rfl (fun u23 => ?_) (fun u23 => by exfalso; omega)
            refine w_iconst gz_166_18 (by decide) ?_
            have c24 := (my_up_self fh1)
            exact w_bret gz_166_19 gm_166 (by omega) (by omega) (k0 h1 (gh1) (by omega))
          ·
            refine w_iconst gz_162_22 (by decide) ?_
            refine w_goto (t := 27) gz_162_23 rfl ?_
            refine w_bret gz_162_27 gm_162 (by omega) (by omega) ?_
            show wp l rho (d + 4) 166 11 [(2, x0), (0, x1), (0, x2), (0, x3), (9, 0)] [(0, 1)] h1 Q
            refine w_ifeq (t := 18) gz_166_11 rfl (fun u25 => by exfalso; omega) (fun u25 => ?_)
            refine w_iload_n gz_166_14 rfl ?_
            refine w_ifne (t := 20) gz_166_15 rfl (fun u26 => ?_) (fun u26 => ?_)
            ·
              refine w_aload_n gz_166_20 rfl ?_
              refine w_getR gz_166_21 t0 rd_10 rfl (fun v27 ev27 tv27 => ?_)
              refine w_iconst gz_166_24 (by decide) ?_
              refine w_iload_n gz_166_25 rfl ?_
              refine w_imul gz_166_26 ⟨by omega, by omega⟩ ?_
              refine w_iload_n gz_166_27 rfl ?_
              refine w_iadd gz_166_28 ⟨by omega, by omega⟩ ?_
              refine w_bald gz_166_29 tv27 rd_60 (by omega) (by omega) (fun v28 ev28 pv28 qv28 => ?_)
              refine w_istore (ls' := [(2, x0), (0, x1), (0, x2), (0, x3), (0, v28)]) gz_166_30 gm_166 rfl rfl rfl ?_
              refine w_aload_n gz_166_32 rfl ?_
              refine w_getR gz_166_33 t0 rd_10 rfl (fun v29 ev29 tv29 => ?_)
              have zv29 : v27 = v29 := (ev29.trans ev27.symm).symm
              subst zv29
              refine w_iconst gz_166_36 (by decide) ?_
              refine w_iload_n gz_166_37 rfl ?_
              refine w_imul gz_166_38 ⟨by omega, by omega⟩ ?_
              refine w_iload_n gz_166_39 rfl ?_
              refine w_iadd gz_166_40 ⟨by omega, by omega⟩ ?_
              refine w_iload_n gz_166_41 rfl ?_
              refine w_bast gz_166_42 tv27 rd_60 (by omega) (by omega) (by omega) (by omega) (fun h30 fh30 => ?_)
              have gh30 : my_fr [(10, 0), (60, -1)] h h30 := my_fr.up gh1 tv27 fh30 rfl
              refine w_aload_n gz_166_43 rfl ?_
              refine w_iconst gz_166_44 (by decide) ?_
              refine w_inv (k := 2) (as := [(0, 0)]) (r := []) (x := x0) (ls0 := [(2, x0), (0, 0), (9, 0), (9, 0)]) gz_166_45 gm_155 rfl t0 rd_10 rfl rfl rfl rfl rfl (c58_Model_isLawful (d := d) (x0 := x0) (x1 := 0) t0 (by omega) (by omega) ?_ ?_)
              ·
                show wp l rho (d + 4) 166 48 [(2, x0), (0, x1), (0, x2), (0, x3), (0, v28)] [(0, 0)] h30 Q
                refine w_ifne (t := 65) gz_166_48 rfl (fun u31 => by exfalso; omega) (fun u31 => ?_)
                refine w_aload_n gz_166_51 rfl ?_
                refine w_getR gz_166_52 t0 rd_10 rfl (fun v32 ev32 tv32 => ?_)
                have zv32 : v27 = v32 := (ev32.trans ((my_up_role fh30 t0 tv27 rfl).trans ev27.symm)).symm
                subst zv32
                refine w_iconst gz_166_55 (by decide) ?_
                refine w_iload_n gz_166_56 rfl ?_
                refine w_imul gz_166_57 ⟨by omega, by omega⟩ ?_
                refine w_iload_n gz_166_58 rfl ?_
                refine w_iadd gz_166_59 ⟨by omega, by omega⟩ ?_
                refine w_iload gz_166_60 rfl ?_
                refine w_bast gz_166_62 tv27 rd_60 (by omega) (by omega) (by omega) (by omega) (fun h33 fh33 => ?_)
                have gh33 : my_fr [(10, 0), (60, -1)] h h33 := my_fr.up gh30 tv27 fh33 rfl
                refine w_iconst gz_166_63 (by decide) ?_
                have c34 := ((my_up_role fh33 t0 tv27 rfl).trans ((my_up_role fh30 t0 tv27 rfl).trans (my_up_self fh1)))
                exact w_bret gz_166_64 gm_166 (by omega) (by omega) (k0 h33 (gh33) (by omega))
              ·
                show wp l rho (d + 4) 166 48 [(2, x0), (0, x1), (0, x2), (0, x3), (0, v28)] [(0, 1)] h30 Q
                refine w_ifne (t := 65) gz_166_48 rfl (fun u35 => ?_) (fun u35 => by exfalso; omega)
                refine w_iconst gz_166_65 (by decide) ?_
                have c36 := ((my_up_role fh30 t0 tv27 rfl).trans (my_up_self fh1))
                exact w_bret gz_166_66 gm_166 (by omega) (by omega) (k1 h30 (gh30) (by omega) (by omega) (by omega) (by omega) (by omega))
            ·
              refine w_iconst gz_166_18 (by decide) ?_
              have c37 := (my_up_self fh1)
              exact w_bret gz_166_19 gm_166 (by omega) (by omega) (k0 h1 (gh1) (by omega))
theorem gz_19_0 : mz_pg 19 0 = some (.iconst 0, 0, 0, 0) := by decide +kernel
theorem gz_19_1 : mz_pg 19 1 = some (.istore_n 2, 0, 0, 0) := by decide +kernel
theorem gz_19_2 : mz_pg 19 2 = some (.iload_n 2, 0, 0, 0) := by decide +kernel
theorem gz_19_3 : mz_pg 19 3 = some (.aload_n 0, 0, 0, 0) := by decide +kernel
theorem gz_19_4 : mz_pg 19 4 = some (.getfield 21, 3, 3, 153) := by decide +kernel
theorem gz_19_7 : mz_pg 19 7 = some (.arraylength, 0, 0, 0) := by decide +kernel
theorem gz_19_8 : mz_pg 19 8 = some (.if_icmp .ge 115, 0, 0, 0) := by decide +kernel
theorem gz_19_11 : mz_pg 19 11 = some (.iload_n 2, 0, 0, 0) := by decide +kernel
theorem gz_19_12 : mz_pg 19 12 = some (.iconst 4, 0, 0, 0) := by decide +kernel
theorem gz_19_13 : mz_pg 19 13 = some (.idiv, 0, 0, 0) := by decide +kernel
theorem gz_19_14 : mz_pg 19 14 = some (.istore_n 3, 0, 0, 0) := by decide +kernel
theorem gz_19_15 : mz_pg 19 15 = some (.iload_n 2, 0, 0, 0) := by decide +kernel
theorem gz_19_16 : mz_pg 19 16 = some (.iconst 4, 0, 0, 0) := by decide +kernel
theorem gz_19_17 : mz_pg 19 17 = some (.irem, 0, 0, 0) := by decide +kernel
theorem gz_19_18 : mz_pg 19 18 = some (.istore 4, 0, 0, 0) := by decide +kernel
theorem gz_19_20 : mz_pg 19 20 = some (.iconst 0, 0, 0, 0) := by decide +kernel
theorem gz_19_21 : mz_pg 19 21 = some (.istore 5, 0, 0, 0) := by decide +kernel
theorem gz_19_23 : mz_pg 19 23 = some (.aload_n 1, 0, 0, 0) := by decide +kernel
theorem gz_19_24 : mz_pg 19 24 = some (.iload_n 3, 0, 0, 0) := by decide +kernel
theorem gz_19_25 : mz_pg 19 25 = some (.iload 4, 0, 0, 0) := by decide +kernel
theorem gz_19_27 : mz_pg 19 27 = some (.aload_n 0, 0, 0, 0) := by decide +kernel
theorem gz_19_28 : mz_pg 19 28 = some (.getfield 15, 3, 1, 149) := by decide +kernel
theorem gz_19_31 : mz_pg 19 31 = some (.iload_n 2, 0, 0, 0) := by decide +kernel
theorem gz_19_32 : mz_pg 19 32 = some (.iaload, 0, 0, 0) := by decide +kernel
theorem gz_19_33 : mz_pg 19 33 = some (.aload_n 0, 0, 0, 0) := by decide +kernel
theorem gz_19_34 : mz_pg 19 34 = some (.getfield 18, 3, 2, 151) := by decide +kernel
theorem gz_19_37 : mz_pg 19 37 = some (.iload_n 2, 0, 0, 0) := by decide +kernel
theorem gz_19_38 : mz_pg 19 38 = some (.iaload, 0, 0, 0) := by decide +kernel
theorem gz_19_39 : mz_pg 19 39 = some (.invokevirtual 36, 1, 20, 607) := by decide +kernel
theorem gz_19_42 : mz_pg 19 42 = some (.ifCond .le 9, 0, 0, 0) := by decide +kernel
theorem gz_19_45 : mz_pg 19 45 = some (.iconst 1, 0, 0, 0) := by decide +kernel
theorem gz_19_46 : mz_pg 19 46 = some (.istore 5, 0, 0, 0) := by decide +kernel
theorem gz_19_48 : mz_pg 19 48 = some (.goto 57, 0, 0, 0) := by decide +kernel
theorem gz_19_51 : mz_pg 19 51 = some (.aload_n 0, 0, 0, 0) := by decide +kernel
theorem gz_19_52 : mz_pg 19 52 = some (.getfield 21, 3, 3, 153) := by decide +kernel
theorem gz_19_55 : mz_pg 19 55 = some (.iload_n 2, 0, 0, 0) := by decide +kernel
theorem gz_19_56 : mz_pg 19 56 = some (.iaload, 0, 0, 0) := by decide +kernel
theorem gz_19_57 : mz_pg 19 57 = some (.iconst (-1), 0, 0, 0) := by decide +kernel
theorem gz_19_58 : mz_pg 19 58 = some (.if_icmp .eq 25, 0, 0, 0) := by decide +kernel
theorem gz_19_61 : mz_pg 19 61 = some (.aload_n 1, 0, 0, 0) := by decide +kernel
theorem gz_19_62 : mz_pg 19 62 = some (.iload_n 3, 0, 0, 0) := by decide +kernel
theorem gz_19_63 : mz_pg 19 63 = some (.iload 4, 0, 0, 0) := by decide +kernel
theorem gz_19_65 : mz_pg 19 65 = some (.aload_n 0, 0, 0, 0) := by decide +kernel
theorem gz_19_66 : mz_pg 19 66 = some (.getfield 21, 3, 3, 153) := by decide +kernel
theorem gz_19_69 : mz_pg 19 69 = some (.iload_n 2, 0, 0, 0) := by decide +kernel
theorem gz_19_70 : mz_pg 19 70 = some (.iaload, 0, 0, 0) := by decide +kernel
theorem gz_19_71 : mz_pg 19 71 = some (.invokestatic 42, 1, 21, 611) := by decide +kernel
theorem gz_19_74 : mz_pg 19 74 = some (.ifCond .ne 9, 0, 0, 0) := by decide +kernel
theorem gz_19_77 : mz_pg 19 77 = some (.iconst 2, 0, 0, 0) := by decide +kernel
theorem gz_19_78 : mz_pg 19 78 = some (.istore 5, 0, 0, 0) := by decide +kernel
theorem gz_19_80 : mz_pg 19 80 = some (.goto 25, 0, 0, 0) := by decide +kernel
theorem gz_19_83 : mz_pg 19 83 = some (.aload_n 0, 0, 0, 0) := by decide +kernel
theorem gz_19_84 : mz_pg 19 84 = some (.getfield 24, 3, 4, 155) := by decide +kernel
theorem gz_19_87 : mz_pg 19 87 = some (.iload_n 2, 0, 0, 0) := by decide +kernel
theorem gz_19_88 : mz_pg 19 88 = some (.baload, 0, 0, 0) := by decide +kernel
theorem gz_19_89 : mz_pg 19 89 = some (.ifCond .eq 16, 0, 0, 0) := by decide +kernel
theorem gz_19_92 : mz_pg 19 92 = some (.aload_n 1, 0, 0, 0) := by decide +kernel
theorem gz_19_93 : mz_pg 19 93 = some (.iload_n 3, 0, 0, 0) := by decide +kernel
theorem gz_19_94 : mz_pg 19 94 = some (.iload 4, 0, 0, 0) := by decide +kernel
theorem gz_19_96 : mz_pg 19 96 = some (.invokestatic 46, 1, 22, 615) := by decide +kernel
theorem gz_19_99 : mz_pg 19 99 = some (.ifCond .ne 6, 0, 0, 0) := by decide +kernel
theorem gz_19_102 : mz_pg 19 102 = some (.iconst 3, 0, 0, 0) := by decide +kernel
theorem gz_19_103 : mz_pg 19 103 = some (.istore 5, 0, 0, 0) := by decide +kernel
theorem gz_19_105 : mz_pg 19 105 = some (.iload 5, 0, 0, 0) := by decide +kernel
theorem gz_19_107 : mz_pg 19 107 = some (.ifCond .eq 10, 0, 0, 0) := by decide +kernel
theorem gz_19_110 : mz_pg 19 110 = some (.iconst 4, 0, 0, 0) := by decide +kernel
theorem gz_19_111 : mz_pg 19 111 = some (.iload_n 2, 0, 0, 0) := by decide +kernel
theorem gz_19_112 : mz_pg 19 112 = some (.imul, 0, 0, 0) := by decide +kernel
theorem gz_19_113 : mz_pg 19 113 = some (.iload 5, 0, 0, 0) := by decide +kernel
theorem gz_19_115 : mz_pg 19 115 = some (.iadd, 0, 0, 0) := by decide +kernel
theorem gz_19_116 : mz_pg 19 116 = some (.ireturn, 0, 0, 0) := by decide +kernel
theorem gz_19_117 : mz_pg 19 117 = some (.iinc 2 1, 0, 0, 0) := by decide +kernel
theorem gz_19_120 : mz_pg 19 120 = some (.goto (-118), 0, 0, 0) := by decide +kernel
theorem gz_19_123 : mz_pg 19 123 = some (.iconst (-1), 0, 0, 0) := by decide +kernel
theorem gz_19_124 : mz_pg 19 124 = some (.ireturn, 0, 0, 0) := by decide +kernel
theorem gm_19 : my_mm 19 6 (some .int) 1 3 := by unfold my_mm; decide +kernel
theorem rd_28 : my_rd 28 = .inl (0, 12, [(0, -1, 2)]) := rfl
theorem rd_29 : my_rd 29 = .inl (1, 12, [(0, 0, 1)]) := rfl
theorem c62_Laws_firstBroken {l : Launch} {rho : Nat → Int32} {d : Nat} {h : my_H} {Q : my_H → my_V → Prop} {x0 x1 : Int} (t0 : my_is 3 x0) (t1 : my_is 6 x1) (k0 : Q h (0, (-1))) (k1 : ∀ (y : Int), 1 ≤ y → y ≤ 47 → Q h (0, y)) : wp l rho (d + 2) 19 0 [(2, x0), (2, x1), (9, 0), (9, 0), (9, 0), (9, 0)] [] h Q := by
  have J2_0 : ∀ (n : Nat) (p2_0 : Int), 0 ≤ p2_0 → p2_0 ≤ 12 → 13 - p2_0 ≤ (n : Int) → wp l rho (d + 2) 19 2 [(2, x0), (2, x1), (0, p2_0), (9, 0), (9, 0), (9, 0)] [] h Q := by
    intro n
    induction n with
    | zero => intro p2_0 q0_2_0 q1_2_0 hm_2_0; exfalso; omega
    | succ n ih_2_0 =>
      intro p2_0 q0_2_0 q1_2_0 hm_2_0
      have J105_2 : ∀ (p105_0 p105_1 p105_2 : Int), p2_0 ≤ 11 → 0 ≤ p105_0 → p105_0 ≤ 2 → 0 ≤ p105_1 → p105_1 ≤ 3 → 2 ≤ p105_2 → p105_2 ≤ 3 → wp l rho (d + 2) 19 105 [(2, x0), (2, x1), (0, p2_0), (0, p105_0), (0, p105_1), (0, p105_2)] [] h Q := by
        intro p105_0 p105_1 p105_2 q0_105_2 q1_105_2 q2_105_2 q3_105_2 q4_105_2 q5_105_2 q6_105_2
        refine w_iload gz_19_105 rfl ?_
        refine w_ifeq (t := 117) gz_19_107 rfl (fun u1 => by exfalso; omega) (fun u1 => ?_)
        refine w_iconst gz_19_110 (by decide) ?_
        refine w_iload_n gz_19_111 rfl ?_
        refine w_imul gz_19_112 ⟨by omega, by omega⟩ ?_
        refine w_iload gz_19_113 rfl ?_
        refine w_iadd gz_19_115 ⟨by omega, by omega⟩ ?_
        exact w_iret gz_19_116 gm_19 (k1 (((4 * p2_0) + p105_2)) (by omega) (by omega))
      have J105_0 : ∀ (p105_0 p105_1 : Int), p2_0 ≤ 11 → 0 ≤ p105_0 → p105_0 ≤ 2 → 0 ≤ p105_1 → p105_1 ≤ 3 → wp l rho (d + 2) 19 105 [(2, x0), (2, x1), (0, p2_0), (0, p105_0), (0, p105_1), (0, 0)] [] h Q := by
        intro p105_0 p105_1 q0_105_0 q1_105_0 q2_105_0 q3_105_0 q4_105_0
        refine w_iload gz_19_105 rfl ?_
        refine w_ifeq (t := 117) gz_19_107 rfl (fun u2 => ?_) (fun u2 => by exfalso; omega)
        refine w_iinc (ls' := [(2, x0), (2, x1), (0, (p2_0 + 1)), (0, p105_0), (0, p105_1), (0, 0)]) gz_19_117 rfl gm_19 rfl rfl rfl ⟨by omega, by omega⟩ ?_
        refine w_goto (t := 2) gz_19_120 rfl ?_
        refine w_weak (ls' := [(2, x0), (2, x1), (0, (p2_0 + 1)), (9, 0), (9, 0), (9, 0)]) (wk_e (wk_e (wk_e (wk_9 (wk_9 (wk_9 wk_n)))))) ?_
        exact ih_2_0 ((p2_0 + 1)) (by omega) (by omega) (by omega)
      have J83_0 : ∀ (p83_0 p83_1 : Int), p2_0 ≤ 11 → 0 ≤ p83_0 → p83_0 ≤ 2 → 0 ≤ p83_1 → p83_1 ≤ 3 → wp l rho (d + 2) 19 83 [(2, x0), (2, x1), (0, p2_0), (0, p83_0), (0, p83_1), (0, 0)] [] h Q := by
        intro p83_0 p83_1 q0_83_0 q1_83_0 q2_83_0 q3_83_0 q4_83_0
        refine w_aload_n gz_19_83 rfl ?_
        refine w_getR gz_19_84 t0 rd_3 rfl (fun v3 ev3 tv3 => ?_)
        refine w_iload_n gz_19_87 rfl ?_
        refine w_bald gz_19_88 tv3 rd_29 (by omega) (by omega) (fun v4 ev4 pv4 qv4 => ?_)
        refine w_ifeq (t := 105) gz_19_89 rfl (fun u5 => ?_) (fun u5 => ?_)
        ·
          exact J105_0 (p83_0) (p83_1) (by omega) (by omega) (by omega) (by omega) (by omega)
        ·
          refine w_aload_n gz_19_92 rfl ?_
          refine w_iload_n gz_19_93 rfl ?_
          refine w_iload gz_19_94 rfl ?_
          refine w_inS (k := 4) (as := [(0, p83_1), (0, p83_0), (2, x1)]) (r := []) (ls0 := [(2, x1), (0, p83_0), (0, p83_1), (9, 0), (9, 0), (9, 0), (9, 0)]) gz_19_96 gm_22 rfl rfl rfl rfl rfl rfl (c34_Laws_isSingle (d := d) (x0 := x1) (x1 := p83_0) (x2 := p83_1) t1 (by omega) (by omega) (by omega) (by omega) ?_ ?_)
          ·
            show wp l rho (d + 2) 19 99 [(2, x0), (2, x1), (0, p2_0), (0, p83_0), (0, p83_1), (0, 0)] [(0, 0)] h Q
            refine w_ifne (t := 105) gz_19_99 rfl (fun u6 => by exfalso; omega) (fun u6 => ?_)
            refine w_iconst gz_19_102 (by decide) ?_
            refine w_istore (ls' := [(2, x0), (2, x1), (0, p2_0), (0, p83_0), (0, p83_1), (0, 3)]) gz_19_103 gm_19 rfl rfl rfl ?_
            exact J105_2 (p83_0) (p83_1) (3) (by omega) (by omega) (by omega) (by omega) (by omega) (by omega) (by omega)
          ·
            show wp l rho (d + 2) 19 99 [(2, x0), (2, x1), (0, p2_0), (0, p83_0), (0, p83_1), (0, 0)] [(0, 1)] h Q
            refine w_ifne (t := 105) gz_19_99 rfl (fun u7 => ?_) (fun u7 => by exfalso; omega)
            exact J105_0 (p83_0) (p83_1) (by omega) (by omega) (by omega) (by omega) (by omega)
      refine w_iload_n gz_19_2 rfl ?_
      refine w_aload_n gz_19_3 rfl ?_
      refine w_getR gz_19_4 t0 rd_3 rfl (fun v8 ev8 tv8 => ?_)
      refine w_alen gz_19_7 tv8 rd_28 (by decide) ?_
      refine w_icge (t := 123) gz_19_8 rfl (fun u9 => ?_) (fun u9 => ?_)
      ·
        refine w_iconst gz_19_123 (by decide) ?_
        exact w_iret gz_19_124 gm_19 (k0 )
      ·
        refine w_iload_n gz_19_11 rfl ?_
        refine w_iconst gz_19_12 (by decide) ?_
        refine w_idiv gz_19_13 (by omega) (by decide) ?_
        refine w_istore_n (ls' := [(2, x0), (2, x1), (0, p2_0), (0, (p2_0 / 4)), (9, 0), (9, 0)]) gz_19_14 gm_19 rfl rfl rfl ?_
        refine w_iload_n gz_19_15 rfl ?_
        refine w_iconst gz_19_16 (by decide) ?_
        refine w_irem gz_19_17 (by omega) (by decide) ?_
        refine w_istore (ls' := [(2, x0), (2, x1), (0, p2_0), (0, (p2_0 / 4)), (0, (p2_0 % 4)), (9, 0)]) gz_19_18 gm_19 rfl rfl rfl ?_
        refine w_iconst gz_19_20 (by decide) ?_
        refine w_istore (ls' := [(2, x0), (2, x1), (0, p2_0), (0, (p2_0 / 4)), (0, (p2_0 % 4)), (0, 0)]) gz_19_21 gm_19 rfl rfl rfl ?_
        refine w_aload_n gz_19_23 rfl ?_
        refine w_iload_n gz_19_24 rfl ?_
        refine w_iload gz_19_25 rfl ?_
        refine w_aload_n gz_19_27 rfl ?_
        refine w_getR gz_19_28 t0 rd_3 rfl (fun v10 ev10 tv10 => ?_)
        refine w_iload_n gz_19_31 rfl ?_
        refine w_iald gz_19_32 tv10 rd_26 (by omega) (by omega) (fun v11 ev11 pv11 qv11 => ?_)
        refine w_aload_n gz_19_33 rfl ?_
        refine w_getR gz_19_34 t0 rd_3 rfl (fun v12 ev12 tv12 => ?_)
        refine w_iload_n gz_19_37 rfl ?_
        refine w_iald gz_19_38 tv12 rd_27 (by omega) (by omega) (fun v13 ev13 pv13 qv13 => ?_)
        refine w_inv (k := 3) (as := [(0, v13), (0, v11), (0, (p2_0 % 4)), (0, (p2_0 / 4))]) (r := []) (x := x1) (ls0 := [(2, x1), (0, (p2_0 / 4)), (0, (p2_0 % 4)), (0, v11), (0, v13), (9, 0), (9, 0), (9, 0)]) gz_19_39 gm_20 rfl t1 rd_6 rfl rfl rfl rfl rfl (c26_Rows_outside (d := d) (x0 := x1) (x1 := (p2_0 / 4)) (x2 := (p2_0 % 4)) (x3 := v11) (x4 := v13) t1 (by omega) (by omega) (by omega) (by omega) (by omega) (by omega) (by omega) (by omega) (fun v14 w15 w16 => ?_))
        show wp l rho (d + 2) 19 42 [(2, x0), (2, x1), (0, p2_0), (0, (p2_0 / 4)), (0, (p2_0 % 4)), (0, 0)] [(0, v14)] h Q
        refine w_ifle (t := 51) gz_19_42 rfl (fun u17 => ?_) (fun u17 => ?_)
        ·
          refine w_aload_n gz_19_51 rfl ?_
          refine w_getR gz_19_52 t0 rd_3 rfl (fun v18 ev18 tv18 => ?_)
          have zv18 : v8 = v18 := (ev18.trans ev8.symm).symm
          subst zv18
          refine w_iload_n gz_19_55 rfl ?_
          refine w_iald gz_19_56 tv8 rd_28 (by omega) (by omega) (fun v19 ev19 pv19 qv19 => ?_)
          refine w_iconst gz_19_57 (by decide) ?_
          refine w_iceq (t := 83) gz_19_58 rfl (fun u20 => ?_) (fun u20 => ?_)
          ·
            exact J83_0 ((p2_0 / 4)) ((p2_0 % 4)) (by omega) (by omega) (by omega) (by omega) (by omega)
          ·
            refine w_aload_n gz_19_61 rfl ?_
            refine w_iload_n gz_19_62 rfl ?_
            refine w_iload gz_19_63 rfl ?_
            refine w_aload_n gz_19_65 rfl ?_
            refine w_getR gz_19_66 t0 rd_3 rfl (fun v21 ev21 tv21 => ?_)
            have zv21 : v8 = v21 := (ev21.trans ev8.symm).symm
            subst zv21
            refine w_iload_n gz_19_69 rfl ?_
            refine w_iald gz_19_70 tv8 rd_28 (by omega) (by omega) (fun v22 ev22 pv22 qv22 => ?_)
            have zv22 := ev22.trans ev19.symm
            refine w_inS (k := 2) (as := [(0, v22), (0, (p2_0 % 4)), (0, (p2_0 / 4)), (2, x1)]) (r := []) (ls0 := [(2, x1), (0, (p2_0 / 4)), (0, (p2_0 % 4)), (0, v22), (9, 0), (9, 0)]) gz_19_71 gm_21 rfl rfl rfl rfl rfl rfl (c30_Laws_namesKeys (d := d) (x0 := x1) (x1 := (p2_0 / 4)) (x2 := (p2_0 % 4)) (x3 := v22) t1 (by omega) (by omega) (by omega) (by omega) (by omega) (by omega) ?_ ?_)
            ·
              show wp l rho (d + 2) 19 74 [(2, x0), (2, x1), (0, p2_0), (0, (p2_0 / 4)), (0, (p2_0 % 4)), (0, 0)] [(0, 0)] h Q
              refine w_ifne (t := 83) gz_19_74 rfl (fun u23 => by exfalso; omega) (fun u23 => ?_)
              refine w_iconst gz_19_77 (by decide) ?_
              refine w_istore (ls' := [(2, x0), (2, x1), (0, p2_0), (0, (p2_0 / 4)), (0, (p2_0 % 4)), (0, 2)]) gz_19_78 gm_19 rfl rfl rfl ?_
              refine w_goto (t := 105) gz_19_80 rfl ?_
              exact J105_2 ((p2_0 / 4)) ((p2_0 % 4)) (2) (by omega) (by omega) (by omega) (by omega) (by omega) (by omega) (by omega)
            ·
              show wp l rho (d + 2) 19 74 [(2, x0), (2, x1), (0, p2_0), (0, (p2_0 / 4)), (0, (p2_0 % 4)), (0, 0)] [(0, 1)] h Q
              refine w_ifne (t := 83) gz_19_74 rfl (fun u24 => ?_) (fun u24 => by exfalso; omega)
              exact J83_0 ((p2_0 / 4)) ((p2_0 % 4)) (by omega) (by omega) (by omega) (by omega) (by omega)
        ·
          refine w_iconst gz_19_45 (by decide) ?_
          refine w_istore (ls' := [(2, x0), (2, x1), (0, p2_0), (0, (p2_0 / 4)), (0, (p2_0 % 4)), (0, 1)]) gz_19_46 gm_19 rfl rfl rfl ?_
          refine w_goto (t := 105) gz_19_48 rfl ?_
          refine w_iload gz_19_105 rfl ?_
          refine w_ifeq (t := 117) gz_19_107 rfl (fun u25 => by exfalso; omega) (fun u25 => ?_)
          refine w_iconst gz_19_110 (by decide) ?_
          refine w_iload_n gz_19_111 rfl ?_
          refine w_imul gz_19_112 ⟨by omega, by omega⟩ ?_
          refine w_iload gz_19_113 rfl ?_
          refine w_iadd gz_19_115 ⟨by omega, by omega⟩ ?_
          exact w_iret gz_19_116 gm_19 (k1 (((4 * p2_0) + 1)) (by omega) (by omega))
  refine w_iconst gz_19_0 (by decide) ?_
  refine w_istore_n (ls' := [(2, x0), (2, x1), (0, 0), (9, 0), (9, 0), (9, 0)]) gz_19_1 gm_19 rfl rfl rfl ?_
  exact J2_0 13 (0) (by omega) (by omega) (by omega)
theorem gz_234_0 : mz_pg 234 0 = some (.aload_n 0, 0, 0, 0) := by decide +kernel
theorem gz_234_1 : mz_pg 234 1 = some (.iconst 0, 0, 0, 0) := by decide +kernel
theorem gz_234_2 : mz_pg 234 2 = some (.putfield 1, 10, 0, 1213) := by decide +kernel
theorem gz_234_5 : mz_pg 234 5 = some (.aload_n 0, 0, 0, 0) := by decide +kernel
theorem gz_234_6 : mz_pg 234 6 = some (.iload_n 1, 0, 0, 0) := by decide +kernel
theorem gz_234_7 : mz_pg 234 7 = some (.invokevirtual 257, 1, 149, 1426) := by decide +kernel
theorem gz_234_10 : mz_pg 234 10 = some (.ifCond .eq 28, 0, 0, 0) := by decide +kernel
theorem gz_234_13 : mz_pg 234 13 = some (.iload_n 2, 0, 0, 0) := by decide +kernel
theorem gz_234_14 : mz_pg 234 14 = some (.ifCond .lt 24, 0, 0, 0) := by decide +kernel
theorem gz_234_17 : mz_pg 234 17 = some (.iload_n 2, 0, 0, 0) := by decide +kernel
theorem gz_234_18 : mz_pg 234 18 = some (.iconst 1, 0, 0, 0) := by decide +kernel
theorem gz_234_19 : mz_pg 234 19 = some (.aload_n 0, 0, 0, 0) := by decide +kernel
theorem gz_234_20 : mz_pg 234 20 = some (.iconst 0, 0, 0, 0) := by decide +kernel
theorem gz_234_21 : mz_pg 234 21 = some (.iload_n 1, 0, 0, 0) := by decide +kernel
theorem gz_234_22 : mz_pg 234 22 = some (.invokevirtual 267, 1, 151, 1432) := by decide +kernel
theorem gz_234_25 : mz_pg 234 25 = some (.ishl, 0, 0, 0) := by decide +kernel
theorem gz_234_26 : mz_pg 234 26 = some (.if_icmp .ge 12, 0, 0, 0) := by decide +kernel
theorem gz_234_29 : mz_pg 234 29 = some (.iload_n 3, 0, 0, 0) := by decide +kernel
theorem gz_234_30 : mz_pg 234 30 = some (.iconst 0, 0, 0, 0) := by decide +kernel
theorem gz_234_31 : mz_pg 234 31 = some (.iconst 3, 0, 0, 0) := by decide +kernel
theorem gz_234_32 : mz_pg 234 32 = some (.invokestatic 250, 1, 147, 1419) := by decide +kernel
theorem gz_234_35 : mz_pg 234 35 = some (.ifCond .ne 5, 0, 0, 0) := by decide +kernel
theorem gz_234_38 : mz_pg 234 38 = some (.iconst (-1), 0, 0, 0) := by decide +kernel
theorem gz_234_39 : mz_pg 234 39 = some (.ireturn, 0, 0, 0) := by decide +kernel
theorem gz_234_40 : mz_pg 234 40 = some (.iconst 0, 0, 0, 0) := by decide +kernel
theorem gz_234_41 : mz_pg 234 41 = some (.istore 4, 0, 0, 0) := by decide +kernel
theorem gz_234_43 : mz_pg 234 43 = some (.iconst (-1), 0, 0, 0) := by decide +kernel
theorem gz_234_44 : mz_pg 234 44 = some (.istore 5, 0, 0, 0) := by decide +kernel
theorem gz_234_46 : mz_pg 234 46 = some (.iconst 0, 0, 0, 0) := by decide +kernel
theorem gz_234_47 : mz_pg 234 47 = some (.istore 6, 0, 0, 0) := by decide +kernel
theorem gz_234_49 : mz_pg 234 49 = some (.iload 6, 0, 0, 0) := by decide +kernel
theorem gz_234_51 : mz_pg 234 51 = some (.sipush 600, 0, 0, 0) := by decide +kernel
theorem gz_234_54 : mz_pg 234 54 = some (.aload_n 0, 0, 0, 0) := by decide +kernel
theorem gz_234_55 : mz_pg 234 55 = some (.getfield 61, 10, 10, 1223) := by decide +kernel
theorem gz_234_58 : mz_pg 234 58 = some (.iload_n 1, 0, 0, 0) := by decide +kernel
theorem gz_234_59 : mz_pg 234 59 = some (.iaload, 0, 0, 0) := by decide +kernel
theorem gz_234_60 : mz_pg 234 60 = some (.imul, 0, 0, 0) := by decide +kernel
theorem gz_234_61 : mz_pg 234 61 = some (.if_icmp .ge 55, 0, 0, 0) := by decide +kernel
theorem gz_234_64 : mz_pg 234 64 = some (.aload_n 0, 0, 0, 0) := by decide +kernel
theorem gz_234_65 : mz_pg 234 65 = some (.iload_n 1, 0, 0, 0) := by decide +kernel
theorem gz_234_66 : mz_pg 234 66 = some (.iload_n 2, 0, 0, 0) := by decide +kernel
theorem gz_234_67 : mz_pg 234 67 = some (.iload 6, 0, 0, 0) := by decide +kernel
theorem gz_234_69 : mz_pg 234 69 = some (.sipush 600, 0, 0, 0) := by decide +kernel
theorem gz_234_72 : mz_pg 234 72 = some (.idiv, 0, 0, 0) := by decide +kernel
theorem gz_234_73 : mz_pg 234 73 = some (.iload 6, 0, 0, 0) := by decide +kernel
theorem gz_234_75 : mz_pg 234 75 = some (.sipush 200, 0, 0, 0) := by decide +kernel
theorem gz_234_78 : mz_pg 234 78 = some (.idiv, 0, 0, 0) := by decide +kernel
theorem gz_234_79 : mz_pg 234 79 = some (.iconst 3, 0, 0, 0) := by decide +kernel
theorem gz_234_80 : mz_pg 234 80 = some (.irem, 0, 0, 0) := by decide +kernel
theorem gz_234_81 : mz_pg 234 81 = some (.iload 6, 0, 0, 0) := by decide +kernel
theorem gz_234_83 : mz_pg 234 83 = some (.sipush 200, 0, 0, 0) := by decide +kernel
theorem gz_234_86 : mz_pg 234 86 = some (.irem, 0, 0, 0) := by decide +kernel
theorem gz_234_87 : mz_pg 234 87 = some (.invokevirtual 460, 1, 235, 1708) := by decide +kernel
theorem gz_234_90 : mz_pg 234 90 = some (.ifCond .eq 20, 0, 0, 0) := by decide +kernel
theorem gz_234_93 : mz_pg 234 93 = some (.iload 4, 0, 0, 0) := by decide +kernel
theorem gz_234_95 : mz_pg 234 95 = some (.ifCond .ne 8, 0, 0, 0) := by decide +kernel
theorem gz_234_98 : mz_pg 234 98 = some (.iload 6, 0, 0, 0) := by decide +kernel
theorem gz_234_100 : mz_pg 234 100 = some (.goto 5, 0, 0, 0) := by decide +kernel
theorem gz_234_103 : mz_pg 234 103 = some (.iload 5, 0, 0, 0) := by decide +kernel
theorem gz_234_105 : mz_pg 234 105 = some (.istore 5, 0, 0, 0) := by decide +kernel
theorem gz_234_107 : mz_pg 234 107 = some (.iinc 4 1, 0, 0, 0) := by decide +kernel
theorem gz_234_110 : mz_pg 234 110 = some (.iinc 6 1, 0, 0, 0) := by decide +kernel
theorem gz_234_113 : mz_pg 234 113 = some (.goto (-64), 0, 0, 0) := by decide +kernel
theorem gz_234_116 : mz_pg 234 116 = some (.iload_n 3, 0, 0, 0) := by decide +kernel
theorem gz_234_117 : mz_pg 234 117 = some (.ifCond .ne 8, 0, 0, 0) := by decide +kernel
theorem gz_234_120 : mz_pg 234 120 = some (.iload 4, 0, 0, 0) := by decide +kernel
theorem gz_234_122 : mz_pg 234 122 = some (.goto 48, 0, 0, 0) := by decide +kernel
theorem gz_234_125 : mz_pg 234 125 = some (.iload 4, 0, 0, 0) := by decide +kernel
theorem gz_234_127 : mz_pg 234 127 = some (.ifCond .ne 7, 0, 0, 0) := by decide +kernel
theorem gz_234_130 : mz_pg 234 130 = some (.iconst (-1), 0, 0, 0) := by decide +kernel
theorem gz_234_131 : mz_pg 234 131 = some (.goto 39, 0, 0, 0) := by decide +kernel
theorem gz_234_134 : mz_pg 234 134 = some (.iload_n 3, 0, 0, 0) := by decide +kernel
theorem gz_234_135 : mz_pg 234 135 = some (.iconst 1, 0, 0, 0) := by decide +kernel
theorem gz_234_136 : mz_pg 234 136 = some (.if_icmp .ne 12, 0, 0, 0) := by decide +kernel
theorem gz_234_139 : mz_pg 234 139 = some (.iload 5, 0, 0, 0) := by decide +kernel
theorem gz_234_141 : mz_pg 234 141 = some (.sipush 600, 0, 0, 0) := by decide +kernel
theorem gz_234_144 : mz_pg 234 144 = some (.idiv, 0, 0, 0) := by decide +kernel
theorem gz_234_145 : mz_pg 234 145 = some (.goto 25, 0, 0, 0) := by decide +kernel
theorem gz_234_148 : mz_pg 234 148 = some (.iload_n 3, 0, 0, 0) := by decide +kernel
theorem gz_234_149 : mz_pg 234 149 = some (.iconst 2, 0, 0, 0) := by decide +kernel
theorem gz_234_150 : mz_pg 234 150 = some (.if_icmp .ne 14, 0, 0, 0) := by decide +kernel
theorem gz_234_153 : mz_pg 234 153 = some (.iload 5, 0, 0, 0) := by decide +kernel
theorem gz_234_155 : mz_pg 234 155 = some (.sipush 200, 0, 0, 0) := by decide +kernel
theorem gz_234_158 : mz_pg 234 158 = some (.idiv, 0, 0, 0) := by decide +kernel
theorem gz_234_159 : mz_pg 234 159 = some (.iconst 3, 0, 0, 0) := by decide +kernel
theorem gz_234_160 : mz_pg 234 160 = some (.irem, 0, 0, 0) := by decide +kernel
theorem gz_234_161 : mz_pg 234 161 = some (.goto 9, 0, 0, 0) := by decide +kernel
theorem gz_234_164 : mz_pg 234 164 = some (.iload 5, 0, 0, 0) := by decide +kernel
theorem gz_234_166 : mz_pg 234 166 = some (.sipush 200, 0, 0, 0) := by decide +kernel
theorem gz_234_169 : mz_pg 234 169 = some (.irem, 0, 0, 0) := by decide +kernel
theorem gz_234_170 : mz_pg 234 170 = some (.ireturn, 0, 0, 0) := by decide +kernel
theorem gm_234 : my_mm 234 7 (some .int) 3 10 := by unfold my_mm; decide +kernel
theorem c63_Model_cuts {l : Launch} {rho : Nat → Int32} {d : Nat} {h : my_H} {Q : my_H → my_V → Prop} {x0 x1 x2 x3 : Int} (t0 : my_is 10 x0) (k0 : ∀ (h' : my_H), my_fr [(10, 0)] h h' → h' x0 ((0 : Nat) : Int) = 0 → Q h' (0, (-1))) (k1 : ∀ (h' : my_H), my_fr [(10, 0)] h h' → 0 ≤ x1 → x1 ≤ 2 → 0 ≤ x2 → x2 ≤ 2147483646 → 0 ≤ x3 → x3 ≤ 0 → h' x0 ((0 : Nat) : Int) = 0 → Q h' (0, 0)) (k2 : ∀ (h' : my_H) (y : Int), my_fr [(10, 0)] h h' → 0 ≤ x1 → x1 ≤ 2 → 0 ≤ x2 → x2 ≤ 2147483646 → 0 ≤ x3 → x3 ≤ 3 → h' x0 ((0 : Nat) : Int) = 0 → Q h' (0, y)) : wp l rho (d + 3) 234 0 [(2, x0), (0, x1), (0, x2), (0, x3), (9, 0), (9, 0), (9, 0)] [] h Q := by
  have J49_0 : ∀ (n : Nat) (p49_0 p49_1 p49_2 : Int) (h49_0 : my_H), my_fr [(10, 0)] h h49_0 → 0 ≤ x1 → x1 ≤ 2 → 0 ≤ x2 → x2 ≤ 2147483646 → 0 ≤ x3 → x3 ≤ 3 → 0 ≤ p49_0 → p49_0 ≤ 16005 → (-1) ≤ p49_1 → p49_1 ≤ 16005 → 0 ≤ p49_2 → p49_2 ≤ 16005 → p49_0 ≤ p49_2 → p49_1 ≤ (p49_2 - 1) → h49_0 x0 ((0 : Nat) : Int) = 0 → 16006 - p49_2 ≤ (n : Int) → wp l rho (d + 3) 234 49 [(2, x0), (0, x1), (0, x2), (0, x3), (0, p49_0), (0, p49_1), (0, p49_2)] [] h49_0 Q := by
    intro n
    induction n with
    | zero => intro p49_0 p49_1 p49_2 h49_0 gh_49_0 q0_49_0 q1_49_0 q2_49_0 q3_49_0 q4_49_0 q5_49_0 q6_49_0 q7_49_0 q8_49_0 q9_49_0 q10_49_0 q11_49_0 q12_49_0 q13_49_0 c0_49_0 hm_49_0; exfalso; omega
    | succ n ih_49_0 =>
      intro p49_0 p49_1 p49_2 h49_0 gh_49_0 q0_49_0 q1_49_0 q2_49_0 q3_49_0 q4_49_0 q5_49_0 q6_49_0 q7_49_0 q8_49_0 q9_49_0 q10_49_0 q11_49_0 q12_49_0 q13_49_0 c0_49_0 hm_49_0
      have J110_0 : ∀ (p110_0 p110_1 : Int) (h110_0 : my_H), my_fr [(10, 0)] h h110_0 → 0 ≤ p110_0 → p110_0 ≤ 2400 → (-1) ≤ p110_1 → p110_1 ≤ 2399 → p49_2 ≤ 2399 → p49_1 ≤ 2398 → p49_0 ≤ 2399 → p110_0 ≤ (p49_2 + 1) → p110_0 ≤ (p49_0 + 1) → p110_1 ≤ p49_2 → p49_1 ≤ p110_1 → p49_1 ≤ (p49_2 - 1) → p49_0 ≤ p110_0 → p49_0 ≤ p49_2 → h110_0 x0 ((0 : Nat) : Int) = 0 → wp l rho (d + 3) 234 110 [(2, x0), (0, x1), (0, x2), (0, x3), (0, p110_0), (0, p110_1), (0, p49_2)] [] h110_0 Q := by
        intro p110_0 p110_1 h110_0 gh_110_0 q0_110_0 q1_110_0 q2_110_0 q3_110_0 q4_110_0 q5_110_0 q6_110_0 q7_110_0 q8_110_0 q9_110_0 q10_110_0 q11_110_0 q12_110_0 q13_110_0 c0_110_0
        refine w_iinc (ls' := [(2, x0), (0, x1), (0, x2), (0, x3), (0, p110_0), (0, p110_1), (0, (p49_2 + 1))]) gz_234_110 rfl gm_234 rfl rfl rfl ⟨by omega, by omega⟩ ?_
        refine w_goto (t := 49) gz_234_113 rfl ?_
        exact ih_49_0 (p110_0) (p110_1) ((p49_2 + 1)) h110_0 (gh_110_0) (by omega) (by omega) (by omega) (by omega) (by omega) (by omega) (by omega) (by omega) (by omega) (by omega) (by omega) (by omega) (by omega) (by omega) (c0_110_0.trans (by omega)) (by omega)
      have J105_0 : ∀ (p105_0 p105_1 : Int) (h105_0 : my_H), my_fr [(10, 0)] h h105_0 → 0 ≤ p105_0 → p105_0 ≤ 2399 → p49_1 ≤ 2398 → p49_2 ≤ 2399 → (-1) ≤ p105_1 → p105_1 ≤ 2399 → p49_0 ≤ 2399 → p105_0 ≤ p49_2 → p105_0 ≤ p49_0 → p105_1 ≤ p49_2 → p49_1 ≤ p105_1 → p49_1 ≤ (p49_2 - 1) → p49_0 ≤ p105_0 → p49_0 ≤ p49_2 → h105_0 x0 ((0 : Nat) : Int) = 0 → wp l rho (d + 3) 234 105 [(2, x0), (0, x1), (0, x2), (0, x3), (0, p105_0), (0, p49_1), (0, p49_2)] [(0, p105_1)] h105_0 Q := by
        intro p105_0 p105_1 h105_0 gh_105_0 q0_105_0 q1_105_0 q2_105_0 q3_105_0 q4_105_0 q5_105_0 q6_105_0 q7_105_0 q8_105_0 q9_105_0 q10_105_0 q11_105_0 q12_105_0 q13_105_0 c0_105_0
        refine w_istore (ls' := [(2, x0), (0, x1), (0, x2), (0, x3), (0, p105_0), (0, p105_1), (0, p49_2)]) gz_234_105 gm_234 rfl rfl rfl ?_
        refine w_iinc (ls' := [(2, x0), (0, x1), (0, x2), (0, x3), (0, (p105_0 + 1)), (0, p105_1), (0, p49_2)]) gz_234_107 rfl gm_234 rfl rfl rfl ⟨by omega, by omega⟩ ?_
        exact J110_0 ((p105_0 + 1)) (p105_1) h105_0 (gh_105_0) (by omega) (by omega) (by omega) (by omega) (by omega) (by omega) (by omega) (by omega) (by omega) (by omega) (by omega) (by omega) (by omega) (by omega) (c0_105_0.trans (by omega))
      refine w_iload gz_234_49 rfl ?_
      refine w_sipush gz_234_51 (by decide) ?_
      refine w_aload_n gz_234_54 rfl ?_
      refine w_getR gz_234_55 t0 rd_10 rfl (fun v1 ev1 tv1 => ?_)
      refine w_iload_n gz_234_58 rfl ?_
      refine w_iald gz_234_59 tv1 rd_56 (by omega) (by omega) (fun v2 ev2 pv2 qv2 => ?_)
      refine w_imul gz_234_60 ⟨by omega, by omega⟩ ?_
      refine w_icge (t := 116) gz_234_61 rfl (fun u3 => ?_) (fun u3 => ?_)
      ·
        refine w_iload_n gz_234_116 rfl ?_
        refine w_ifne (t := 125) gz_234_117 rfl (fun u4 => ?_) (fun u4 => ?_)
        ·
          refine w_iload gz_234_125 rfl ?_
          refine w_ifne (t := 134) gz_234_127 rfl (fun u5 => ?_) (fun u5 => ?_)
          ·
            refine w_iload_n gz_234_134 rfl ?_
            refine w_iconst gz_234_135 (by decide) ?_
            refine w_icne (t := 148) gz_234_136 rfl (fun u6 => ?_) (fun u6 => ?_)
            ·
              refine w_iload_n gz_234_148 rfl ?_
              refine w_iconst gz_234_149 (by decide) ?_
              refine w_icne (t := 164) gz_234_150 rfl (fun u7 => ?_) (fun u7 => ?_)
              ·
                refine w_iload gz_234_164 rfl ?_
                refine w_sipush gz_234_166 (by decide) ?_
                refine w_ianyQ gz_234_169 (by decide) (fun v8 pv8 qv8 => ?_)
                have c9 := c0_49_0
                exact w_iret gz_234_170 gm_234 (k2 h49_0 (v8) (gh_49_0) (by omega) (by omega) (by omega) (by omega) (by omega) (by omega) (by omega))
              ·
                refine w_iload gz_234_153 rfl ?_
                refine w_sipush gz_234_155 (by decide) ?_
                refine w_ianyD gz_234_158 (by decide) (fun v10 pv10 qv10 => ?_)
                refine w_iconst gz_234_159 (by decide) ?_
                refine w_ianyQ gz_234_160 (by decide) (fun v11 pv11 qv11 => ?_)
                refine w_goto (t := 170) gz_234_161 rfl ?_
                have c12 := c0_49_0
                exact w_iret gz_234_170 gm_234 (k2 h49_0 (v11) (gh_49_0) (by omega) (by omega) (by omega) (by omega) (by omega) (by omega) (by omega))
            ·
              refine w_iload gz_234_139 rfl ?_
              refine w_sipush gz_234_141 (by decide) ?_
              refine w_ianyD gz_234_144 (by decide) (fun v13 pv13 qv13 => ?_)
              refine w_goto (t := 170) gz_234_145 rfl ?_
              have c14 := c0_49_0
              exact w_iret gz_234_170 gm_234 (k2 h49_0 (v13) (gh_49_0) (by omega) (by omega) (by omega) (by omega) (by omega) (by omega) (by omega))
          ·
            refine w_iconst gz_234_130 (by decide) ?_
            refine w_goto (t := 170) gz_234_131 rfl ?_
            have c15 := c0_49_0
            exact w_iret gz_234_170 gm_234 (k0 h49_0 (gh_49_0) (by omega))
        ·
          refine w_iload gz_234_120 rfl ?_
          refine w_goto (t := 170) gz_234_122 rfl ?_
          have c16 := c0_49_0
          exact w_iret gz_234_170 gm_234 (k2 h49_0 (p49_0) (gh_49_0) (by omega) (by omega) (by omega) (by omega) (by omega) (by omega) (by omega))
      ·
        refine w_aload_n gz_234_64 rfl ?_
        refine w_iload_n gz_234_65 rfl ?_
        refine w_iload_n gz_234_66 rfl ?_
        refine w_iload gz_234_67 rfl ?_
        refine w_sipush gz_234_69 (by decide) ?_
        refine w_idiv gz_234_72 (by omega) (by decide) ?_
        refine w_iload gz_234_73 rfl ?_
        refine w_sipush gz_234_75 (by decide) ?_
        refine w_idiv gz_234_78 (by omega) (by decide) ?_
        refine w_iconst gz_234_79 (by decide) ?_
        refine w_irem gz_234_80 (by omega) (by decide) ?_
        refine w_iload gz_234_81 rfl ?_
        refine w_sipush gz_234_83 (by decide) ?_
        refine w_irem gz_234_86 (by omega) (by decide) ?_
        refine w_inv (k := 4) (as := [(0, (p49_2 % 200)), (0, ((p49_2 / 200) % 3)), (0, (p49_2 / 600)), (0, x2), (0, x1)]) (r := []) (x := x0) (ls0 := [(2, x0), (0, x1), (0, x2), (0, (p49_2 / 600)), (0, ((p49_2 / 200) % 3)), (0, (p49_2 % 200)), (9, 0), (9, 0), (9, 0), (9, 0)]) gz_234_87 gm_235 rfl t0 rd_10 rfl rfl rfl rfl rfl (c37_Model_isCut (d := d) (x0 := x0) (x1 := x1) (x2 := x2) (x3 := (p49_2 / 600)) (x4 := ((p49_2 / 200) % 3)) (x5 := (p49_2 % 200)) t0 (by omega) (by omega) (by omega) (by omega) (by omega) (by omega) (by omega) (by omega) (by omega) (by omega) ?_ ?_)
        ·
          show wp l rho (d + 3) 234 90 [(2, x0), (0, x1), (0, x2), (0, x3), (0, p49_0), (0, p49_1), (0, p49_2)] [(0, 0)] h49_0 Q
          refine w_ifeq (t := 110) gz_234_90 rfl (fun u17 => ?_) (fun u17 => by exfalso; omega)
          exact J110_0 (p49_0) (p49_1) h49_0 (gh_49_0) (by omega) (by omega) (by omega) (by omega) (by omega) (by omega) (by omega) (by omega) (by omega) (by omega) (by omega) (by omega) (by omega) (by omega) (c0_49_0.trans (by omega))
        ·
          show wp l rho (d + 3) 234 90 [(2, x0), (0, x1), (0, x2), (0, x3), (0, p49_0), (0, p49_1), (0, p49_2)] [(0, 1)] h49_0 Q
          refine w_ifeq (t := 110) gz_234_90 rfl (fun u18 => by exfalso; omega) (fun u18 => ?_)
          refine w_iload gz_234_93 rfl ?_
          refine w_ifne (t := 103) gz_234_95 rfl (fun u19 => ?_) (fun u19 => ?_)
          ·
            refine w_iload gz_234_103 rfl ?_
            exact J105_0 (p49_0) (p49_1) h49_0 (gh_49_0) (by omega) (by omega) (by omega) (by omega) (by omega) (by omega) (by omega) (by omega) (by omega) (by omega) (by omega) (by omega) (by omega) (by omega) (c0_49_0.trans (by omega))
          ·
            refine w_iload gz_234_98 rfl ?_
            refine w_goto (t := 105) gz_234_100 rfl ?_
            exact J105_0 (p49_0) (p49_2) h49_0 (gh_49_0) (by omega) (by omega) (by omega) (by omega) (by omega) (by omega) (by omega) (by omega) (by omega) (by omega) (by omega) (by omega) (by omega) (by omega) (c0_49_0.trans (by omega))
  refine w_aload_n gz_234_0 rfl ?_
  refine w_iconst gz_234_1 (by decide) ?_
  refine w_putI gz_234_2 t0 rd_10 rfl (by omega) (by omega) rfl (fun h20 fh20 => ?_)
  have gh20 : my_fr [(10, 0)] h h20 := my_fr.up my_fr.rf t0 fh20 rfl
  refine w_aload_n gz_234_5 rfl ?_
  refine w_iload_n gz_234_6 rfl ?_
  refine w_inv (k := 0) (as := [(0, x1)]) (r := []) (x := x0) (ls0 := [(2, x0), (0, x1)]) gz_234_7 gm_149 rfl t0 rd_10 rfl rfl rfl rfl rfl ?_
  refine w_iload_n gz_149_0 rfl ?_
  refine w_iflt (t := 22) gz_149_1 rfl (fun u21 => ?_) (fun u21 => ?_)
  ·
    refine w_iconst gz_149_22 (by decide) ?_
    refine w_bret gz_149_23 gm_149 (by omega) (by omega) ?_
    show wp l rho (d + 3) 234 10 [(2, x0), (0, x1), (0, x2), (0, x3), (9, 0), (9, 0), (9, 0)] [(0, 0)] h20 Q
    refine w_ifeq (t := 38) gz_234_10 rfl (fun u22 => ?_) (fun u22 => by exfalso; omega)
    refine w_iconst gz_234_38 (by decide) ?_
    have c23 := (my_up_self fh20)
    exact w_iret gz_234_39 gm_234 (k0 h20 (gh20) (by omega))
  ·
    refine w_iload_n gz_149_4 rfl ?_
    refine w_iconst gz_149_5 (by decide) ?_
    refine w_icge (t := 22) gz_149_6 rfl (fun u24 => ?_) (fun u24 => ?_)
    ·
      refine w_iconst gz_149_22 (by decide) ?_
      refine w_bret gz_149_23 gm_149 (by omega) (by omega) ?_
      show wp l rho (d + 3) 234 10 [(2, x0), (0, x1), (0, x2), (0, x3), (9, 0), (9, 0), (9, 0)] [(0, 0)] h20 Q
      refine w_ifeq (t := 38) gz_234_10 rfl (fun u25 => ?_) (fun u25 => by exfalso; omega)
      refine w_iconst gz_234_38 (by decide) ?_
      have c26 := (my_up_self fh20)
      exact w_iret gz_234_39 gm_234 (k0 h20 (gh20) (by omega))
    ·
      refine w_aload_n gz_149_9 rfl ?_
      refine w_getR gz_149_10 t0 rd_10 rfl (fun v27 ev27 tv27 => ?_)
      refine w_iload_n gz_149_13 rfl ?_
      refine w_iald gz_149_14 tv27 rd_56 (by omega) (by omega) (fun v28 ev28 pv28 qv28 => ?_)
      refine w_ifle (t := 22) gz_149_15 rfl (fun u29 => ?_) (fun u29 => ?_)
      ·
        refine w_iconst gz_149_22 (by decide) ?_
        refine w_bret gz_149_23 gm_149 (by omega) (by omega) ?_
        show wp l rho (d + 3) 234 10 [(2, x0), (0, x1), (0, x2), (0, x3), (9, 0), (9, 0), (9, 0)] [(0, 0)] h20 Q
        refine w_ifeq (t := 38) gz_234_10 rfl (fun u30 => ?_) (fun u30 => by exfalso; omega)
        refine w_iconst gz_234_38 (by decide) ?_
        have c31 := (my_up_self fh20)
        exact w_iret gz_234_39 gm_234 (k0 h20 (gh20) (by omega))
      ·
        refine w_iconst gz_149_18 (by decide) ?_
        refine w_goto (t := 23) gz_149_19 rfl ?_
        refine w_bret gz_149_23 gm_149 (by omega) (by omega) ?_
        show wp l rho (d + 3) 234 10 [(2, x0), (0, x1), (0, x2), (0, x3), (9, 0), (9, 0), (9, 0)] [(0, 1)] h20 Q
        refine w_ifeq (t := 38) gz_234_10 rfl (fun u32 => by exfalso; omega) (fun u32 => ?_)
        refine w_iload_n gz_234_13 rfl ?_
        refine w_iflt (t := 38) gz_234_14 rfl (fun u33 => ?_) (fun u33 => ?_)
        ·
          refine w_iconst gz_234_38 (by decide) ?_
          have c34 := (my_up_self fh20)
          exact w_iret gz_234_39 gm_234 (k0 h20 (gh20) (by omega))
        ·
          refine w_iload_n gz_234_17 rfl ?_
          refine w_iconst gz_234_18 (by decide) ?_
          refine w_aload_n gz_234_19 rfl ?_
          refine w_iconst gz_234_20 (by decide) ?_
          refine w_iload_n gz_234_21 rfl ?_
          refine w_inv (k := 2) (as := [(0, x1), (0, 0)]) (r := [(0, 1), (0, x2)]) (x := x0) (ls0 := [(2, x0), (0, 0), (0, x1), (9, 0), (9, 0)]) gz_234_22 gm_151 rfl t0 rd_10 rfl rfl rfl rfl rfl (c12_Model_rowsOf (d := (d + 1)) (x0 := x0) (x1 := 0) (x2 := x1) t0 (by omega) (by omega) (by omega) (by omega) (fun v35 w36 w37 => ?_))
          show wp l rho (d + 3) 234 25 [(2, x0), (0, x1), (0, x2), (0, x3), (9, 0), (9, 0), (9, 0)] [(0, v35), (0, 1), (0, x2)] h20 Q
          refine w_ianyL gz_234_25 (fun v38 pv38 qv38 => ?_)
          refine w_icge (t := 38) gz_234_26 rfl (fun u39 => ?_) (fun u39 => ?_)
          ·
            refine w_iconst gz_234_38 (by decide) ?_
            have c40 := (my_up_self fh20)
            exact w_iret gz_234_39 gm_234 (k0 h20 (gh20) (by omega))
          ·
            refine w_iload_n gz_234_29 rfl ?_
            refine w_iconst gz_234_30 (by decide) ?_
            refine w_iconst gz_234_31 (by decide) ?_
            refine w_inS (k := 0) (as := [(0, 3), (0, 0), (0, x3)]) (r := []) (ls0 := [(0, x3), (0, 0), (0, 3)]) gz_234_32 gm_147 rfl rfl rfl rfl rfl rfl ?_
            refine w_iload_n gz_147_0 rfl ?_
            refine w_iload_n gz_147_1 rfl ?_
            refine w_iclt (t := 14) gz_147_2 rfl (fun u41 => ?_) (fun u41 => ?_)
            ·
              refine w_iconst gz_147_14 (by decide) ?_
              refine w_bret gz_147_15 gm_147 (by omega) (by omega) ?_
              show wp l rho (d + 3) 234 35 [(2, x0), (0, x1), (0, x2), (0, x3), (9, 0), (9, 0), (9, 0)] [(0, 0)] h20 Q
              refine w_ifne (t := 40) gz_234_35 rfl (fun u42 => by exfalso; omega) (fun u42 => ?_)
              refine w_iconst gz_234_38 (by decide) ?_
              have c43 := (my_up_self fh20)
              exact w_iret gz_234_39 gm_234 (k0 h20 (gh20) (by omega))
            ·
              refine w_iload_n gz_147_5 rfl ?_
              refine w_iload_n gz_147_6 rfl ?_
              refine w_icgt (t := 14) gz_147_7 rfl (fun u44 => ?_) (fun u44 => ?_)
              ·
                refine w_iconst gz_147_14 (by decide) ?_
                refine w_bret gz_147_15 gm_147 (by omega) (by omega) ?_
                show wp l rho (d + 3) 234 35 [(2, x0), (0, x1), (0, x2), (0, x3), (9, 0), (9, 0), (9, 0)] [(0, 0)] h20 Q
                refine w_ifne (t := 40) gz_234_35 rfl (fun u45 => by exfalso; omega) (fun u45 => ?_)
                refine w_iconst gz_234_38 (by decide) ?_
                have c46 := (my_up_self fh20)
                exact w_iret gz_234_39 gm_234 (k0 h20 (gh20) (by omega))
              ·
                refine w_iconst gz_147_10 (by decide) ?_
                refine w_goto (t := 15) gz_147_11 rfl ?_
                refine w_bret gz_147_15 gm_147 (by omega) (by omega) ?_
                show wp l rho (d + 3) 234 35 [(2, x0), (0, x1), (0, x2), (0, x3), (9, 0), (9, 0), (9, 0)] [(0, 1)] h20 Q
                refine w_ifne (t := 40) gz_234_35 rfl (fun u47 => ?_) (fun u47 => by exfalso; omega)
                refine w_iconst gz_234_40 (by decide) ?_
                refine w_istore (ls' := [(2, x0), (0, x1), (0, x2), (0, x3), (0, 0), (9, 0), (9, 0)]) gz_234_41 gm_234 rfl rfl rfl ?_
                refine w_iconst gz_234_43 (by decide) ?_
                refine w_istore (ls' := [(2, x0), (0, x1), (0, x2), (0, x3), (0, 0), (0, (-1)), (9, 0)]) gz_234_44 gm_234 rfl rfl rfl ?_
                refine w_iconst gz_234_46 (by decide) ?_
                refine w_istore (ls' := [(2, x0), (0, x1), (0, x2), (0, x3), (0, 0), (0, (-1)), (0, 0)]) gz_234_47 gm_234 rfl rfl rfl ?_
                exact J49_0 16006 (0) ((-1)) (0) h20 (gh20) (by omega) (by omega) (by omega) (by omega) (by omega) (by omega) (by omega) (by omega) (by omega) (by omega) (by omega) (by omega) (by omega) (by omega) ((my_up_self fh20).trans (by omega)) (by omega)
theorem gz_32_0 : mz_pg 32 0 = some (.aload_n 0, 0, 0, 0) := by decide +kernel
theorem gz_32_1 : mz_pg 32 1 = some (.getfield 46, 9, 7, 535) := by decide +kernel
theorem gz_32_4 : mz_pg 32 4 = some (.lload_n 1, 0, 0, 0) := by decide +kernel
theorem gz_32_5 : mz_pg 32 5 = some (.invokevirtual 142, 1, 33, 658) := by decide +kernel
theorem gz_32_8 : mz_pg 32 8 = some (.aload_n 0, 0, 0, 0) := by decide +kernel
theorem gz_32_9 : mz_pg 32 9 = some (.getfield 46, 9, 7, 535) := by decide +kernel
theorem gz_32_12 : mz_pg 32 12 = some (.lload_n 3, 0, 0, 0) := by decide +kernel
theorem gz_32_13 : mz_pg 32 13 = some (.invokevirtual 142, 1, 33, 658) := by decide +kernel
theorem gz_32_16 : mz_pg 32 16 = some (.aload_n 0, 0, 0, 0) := by decide +kernel
theorem gz_32_17 : mz_pg 32 17 = some (.getfield 46, 9, 7, 535) := by decide +kernel
theorem gz_32_20 : mz_pg 32 20 = some (.lload 5, 0, 0, 0) := by decide +kernel
theorem gz_32_22 : mz_pg 32 22 = some (.invokevirtual 142, 1, 33, 658) := by decide +kernel
theorem gz_32_25 : mz_pg 32 25 = some (.aload_n 0, 0, 0, 0) := by decide +kernel
theorem gz_32_26 : mz_pg 32 26 = some (.getfield 46, 9, 7, 535) := by decide +kernel
theorem gz_32_29 : mz_pg 32 29 = some (.getfield 146, 5, 4, 286) := by decide +kernel
theorem gz_32_32 : mz_pg 32 32 = some (.ireturn, 0, 0, 0) := by decide +kernel
theorem gm_32 : my_mm 32 7 (some .int) 3 9 := by unfold my_mm; decide +kernel
theorem c64_ThroughWindow_feed {l : Launch} {rho : Nat → Int32} {d : Nat} {h : my_H} {Q : my_H → my_V → Prop} {x0 x1 x2 x3 : Int} (t0 : my_is 9 x0) (k0 : ∀ (h' : my_H) (y : Int), my_fr [(5, 4), (40, -1)] h h' → 0 ≤ y → y ≤ 1000 → Q h' (0, y)) : wp l rho (d + 1) 32 0 [(2, x0), (1, x1), (9, 0), (1, x2), (9, 0), (1, x3), (9, 0)] [] h Q := by
  refine w_aload_n gz_32_0 rfl ?_
  refine w_getR gz_32_1 t0 rd_9 rfl (fun v1 ev1 tv1 => ?_)
  refine w_lload_n gz_32_4 rfl ?_
  refine w_inv (k := 2) (as := [(1, x1)]) (r := []) (x := v1) (ls0 := [(2, v1), (1, x1), (9, 0), (9, 0), (9, 0)]) gz_32_5 gm_33 rfl tv1 rd_5 rfl rfl rfl rfl rfl (c42_Reader_take (d := d) (x0 := v1) (x1 := x1) tv1 (fun h2 frh2 => ?_))
  have gh2 : my_fr [(5, 4), (40, -1)] h h2 := my_fr.tr my_fr.rf (frh2.mo rfl)
  show wp l rho (d + 1) 32 8 [(2, x0), (1, x1), (9, 0), (1, x2), (9, 0), (1, x3), (9, 0)] [] h2 Q
  refine w_aload_n gz_32_8 rfl ?_
  refine w_getR gz_32_9 t0 rd_9 rfl (fun v3 ev3 tv3 => ?_)
  have zv3 : v1 = v3 := (ev3.trans ((my_fr.at frh2 t0 rfl).trans ev1.symm)).symm
  subst zv3
  refine w_lload_n gz_32_12 rfl ?_
  refine w_inv (k := 2) (as := [(1, x2)]) (r := []) (x := v1) (ls0 := [(2, v1), (1, x2), (9, 0), (9, 0), (9, 0)]) gz_32_13 gm_33 rfl tv1 rd_5 rfl rfl rfl rfl rfl (c42_Reader_take (d := d) (x0 := v1) (x1 := x2) tv1 (fun h4 frh4 => ?_))
  have gh4 : my_fr [(5, 4), (40, -1)] h h4 := my_fr.tr gh2 (frh4.mo rfl)
  show wp l rho (d + 1) 32 16 [(2, x0), (1, x1), (9, 0), (1, x2), (9, 0), (1, x3), (9, 0)] [] h4 Q
  refine w_aload_n gz_32_16 rfl ?_
  refine w_getR gz_32_17 t0 rd_9 rfl (fun v5 ev5 tv5 => ?_)
  have zv5 : v1 = v5 := (ev5.trans ((my_fr.at frh4 t0 rfl).trans ((my_fr.at frh2 t0 rfl).trans ev1.symm))).symm
  subst zv5
  refine w_lload gz_32_20 rfl ?_
  refine w_inv (k := 2) (as := [(1, x3)]) (r := []) (x := v1) (ls0 := [(2, v1), (1, x3), (9, 0), (9, 0), (9, 0)]) gz_32_22 gm_33 rfl tv1 rd_5 rfl rfl rfl rfl rfl (c42_Reader_take (d := d) (x0 := v1) (x1 := x3) tv1 (fun h6 frh6 => ?_))
  have gh6 : my_fr [(5, 4), (40, -1)] h h6 := my_fr.tr gh4 (frh6.mo rfl)
  show wp l rho (d + 1) 32 25 [(2, x0), (1, x1), (9, 0), (1, x2), (9, 0), (1, x3), (9, 0)] [] h6 Q
  refine w_aload_n gz_32_25 rfl ?_
  refine w_getR gz_32_26 t0 rd_9 rfl (fun v7 ev7 tv7 => ?_)
  have zv7 : v1 = v7 := (ev7.trans ((my_fr.at frh6 t0 rfl).trans ((my_fr.at frh4 t0 rfl).trans ((my_fr.at frh2 t0 rfl).trans ev1.symm)))).symm
  subst zv7
  refine w_getI gz_32_29 tv1 rd_5 rfl (fun v8 ev8 pv8 qv8 => ?_)
  exact w_iret gz_32_32 gm_32 (k0 h6 (v8) (gh6) (by omega) (by omega))
theorem gz_18_0 : mz_pg 18 0 = some (.aload_n 0, 0, 0, 0) := by decide +kernel
theorem gz_18_1 : mz_pg 18 1 = some (.aload_n 1, 0, 0, 0) := by decide +kernel
theorem gz_18_2 : mz_pg 18 2 = some (.invokevirtual 32, 1, 19, 603) := by decide +kernel
theorem gz_18_5 : mz_pg 18 5 = some (.iconst (-1), 0, 0, 0) := by decide +kernel
theorem gz_18_6 : mz_pg 18 6 = some (.if_icmp .ne 7, 0, 0, 0) := by decide +kernel
theorem gz_18_9 : mz_pg 18 9 = some (.iconst 1, 0, 0, 0) := by decide +kernel
theorem gz_18_10 : mz_pg 18 10 = some (.goto 4, 0, 0, 0) := by decide +kernel
theorem gz_18_13 : mz_pg 18 13 = some (.iconst 0, 0, 0, 0) := by decide +kernel
theorem gz_18_14 : mz_pg 18 14 = some (.ireturn, 0, 0, 0) := by decide +kernel
theorem gm_18 : my_mm 18 2 (some .boolean) 1 3 := by unfold my_mm; decide +kernel
theorem c65_Laws_hold {l : Launch} {rho : Nat → Int32} {d : Nat} {h : my_H} {Q : my_H → my_V → Prop} {x0 x1 : Int} (t0 : my_is 3 x0) (t1 : my_is 6 x1) (k0 : Q h (0, 0)) (k1 : Q h (0, 1)) : wp l rho (d + 3) 18 0 [(2, x0), (2, x1)] [] h Q := by
  refine w_aload_n gz_18_0 rfl ?_
  refine w_aload_n gz_18_1 rfl ?_
  refine w_inv (k := 4) (as := [(2, x1)]) (r := []) (x := x0) (ls0 := [(2, x0), (2, x1), (9, 0), (9, 0), (9, 0), (9, 0)]) gz_18_2 gm_19 rfl t0 rd_3 rfl rfl rfl rfl rfl (c62_Laws_firstBroken (d := d) (x0 := x0) (x1 := x1) t0 t1 ?_ (fun v1 w2 w3 => ?_))
  ·
    show wp l rho (d + 3) 18 5 [(2, x0), (2, x1)] [(0, (-1))] h Q
    refine w_iconst gz_18_5 (by decide) ?_
    refine w_icne (t := 13) gz_18_6 rfl (fun u4 => by exfalso; omega) (fun u4 => ?_)
    refine w_iconst gz_18_9 (by decide) ?_
    refine w_goto (t := 14) gz_18_10 rfl ?_
    exact w_bret gz_18_14 gm_18 (by omega) (by omega) (k1 )
  ·
    show wp l rho (d + 3) 18 5 [(2, x0), (2, x1)] [(0, v1)] h Q
    refine w_iconst gz_18_5 (by decide) ?_
    refine w_icne (t := 13) gz_18_6 rfl (fun u5 => ?_) (fun u5 => by exfalso; omega)
    refine w_iconst gz_18_13 (by decide) ?_
    exact w_bret gz_18_14 gm_18 (by omega) (by omega) (k0 )
theorem gz_30_0 : mz_pg 30 0 = some (.aload_n 0, 0, 0, 0) := by decide +kernel
theorem gz_30_1 : mz_pg 30 1 = some (.getfield 10, 9, 0, 528) := by decide +kernel
theorem gz_30_4 : mz_pg 30 4 = some (.iload_n 1, 0, 0, 0) := by decide +kernel
theorem gz_30_5 : mz_pg 30 5 = some (.iload_n 2, 0, 0, 0) := by decide +kernel
theorem gz_30_6 : mz_pg 30 6 = some (.invokevirtual 118, 1, 27, 634) := by decide +kernel
theorem gz_30_9 : mz_pg 30 9 = some (.ifCond .eq 12, 0, 0, 0) := by decide +kernel
theorem gz_30_12 : mz_pg 30 12 = some (.iload_n 2, 0, 0, 0) := by decide +kernel
theorem gz_30_13 : mz_pg 30 13 = some (.ifCond .eq 8, 0, 0, 0) := by decide +kernel
theorem gz_30_16 : mz_pg 30 16 = some (.iload_n 3, 0, 0, 0) := by decide +kernel
theorem gz_30_17 : mz_pg 30 17 = some (.iload_n 1, 0, 0, 0) := by decide +kernel
theorem gz_30_18 : mz_pg 30 18 = some (.if_icmp .ne 5, 0, 0, 0) := by decide +kernel
theorem gz_30_21 : mz_pg 30 21 = some (.iconst 0, 0, 0, 0) := by decide +kernel
theorem gz_30_22 : mz_pg 30 22 = some (.ireturn, 0, 0, 0) := by decide +kernel
theorem gz_30_23 : mz_pg 30 23 = some (.iload_n 3, 0, 0, 0) := by decide +kernel
theorem gz_30_24 : mz_pg 30 24 = some (.iconst (-1), 0, 0, 0) := by decide +kernel
theorem gz_30_25 : mz_pg 30 25 = some (.if_icmp .eq 16, 0, 0, 0) := by decide +kernel
theorem gz_30_28 : mz_pg 30 28 = some (.aload_n 0, 0, 0, 0) := by decide +kernel
theorem gz_30_29 : mz_pg 30 29 = some (.getfield 10, 9, 0, 528) := by decide +kernel
theorem gz_30_32 : mz_pg 30 32 = some (.iload_n 3, 0, 0, 0) := by decide +kernel
theorem gz_30_33 : mz_pg 30 33 = some (.invokevirtual 88, 1, 13, 578) := by decide +kernel
theorem gz_30_36 : mz_pg 30 36 = some (.ifCond .ne 5, 0, 0, 0) := by decide +kernel
theorem gz_30_39 : mz_pg 30 39 = some (.iconst 0, 0, 0, 0) := by decide +kernel
theorem gz_30_40 : mz_pg 30 40 = some (.ireturn, 0, 0, 0) := by decide +kernel
theorem gz_30_41 : mz_pg 30 41 = some (.iload_n 1, 0, 0, 0) := by decide +kernel
theorem gz_30_42 : mz_pg 30 42 = some (.iload_n 2, 0, 0, 0) := by decide +kernel
theorem gz_30_43 : mz_pg 30 43 = some (.invokestatic 129, 1, 29, 643) := by decide +kernel
theorem gz_30_46 : mz_pg 30 46 = some (.istore 4, 0, 0, 0) := by decide +kernel
theorem gz_30_48 : mz_pg 30 48 = some (.aload_n 0, 0, 0, 0) := by decide +kernel
theorem gz_30_49 : mz_pg 30 49 = some (.getfield 10, 9, 0, 528) := by decide +kernel
theorem gz_30_52 : mz_pg 30 52 = some (.getfield 136, 3, 3, 154) := by decide +kernel
theorem gz_30_55 : mz_pg 30 55 = some (.iload 4, 0, 0, 0) := by decide +kernel
theorem gz_30_57 : mz_pg 30 57 = some (.iaload, 0, 0, 0) := by decide +kernel
theorem gz_30_58 : mz_pg 30 58 = some (.istore 5, 0, 0, 0) := by decide +kernel
theorem gz_30_60 : mz_pg 30 60 = some (.aload_n 0, 0, 0, 0) := by decide +kernel
theorem gz_30_61 : mz_pg 30 61 = some (.getfield 10, 9, 0, 528) := by decide +kernel
theorem gz_30_64 : mz_pg 30 64 = some (.getfield 136, 3, 3, 154) := by decide +kernel
theorem gz_30_67 : mz_pg 30 67 = some (.iload 4, 0, 0, 0) := by decide +kernel
theorem gz_30_69 : mz_pg 30 69 = some (.iload_n 3, 0, 0, 0) := by decide +kernel
theorem gz_30_70 : mz_pg 30 70 = some (.iastore, 0, 0, 0) := by decide +kernel
theorem gz_30_71 : mz_pg 30 71 = some (.aload_n 0, 0, 0, 0) := by decide +kernel
theorem gz_30_72 : mz_pg 30 72 = some (.getfield 10, 9, 0, 528) := by decide +kernel
theorem gz_30_75 : mz_pg 30 75 = some (.aload_n 0, 0, 0, 0) := by decide +kernel
theorem gz_30_76 : mz_pg 30 76 = some (.getfield 19, 9, 1, 529) := by decide +kernel
theorem gz_30_79 : mz_pg 30 79 = some (.invokevirtual 106, 1, 18, 599) := by decide +kernel
theorem gz_30_82 : mz_pg 30 82 = some (.ifCond .eq 5, 0, 0, 0) := by decide +kernel
theorem gz_30_85 : mz_pg 30 85 = some (.iconst 1, 0, 0, 0) := by decide +kernel
theorem gz_30_86 : mz_pg 30 86 = some (.ireturn, 0, 0, 0) := by decide +kernel
theorem gz_30_87 : mz_pg 30 87 = some (.aload_n 0, 0, 0, 0) := by decide +kernel
theorem gz_30_88 : mz_pg 30 88 = some (.getfield 10, 9, 0, 528) := by decide +kernel
theorem gz_30_91 : mz_pg 30 91 = some (.getfield 136, 3, 3, 154) := by decide +kernel
theorem gz_30_94 : mz_pg 30 94 = some (.iload 4, 0, 0, 0) := by decide +kernel
theorem gz_30_96 : mz_pg 30 96 = some (.iload 5, 0, 0, 0) := by decide +kernel
theorem gz_30_98 : mz_pg 30 98 = some (.iastore, 0, 0, 0) := by decide +kernel
theorem gz_30_99 : mz_pg 30 99 = some (.iconst 0, 0, 0, 0) := by decide +kernel
theorem gz_30_100 : mz_pg 30 100 = some (.ireturn, 0, 0, 0) := by decide +kernel
theorem gm_30 : my_mm 30 6 (some .boolean) 3 9 := by unfold my_mm; decide +kernel
theorem c66_ThroughWindow_names {l : Launch} {rho : Nat → Int32} {d : Nat} {h : my_H} {Q : my_H → my_V → Prop} {x0 x1 x2 x3 : Int} (t0 : my_is 9 x0) (k0 : ∀ (h' : my_H), my_fr [(28, -1)] h h' → Q h' (0, 0)) (k1 : ∀ (h' : my_H), my_fr [(28, -1)] h h' → 0 ≤ x1 → x1 ≤ 2 → 1 ≤ x2 → x2 ≤ 3 → (-1) ≤ x3 → x3 ≤ 2 → Q h' (0, 1)) : wp l rho (d + 4) 30 0 [(2, x0), (0, x1), (0, x2), (0, x3), (9, 0), (9, 0)] [] h Q := by
  have J41_0 : ∀ (h41_0 : my_H), my_fr [(28, -1)] h h41_0 → 0 ≤ x1 → x1 ≤ 2 → 1 ≤ x2 → x2 ≤ 3 → (-1) ≤ x3 → x3 ≤ 2 → wp l rho (d + 4) 30 41 [(2, x0), (0, x1), (0, x2), (0, x3), (9, 0), (9, 0)] [] h41_0 Q := by
    intro h41_0 gh_41_0 q0_41_0 q1_41_0 q2_41_0 q3_41_0 q4_41_0 q5_41_0
    refine w_iload_n gz_30_41 rfl ?_
    refine w_iload_n gz_30_42 rfl ?_
    refine w_inS (k := 0) (as := [(0, x2), (0, x1)]) (r := []) (ls0 := [(0, x1), (0, x2)]) gz_30_43 gm_29 rfl rfl rfl rfl rfl rfl ?_
    refine w_iload_n gz_29_0 rfl ?_
    refine w_iconst gz_29_1 (by decide) ?_
    refine w_imul gz_29_2 ⟨by omega, by omega⟩ ?_
    refine w_iload_n gz_29_3 rfl ?_
    refine w_iadd gz_29_4 ⟨by omega, by omega⟩ ?_
    refine w_iret gz_29_5 gm_29 ?_
    show wp l rho (d + 4) 30 46 [(2, x0), (0, x1), (0, x2), (0, x3), (9, 0), (9, 0)] [(0, ((x1 * 4) + x2))] h41_0 Q
    refine w_istore (ls' := [(2, x0), (0, x1), (0, x2), (0, x3), (0, ((x1 * 4) + x2)), (9, 0)]) gz_30_46 gm_30 rfl rfl rfl ?_
    refine w_aload_n gz_30_48 rfl ?_
    refine w_getR gz_30_49 t0 rd_9 rfl (fun v1 ev1 tv1 => ?_)
    refine w_getR gz_30_52 tv1 rd_3 rfl (fun v2 ev2 tv2 => ?_)
    refine w_iload gz_30_55 rfl ?_
    refine w_iald gz_30_57 tv2 rd_28 (by omega) (by omega) (fun v3 ev3 pv3 qv3 => ?_)
    refine w_istore (ls' := [(2, x0), (0, x1), (0, x2), (0, x3), (0, ((x1 * 4) + x2)), (0, v3)]) gz_30_58 gm_30 rfl rfl rfl ?_
    refine w_aload_n gz_30_60 rfl ?_
    refine w_getR gz_30_61 t0 rd_9 rfl (fun v4 ev4 tv4 => ?_)
    have zv4 : v1 = v4 := (ev4.trans ev1.symm).symm
    subst zv4
    refine w_getR gz_30_64 tv1 rd_3 rfl (fun v5 ev5 tv5 => ?_)
    have zv5 : v2 = v5 := (ev5.trans ev2.symm).symm
    subst zv5
    refine w_iload gz_30_67 rfl ?_
    refine w_iload_n gz_30_69 rfl ?_
    refine w_iast gz_30_70 tv2 rd_28 (by omega) (by omega) (by omega) (by omega) (fun h6 fh6 => ?_)
    have gh6 : my_fr [(28, -1)] h h6 := my_fr.up gh_41_0 tv2 fh6 rfl
    refine w_aload_n gz_30_71 rfl ?_
    refine w_getR gz_30_72 t0 rd_9 rfl (fun v7 ev7 tv7 => ?_)
    have zv7 : v1 = v7 := (ev7.trans ((my_up_role fh6 t0 tv2 rfl).trans ev1.symm)).symm
    subst zv7
    refine w_aload_n gz_30_75 rfl ?_
    refine w_getR gz_30_76 t0 rd_9 rfl (fun v8 ev8 tv8 => ?_)
    refine w_inv (k := 0) (as := [(2, v8)]) (r := []) (x := v1) (ls0 := [(2, v1), (2, v8)]) gz_30_79 gm_18 rfl tv1 rd_3 rfl rfl rfl rfl rfl (c65_Laws_hold (d := d) (x0 := v1) (x1 := v8) tv1 tv8 ?_ ?_)
    ·
      show wp l rho (d + 4) 30 82 [(2, x0), (0, x1), (0, x2), (0, x3), (0, ((x1 * 4) + x2)), (0, v3)] [(0, 0)] h6 Q
      refine w_ifeq (t := 87) gz_30_82 rfl (fun u9 => ?_) (fun u9 => by exfalso; omega)
      refine w_aload_n gz_30_87 rfl ?_
      refine w_getR gz_30_88 t0 rd_9 rfl (fun v10 ev10 tv10 => ?_)
      have zv10 : v1 = v10 := (ev10.trans ((my_up_role fh6 t0 tv2 rfl).trans ev1.symm)).symm
      subst zv10
      refine w_getR gz_30_91 tv1 rd_3 rfl (fun v11 ev11 tv11 => ?_)
      have zv11 : v2 = v11 := (ev11.trans ((my_up_role fh6 tv1 tv2 rfl).trans ev2.symm)).symm
      subst zv11
      refine w_iload gz_30_94 rfl ?_
      refine w_iload gz_30_96 rfl ?_
      refine w_iast gz_30_98 tv2 rd_28 (by omega) (by omega) (by omega) (by omega) (fun h12 fh12 => ?_)
      have gh12 : my_fr [(28, -1)] h h12 := my_fr.up gh6 tv2 fh12 rfl
      refine w_iconst gz_30_99 (by decide) ?_
      exact w_bret gz_30_100 gm_30 (by omega) (by omega) (k0 h12 (gh12))
    ·
      show wp l rho (d + 4) 30 82 [(2, x0), (0, x1), (0, x2), (0, x3), (0, ((x1 * 4) + x2)), (0, v3)] [(0, 1)] h6 Q
      refine w_ifeq (t := 87) gz_30_82 rfl (fun u13 => by exfalso; omega) (fun u13 => ?_)
      refine w_iconst gz_30_85 (by decide) ?_
      exact w_bret gz_30_86 gm_30 (by omega) (by omega) (k1 h6 (gh6) (by omega) (by omega) (by omega) (by omega) (by omega) (by omega))
  refine w_aload_n gz_30_0 rfl ?_
  refine w_getR gz_30_1 t0 rd_9 rfl (fun v14 ev14 tv14 => ?_)
  refine w_iload_n gz_30_4 rfl ?_
  refine w_iload_n gz_30_5 rfl ?_
  refine w_inv (k := 0) (as := [(0, x2), (0, x1)]) (r := []) (x := v14) (ls0 := [(2, v14), (0, x1), (0, x2)]) gz_30_6 gm_27 rfl tv14 rd_3 rfl rfl rfl rfl rfl ?_
  refine w_aload_n gz_27_0 rfl ?_
  refine w_iload_n gz_27_1 rfl ?_
  refine w_inv (k := 0) (as := [(0, x1)]) (r := []) (x := v14) (ls0 := [(2, v14), (0, x1)]) gz_27_2 gm_13 rfl tv14 rd_3 rfl rfl rfl rfl rfl ?_
  refine w_iload_n gz_13_0 rfl ?_
  refine w_iflt (t := 22) gz_13_1 rfl (fun u15 => ?_) (fun u15 => ?_)
  ·
    refine w_iconst gz_13_22 (by decide) ?_
    refine w_bret gz_13_23 gm_13 (by omega) (by omega) ?_
    show wp l rho (d + 3) 27 5 [(2, v14), (0, x1), (0, x2)] [(0, 0)] h _
    refine w_ifeq (t := 26) gz_27_5 rfl (fun u16 => ?_) (fun u16 => by exfalso; omega)
    refine w_iconst gz_27_26 (by decide) ?_
    refine w_bret gz_27_27 gm_27 (by omega) (by omega) ?_
    show wp l rho (d + 4) 30 9 [(2, x0), (0, x1), (0, x2), (0, x3), (9, 0), (9, 0)] [(0, 0)] h Q
    refine w_ifeq (t := 21) gz_30_9 rfl (fun u17 => ?_) (fun u17 => by exfalso; omega)
    refine w_iconst gz_30_21 (by decide) ?_
    exact w_bret gz_30_22 gm_30 (by omega) (by omega) (k0 h (my_fr.rf))
  ·
    refine w_iload_n gz_13_4 rfl ?_
    refine w_iconst gz_13_5 (by decide) ?_
    refine w_icge (t := 22) gz_13_6 rfl (fun u18 => ?_) (fun u18 => ?_)
    ·
      refine w_iconst gz_13_22 (by decide) ?_
      refine w_bret gz_13_23 gm_13 (by omega) (by omega) ?_
      show wp l rho (d + 3) 27 5 [(2, v14), (0, x1), (0, x2)] [(0, 0)] h _
      refine w_ifeq (t := 26) gz_27_5 rfl (fun u19 => ?_) (fun u19 => by exfalso; omega)
      refine w_iconst gz_27_26 (by decide) ?_
      refine w_bret gz_27_27 gm_27 (by omega) (by omega) ?_
      show wp l rho (d + 4) 30 9 [(2, x0), (0, x1), (0, x2), (0, x3), (9, 0), (9, 0)] [(0, 0)] h Q
      refine w_ifeq (t := 21) gz_30_9 rfl (fun u20 => ?_) (fun u20 => by exfalso; omega)
      refine w_iconst gz_30_21 (by decide) ?_
      exact w_bret gz_30_22 gm_30 (by omega) (by omega) (k0 h (my_fr.rf))
    ·
      refine w_aload_n gz_13_9 rfl ?_
      refine w_getR gz_13_10 tv14 rd_3 rfl (fun v21 ev21 tv21 => ?_)
      refine w_iload_n gz_13_13 rfl ?_
      refine w_iald gz_13_14 tv21 rd_25 (by omega) (by omega) (fun v22 ev22 pv22 qv22 => ?_)
      refine w_ifle (t := 22) gz_13_15 rfl (fun u23 => ?_) (fun u23 => ?_)
      ·
        refine w_iconst gz_13_22 (by decide) ?_
        refine w_bret gz_13_23 gm_13 (by omega) (by omega) ?_
        show wp l rho (d + 3) 27 5 [(2, v14), (0, x1), (0, x2)] [(0, 0)] h _
        refine w_ifeq (t := 26) gz_27_5 rfl (fun u24 => ?_) (fun u24 => by exfalso; omega)
        refine w_iconst gz_27_26 (by decide) ?_
        refine w_bret gz_27_27 gm_27 (by omega) (by omega) ?_
        show wp l rho (d + 4) 30 9 [(2, x0), (0, x1), (0, x2), (0, x3), (9, 0), (9, 0)] [(0, 0)] h Q
        refine w_ifeq (t := 21) gz_30_9 rfl (fun u25 => ?_) (fun u25 => by exfalso; omega)
        refine w_iconst gz_30_21 (by decide) ?_
        exact w_bret gz_30_22 gm_30 (by omega) (by omega) (k0 h (my_fr.rf))
      ·
        refine w_iconst gz_13_18 (by decide) ?_
        refine w_goto (t := 23) gz_13_19 rfl ?_
        refine w_bret gz_13_23 gm_13 (by omega) (by omega) ?_
        show wp l rho (d + 3) 27 5 [(2, v14), (0, x1), (0, x2)] [(0, 1)] h _
        refine w_ifeq (t := 26) gz_27_5 rfl (fun u26 => by exfalso; omega) (fun u26 => ?_)
        refine w_iload_n gz_27_8 rfl ?_
        refine w_iflt (t := 26) gz_27_9 rfl (fun u27 => ?_) (fun u27 => ?_)
        ·
          refine w_iconst gz_27_26 (by decide) ?_
          refine w_bret gz_27_27 gm_27 (by omega) (by omega) ?_
          show wp l rho (d + 4) 30 9 [(2, x0), (0, x1), (0, x2), (0, x3), (9, 0), (9, 0)] [(0, 0)] h Q
          refine w_ifeq (t := 21) gz_30_9 rfl (fun u28 => ?_) (fun u28 => by exfalso; omega)
          refine w_iconst gz_30_21 (by decide) ?_
          exact w_bret gz_30_22 gm_30 (by omega) (by omega) (k0 h (my_fr.rf))
        ·
          refine w_iload_n gz_27_12 rfl ?_
          refine w_aload_n gz_27_13 rfl ?_
          refine w_getR gz_27_14 tv14 rd_3 rfl (fun v29 ev29 tv29 => ?_)
          have zv29 : v21 = v29 := (ev29.trans ev21.symm).symm
          subst zv29
          refine w_iload_n gz_27_17 rfl ?_
          refine w_iald gz_27_18 tv21 rd_25 (by omega) (by omega) (fun v30 ev30 pv30 qv30 => ?_)
          have zv30 := ev30.trans ev22.symm
          refine w_icge (t := 26) gz_27_19 rfl (fun u31 => ?_) (fun u31 => ?_)
          ·
            refine w_iconst gz_27_26 (by decide) ?_
            refine w_bret gz_27_27 gm_27 (by omega) (by omega) ?_
            show wp l rho (d + 4) 30 9 [(2, x0), (0, x1), (0, x2), (0, x3), (9, 0), (9, 0)] [(0, 0)] h Q
            refine w_ifeq (t := 21) gz_30_9 rfl (fun u32 => ?_) (fun u32 => by exfalso; omega)
            refine w_iconst gz_30_21 (by decide) ?_
            exact w_bret gz_30_22 gm_30 (by omega) (by omega) (k0 h (my_fr.rf))
          ·
            refine w_iconst gz_27_22 (by decide) ?_
            refine w_goto (t := 27) gz_27_23 rfl ?_
            refine w_bret gz_27_27 gm_27 (by omega) (by omega) ?_
            show wp l rho (d + 4) 30 9 [(2, x0), (0, x1), (0, x2), (0, x3), (9, 0), (9, 0)] [(0, 1)] h Q
            refine w_ifeq (t := 21) gz_30_9 rfl (fun u33 => by exfalso; omega) (fun u33 => ?_)
            refine w_iload_n gz_30_12 rfl ?_
            refine w_ifeq (t := 21) gz_30_13 rfl (fun u34 => ?_) (fun u34 => ?_)
            ·
              refine w_iconst gz_30_21 (by decide) ?_
              exact w_bret gz_30_22 gm_30 (by omega) (by omega) (k0 h (my_fr.rf))
            ·
              refine w_iload_n gz_30_16 rfl ?_
              refine w_iload_n gz_30_17 rfl ?_
              refine w_icne (t := 23) gz_30_18 rfl (fun u35 => ?_) (fun u35 => ?_)
              ·
                refine w_iload_n gz_30_23 rfl ?_
                refine w_iconst gz_30_24 (by decide) ?_
                refine w_iceq (t := 41) gz_30_25 rfl (fun u36 => ?_) (fun u36 => ?_)
                ·
                  exact J41_0 h (my_fr.rf) (by omega) (by omega) (by omega) (by omega) (by omega) (by omega)
                ·
                  refine w_aload_n gz_30_28 rfl ?_
                  refine w_getR gz_30_29 t0 rd_9 rfl (fun v37 ev37 tv37 => ?_)
                  have zv37 : v14 = v37 := (ev37.trans ev14.symm).symm
                  subst zv37
                  refine w_iload_n gz_30_32 rfl ?_
                  refine w_inv (k := 0) (as := [(0, x3)]) (r := []) (x := v14) (ls0 := [(2, v14), (0, x3)]) gz_30_33 gm_13 rfl tv14 rd_3 rfl rfl rfl rfl rfl ?_
                  refine w_iload_n gz_13_0 rfl ?_
                  refine w_iflt (t := 22) gz_13_1 rfl (fun u38 => ?_) (fun u38 => ?_)
                  ·
                    refine w_iconst gz_13_22 (by decide) ?_
                    refine w_bret gz_13_23 gm_13 (by omega) (by omega) ?_
                    show wp l rho (d + 4) 30 36 [(2, x0), (0, x1), (0, x2), (0, x3), (9, 0), (9, 0)] [(0, 0)] h Q
                    refine w_ifne (t := 41) gz_30_36 rfl (fun u39 => by exfalso; omega) (fun u39 => ?_)
                    refine w_iconst gz_30_39 (by decide) ?_
                    exact w_bret gz_30_40 gm_30 (by omega) (by omega) (k0 h (my_fr.rf))
                  ·
                    refine w_iload_n gz_13_4 rfl ?_
                    refine w_iconst gz_13_5 (by decide) ?_
                    refine w_icge (t := 22) gz_13_6 rfl (fun u40 => ?_) (fun u40 => ?_)
                    ·
                      refine w_iconst gz_13_22 (by decide) ?_
                      refine w_bret gz_13_23 gm_13 (by omega) (by omega) ?_
                      show wp l rho (d + 4) 30 36 [(2, x0), (0, x1), (0, x2), (0, x3), (9, 0), (9, 0)] [(0, 0)] h Q
                      refine w_ifne (t := 41) gz_30_36 rfl (fun u41 => by exfalso; omega) (fun u41 => ?_)
                      refine w_iconst gz_30_39 (by decide) ?_
                      exact w_bret gz_30_40 gm_30 (by omega) (by omega) (k0 h (my_fr.rf))
                    ·
                      refine w_aload_n gz_13_9 rfl ?_
                      refine w_getR gz_13_10 tv14 rd_3 rfl (fun v42 ev42 tv42 => ?_)
                      have zv42 : v21 = v42 := (ev42.trans ev21.symm).symm
                      subst zv42
                      refine w_iload_n gz_13_13 rfl ?_
                      refine w_iald gz_13_14 tv21 rd_25 (by omega) (by omega) (fun v43 ev43 pv43 qv43 => ?_)
                      refine w_ifle (t := 22) gz_13_15 rfl (fun u44 => ?_) (fun u44 => ?_)
                      ·
                        refine w_iconst gz_13_22 (by decide) ?_
                        refine w_bret gz_13_23 gm_13 (by omega) (by omega) ?_
                        show wp l rho (d + 4) 30 36 [(2, x0), (0, x1), (0, x2), (0, x3), (9, 0), (9, 0)] [(0, 0)] h Q
                        refine w_ifne (t := 41) gz_30_36 rfl (fun u45 => by exfalso; omega) (fun u45 => ?_)
                        refine w_iconst gz_30_39 (by decide) ?_
                        exact w_bret gz_30_40 gm_30 (by omega) (by omega) (k0 h (my_fr.rf))
                      ·
                        refine w_iconst gz_13_18 (by decide) ?_
                        refine w_goto (t := 23) gz_13_19 rfl ?_
                        refine w_bret gz_13_23 gm_13 (by omega) (by omega) ?_
                        show wp l rho (d + 4) 30 36 [(2, x0), (0, x1), (0, x2), (0, x3), (9, 0), (9, 0)] [(0, 1)] h Q
                        refine w_ifne (t := 41) gz_30_36 rfl (fun u46 => ?_) (fun u46 => by exfalso; omega)
                        exact J41_0 h (my_fr.rf) (by omega) (by omega) (by omega) (by omega) (by omega) (by omega)
              ·
                refine w_iconst gz_30_21 (by decide) ?_
                exact w_bret gz_30_22 gm_30 (by omega) (by omega) (k0 h (my_fr.rf))
theorem gz_31_0 : mz_pg 31 0 = some (.aload_n 0, 0, 0, 0) := by decide +kernel
theorem gz_31_1 : mz_pg 31 1 = some (.getfield 10, 9, 0, 528) := by decide +kernel
theorem gz_31_4 : mz_pg 31 4 = some (.iload_n 1, 0, 0, 0) := by decide +kernel
theorem gz_31_5 : mz_pg 31 5 = some (.iload_n 2, 0, 0, 0) := by decide +kernel
theorem gz_31_6 : mz_pg 31 6 = some (.invokevirtual 118, 1, 27, 634) := by decide +kernel
theorem gz_31_9 : mz_pg 31 9 = some (.ifCond .eq 7, 0, 0, 0) := by decide +kernel
theorem gz_31_12 : mz_pg 31 12 = some (.iload_n 2, 0, 0, 0) := by decide +kernel
theorem gz_31_13 : mz_pg 31 13 = some (.ifCond .ne 5, 0, 0, 0) := by decide +kernel
theorem gz_31_16 : mz_pg 31 16 = some (.iconst 0, 0, 0, 0) := by decide +kernel
theorem gz_31_17 : mz_pg 31 17 = some (.ireturn, 0, 0, 0) := by decide +kernel
theorem gz_31_18 : mz_pg 31 18 = some (.iload_n 1, 0, 0, 0) := by decide +kernel
theorem gz_31_19 : mz_pg 31 19 = some (.iload_n 2, 0, 0, 0) := by decide +kernel
theorem gz_31_20 : mz_pg 31 20 = some (.invokestatic 129, 1, 29, 643) := by decide +kernel
theorem gz_31_23 : mz_pg 31 23 = some (.istore 4, 0, 0, 0) := by decide +kernel
theorem gz_31_25 : mz_pg 31 25 = some (.aload_n 0, 0, 0, 0) := by decide +kernel
theorem gz_31_26 : mz_pg 31 26 = some (.getfield 10, 9, 0, 528) := by decide +kernel
theorem gz_31_29 : mz_pg 31 29 = some (.getfield 139, 3, 4, 156) := by decide +kernel
theorem gz_31_32 : mz_pg 31 32 = some (.iload 4, 0, 0, 0) := by decide +kernel
theorem gz_31_34 : mz_pg 31 34 = some (.baload, 0, 0, 0) := by decide +kernel
theorem gz_31_35 : mz_pg 31 35 = some (.istore 5, 0, 0, 0) := by decide +kernel
theorem gz_31_37 : mz_pg 31 37 = some (.aload_n 0, 0, 0, 0) := by decide +kernel
theorem gz_31_38 : mz_pg 31 38 = some (.getfield 10, 9, 0, 528) := by decide +kernel
theorem gz_31_41 : mz_pg 31 41 = some (.getfield 139, 3, 4, 156) := by decide +kernel
theorem gz_31_44 : mz_pg 31 44 = some (.iload 4, 0, 0, 0) := by decide +kernel
theorem gz_31_46 : mz_pg 31 46 = some (.iload_n 3, 0, 0, 0) := by decide +kernel
theorem gz_31_47 : mz_pg 31 47 = some (.bastore, 0, 0, 0) := by decide +kernel
theorem gz_31_48 : mz_pg 31 48 = some (.aload_n 0, 0, 0, 0) := by decide +kernel
theorem gz_31_49 : mz_pg 31 49 = some (.getfield 10, 9, 0, 528) := by decide +kernel
theorem gz_31_52 : mz_pg 31 52 = some (.aload_n 0, 0, 0, 0) := by decide +kernel
theorem gz_31_53 : mz_pg 31 53 = some (.getfield 19, 9, 1, 529) := by decide +kernel
theorem gz_31_56 : mz_pg 31 56 = some (.invokevirtual 106, 1, 18, 599) := by decide +kernel
theorem gz_31_59 : mz_pg 31 59 = some (.ifCond .eq 5, 0, 0, 0) := by decide +kernel
theorem gz_31_62 : mz_pg 31 62 = some (.iconst 1, 0, 0, 0) := by decide +kernel
theorem gz_31_63 : mz_pg 31 63 = some (.ireturn, 0, 0, 0) := by decide +kernel
theorem gz_31_64 : mz_pg 31 64 = some (.aload_n 0, 0, 0, 0) := by decide +kernel
theorem gz_31_65 : mz_pg 31 65 = some (.getfield 10, 9, 0, 528) := by decide +kernel
theorem gz_31_68 : mz_pg 31 68 = some (.getfield 139, 3, 4, 156) := by decide +kernel
theorem gz_31_71 : mz_pg 31 71 = some (.iload 4, 0, 0, 0) := by decide +kernel
theorem gz_31_73 : mz_pg 31 73 = some (.iload 5, 0, 0, 0) := by decide +kernel
theorem gz_31_75 : mz_pg 31 75 = some (.bastore, 0, 0, 0) := by decide +kernel
theorem gz_31_76 : mz_pg 31 76 = some (.iconst 0, 0, 0, 0) := by decide +kernel
theorem gz_31_77 : mz_pg 31 77 = some (.ireturn, 0, 0, 0) := by decide +kernel
theorem gm_31 : my_mm 31 6 (some .boolean) 3 9 := by unfold my_mm; decide +kernel
theorem c67_ThroughWindow_once {l : Launch} {rho : Nat → Int32} {d : Nat} {h : my_H} {Q : my_H → my_V → Prop} {x0 x1 x2 x3 : Int} (t0 : my_is 9 x0) (a3 : 0 ≤ x3) (b3 : x3 ≤ 1) (k0 : ∀ (h' : my_H), my_fr [(29, -1)] h h' → Q h' (0, 0)) (k1 : ∀ (h' : my_H), my_fr [(29, -1)] h h' → 0 ≤ x1 → x1 ≤ 2 → 1 ≤ x2 → x2 ≤ 3 → Q h' (0, 1)) : wp l rho (d + 4) 31 0 [(2, x0), (0, x1), (0, x2), (0, x3), (9, 0), (9, 0)] [] h Q := by
  refine w_aload_n gz_31_0 rfl ?_
  refine w_getR gz_31_1 t0 rd_9 rfl (fun v1 ev1 tv1 => ?_)
  refine w_iload_n gz_31_4 rfl ?_
  refine w_iload_n gz_31_5 rfl ?_
  refine w_inv (k := 0) (as := [(0, x2), (0, x1)]) (r := []) (x := v1) (ls0 := [(2, v1), (0, x1), (0, x2)]) gz_31_6 gm_27 rfl tv1 rd_3 rfl rfl rfl rfl rfl ?_
  refine w_aload_n gz_27_0 rfl ?_
  refine w_iload_n gz_27_1 rfl ?_
  refine w_inv (k := 0) (as := [(0, x1)]) (r := []) (x := v1) (ls0 := [(2, v1), (0, x1)]) gz_27_2 gm_13 rfl tv1 rd_3 rfl rfl rfl rfl rfl ?_
  refine w_iload_n gz_13_0 rfl ?_
  refine w_iflt (t := 22) gz_13_1 rfl (fun u2 => ?_) (fun u2 => ?_)
  ·
    refine w_iconst gz_13_22 (by decide) ?_
    refine w_bret gz_13_23 gm_13 (by omega) (by omega) ?_
    show wp l rho (d + 3) 27 5 [(2, v1), (0, x1), (0, x2)] [(0, 0)] h _
    refine w_ifeq (t := 26) gz_27_5 rfl (fun u3 => ?_) (fun u3 => by exfalso; omega)
    refine w_iconst gz_27_26 (by decide) ?_
    refine w_bret gz_27_27 gm_27 (by omega) (by omega) ?_
    show wp l rho (d + 4) 31 9 [(2, x0), (0, x1), (0, x2), (0, x3), (9, 0), (9, 0)] [(0, 0)] h Q
    refine w_ifeq (t := 16) gz_31_9 rfl (fun u4 => ?_) (fun u4 => by exfalso; omega)
    refine w_iconst gz_31_16 (by decide) ?_
    exact w_bret gz_31_17 gm_31 (by omega) (by omega) (k0 h (my_fr.rf))
  ·
    refine w_iload_n gz_13_4 rfl ?_
    refine w_iconst gz_13_5 (by decide) ?_
    refine w_icge (t := 22) gz_13_6 rfl (fun u5 => ?_) (fun u5 => ?_)
    ·
      refine w_iconst gz_13_22 (by decide) ?_
      refine w_bret gz_13_23 gm_13 (by omega) (by omega) ?_
      show wp l rho (d + 3) 27 5 [(2, v1), (0, x1), (0, x2)] [(0, 0)] h _
      refine w_ifeq (t := 26) gz_27_5 rfl (fun u6 => ?_) (fun u6 => by exfalso; omega)
      refine w_iconst gz_27_26 (by decide) ?_
      refine w_bret gz_27_27 gm_27 (by omega) (by omega) ?_
      show wp l rho (d + 4) 31 9 [(2, x0), (0, x1), (0, x2), (0, x3), (9, 0), (9, 0)] [(0, 0)] h Q
      refine w_ifeq (t := 16) gz_31_9 rfl (fun u7 => ?_) (fun u7 => by exfalso; omega)
      refine w_iconst gz_31_16 (by decide) ?_
      exact w_bret gz_31_17 gm_31 (by omega) (by omega) (k0 h (my_fr.rf))
    ·
      refine w_aload_n gz_13_9 rfl ?_
      refine w_getR gz_13_10 tv1 rd_3 rfl (fun v8 ev8 tv8 => ?_)
      refine w_iload_n gz_13_13 rfl ?_
      refine w_iald gz_13_14 tv8 rd_25 (by omega) (by omega) (fun v9 ev9 pv9 qv9 => ?_)
      refine w_ifle (t := 22) gz_13_15 rfl (fun u10 => ?_) (fun u10 => ?_)
      ·
        refine w_iconst gz_13_22 (by decide) ?_
        refine w_bret gz_13_23 gm_13 (by omega) (by omega) ?_
        show wp l rho (d + 3) 27 5 [(2, v1), (0, x1), (0, x2)] [(0, 0)] h _
        refine w_ifeq (t := 26) gz_27_5 rfl (fun u11 => ?_) (fun u11 => by exfalso; omega)
        refine w_iconst gz_27_26 (by decide) ?_
        refine w_bret gz_27_27 gm_27 (by omega) (by omega) ?_
        show wp l rho (d + 4) 31 9 [(2, x0), (0, x1), (0, x2), (0, x3), (9, 0), (9, 0)] [(0, 0)] h Q
        refine w_ifeq (t := 16) gz_31_9 rfl (fun u12 => ?_) (fun u12 => by exfalso; omega)
        refine w_iconst gz_31_16 (by decide) ?_
        exact w_bret gz_31_17 gm_31 (by omega) (by omega) (k0 h (my_fr.rf))
      ·
        refine w_iconst gz_13_18 (by decide) ?_
        refine w_goto (t := 23) gz_13_19 rfl ?_
        refine w_bret gz_13_23 gm_13 (by omega) (by omega) ?_
        show wp l rho (d + 3) 27 5 [(2, v1), (0, x1), (0, x2)] [(0, 1)] h _
        refine w_ifeq (t := 26) gz_27_5 rfl (fun u13 => by exfalso; omega) (fun u13 => ?_)
        refine w_iload_n gz_27_8 rfl ?_
        refine w_iflt (t := 26) gz_27_9 rfl (fun u14 => ?_) (fun u14 => ?_)
        ·
          refine w_iconst gz_27_26 (by decide) ?_
          refine w_bret gz_27_27 gm_27 (by omega) (by omega) ?_
          show wp l rho (d + 4) 31 9 [(2, x0), (0, x1), (0, x2), (0, x3), (9, 0), (9, 0)] [(0, 0)] h Q
          refine w_ifeq (t := 16) gz_31_9 rfl (fun u15 => ?_) (fun u15 => by exfalso; omega)
          refine w_iconst gz_31_16 (by decide) ?_
          exact w_bret gz_31_17 gm_31 (by omega) (by omega) (k0 h (my_fr.rf))
        ·
          refine w_iload_n gz_27_12 rfl ?_
          refine w_aload_n gz_27_13 rfl ?_
          refine w_getR gz_27_14 tv1 rd_3 rfl (fun v16 ev16 tv16 => ?_)
          have zv16 : v8 = v16 := (ev16.trans ev8.symm).symm
          subst zv16
          refine w_iload_n gz_27_17 rfl ?_
          refine w_iald gz_27_18 tv8 rd_25 (by omega) (by omega) (fun v17 ev17 pv17 qv17 => ?_)
          have zv17 := ev17.trans ev9.symm
          refine w_icge (t := 26) gz_27_19 rfl (fun u18 => ?_) (fun u18 => ?_)
          ·
            refine w_iconst gz_27_26 (by decide) ?_
            refine w_bret gz_27_27 gm_27 (by omega) (by omega) ?_
            show wp l rho (d + 4) 31 9 [(2, x0), (0, x1), (0, x2), (0, x3), (9, 0), (9, 0)] [(0, 0)] h Q
            refine w_ifeq (t := 16) gz_31_9 rfl (fun u19 => ?_) (fun u19 => by exfalso; omega)
            refine w_iconst gz_31_16 (by decide) ?_
            exact w_bret gz_31_17 gm_31 (by omega) (by omega) (k0 h (my_fr.rf))
          ·
            refine w_iconst gz_27_22 (by decide) ?_
            refine w_goto (t := 27) gz_27_23 rfl ?_
            refine w_bret gz_27_27 gm_27 (by omega) (by omega) ?_
            show wp l rho (d + 4) 31 9 [(2, x0), (0, x1), (0, x2), (0, x3), (9, 0), (9, 0)] [(0, 1)] h Q
            refine w_ifeq (t := 16) gz_31_9 rfl (fun u20 => by exfalso; omega) (fun u20 => ?_)
            refine w_iload_n gz_31_12 rfl ?_
            refine w_ifne (t := 18) gz_31_13 rfl (fun u21 => ?_) (fun u21 => ?_)
            ·
              refine w_iload_n gz_31_18 rfl ?_
              refine w_iload_n gz_31_19 rfl ?_
              refine w_inS (k := 0) (as := [(0, x2), (0, x1)]) (r := []) (ls0 := [(0, x1), (0, x2)]) gz_31_20 gm_29 rfl rfl rfl rfl rfl rfl ?_
              refine w_iload_n gz_29_0 rfl ?_
              refine w_iconst gz_29_1 (by decide) ?_
              refine w_imul gz_29_2 ⟨by omega, by omega⟩ ?_
              refine w_iload_n gz_29_3 rfl ?_
              refine w_iadd gz_29_4 ⟨by omega, by omega⟩ ?_
              refine w_iret gz_29_5 gm_29 ?_
              show wp l rho (d + 4) 31 23 [(2, x0), (0, x1), (0, x2), (0, x3), (9, 0), (9, 0)] [(0, ((x1 * 4) + x2))] h Q
              refine w_istore (ls' := [(2, x0), (0, x1), (0, x2), (0, x3), (0, ((x1 * 4) + x2)), (9, 0)]) gz_31_23 gm_31 rfl rfl rfl ?_
              refine w_aload_n gz_31_25 rfl ?_
              refine w_getR gz_31_26 t0 rd_9 rfl (fun v22 ev22 tv22 => ?_)
              have zv22 : v1 = v22 := (ev22.trans ev1.symm).symm
              subst zv22
              refine w_getR gz_31_29 tv1 rd_3 rfl (fun v23 ev23 tv23 => ?_)
              refine w_iload gz_31_32 rfl ?_
              refine w_bald gz_31_34 tv23 rd_29 (by omega) (by omega) (fun v24 ev24 pv24 qv24 => ?_)
              refine w_istore (ls' := [(2, x0), (0, x1), (0, x2), (0, x3), (0, ((x1 * 4) + x2)), (0, v24)]) gz_31_35 gm_31 rfl rfl rfl ?_
              refine w_aload_n gz_31_37 rfl ?_
              refine w_getR gz_31_38 t0 rd_9 rfl (fun v25 ev25 tv25 => ?_)
              have zv25 : v1 = v25 := (ev25.trans ev1.symm).symm
              subst zv25
              refine w_getR gz_31_41 tv1 rd_3 rfl (fun v26 ev26 tv26 => ?_)
              have zv26 : v23 = v26 := (ev26.trans ev23.symm).symm
              subst zv26
              refine w_iload gz_31_44 rfl ?_
              refine w_iload_n gz_31_46 rfl ?_
              refine w_bast gz_31_47 tv23 rd_29 (by omega) (by omega) (by omega) (by omega) (fun h27 fh27 => ?_)
              have gh27 : my_fr [(29, -1)] h h27 := my_fr.up my_fr.rf tv23 fh27 rfl
              refine w_aload_n gz_31_48 rfl ?_
              refine w_getR gz_31_49 t0 rd_9 rfl (fun v28 ev28 tv28 => ?_)
              have zv28 : v1 = v28 := (ev28.trans ((my_up_role fh27 t0 tv23 rfl).trans ev1.symm)).symm
              subst zv28
              refine w_aload_n gz_31_52 rfl ?_
              refine w_getR gz_31_53 t0 rd_9 rfl (fun v29 ev29 tv29 => ?_)
              refine w_inv (k := 0) (as := [(2, v29)]) (r := []) (x := v1) (ls0 := [(2, v1), (2, v29)]) gz_31_56 gm_18 rfl tv1 rd_3 rfl rfl rfl rfl rfl (c65_Laws_hold (d := d) (x0 := v1) (x1 := v29) tv1 tv29 ?_ ?_)
              ·
                show wp l rho (d + 4) 31 59 [(2, x0), (0, x1), (0, x2), (0, x3), (0, ((x1 * 4) + x2)), (0, v24)] [(0, 0)] h27 Q
                refine w_ifeq (t := 64) gz_31_59 rfl (fun u30 => ?_) (fun u30 => by exfalso; omega)
                refine w_aload_n gz_31_64 rfl ?_
                refine w_getR gz_31_65 t0 rd_9 rfl (fun v31 ev31 tv31 => ?_)
                have zv31 : v1 = v31 := (ev31.trans ((my_up_role fh27 t0 tv23 rfl).trans ev1.symm)).symm
                subst zv31
                refine w_getR gz_31_68 tv1 rd_3 rfl (fun v32 ev32 tv32 => ?_)
                have zv32 : v23 = v32 := (ev32.trans ((my_up_role fh27 tv1 tv23 rfl).trans ev23.symm)).symm
                subst zv32
                refine w_iload gz_31_71 rfl ?_
                refine w_iload gz_31_73 rfl ?_
                refine w_bast gz_31_75 tv23 rd_29 (by omega) (by omega) (by omega) (by omega) (fun h33 fh33 => ?_)
                have gh33 : my_fr [(29, -1)] h h33 := my_fr.up gh27 tv23 fh33 rfl
                refine w_iconst gz_31_76 (by decide) ?_
                exact w_bret gz_31_77 gm_31 (by omega) (by omega) (k0 h33 (gh33))
              ·
                show wp l rho (d + 4) 31 59 [(2, x0), (0, x1), (0, x2), (0, x3), (0, ((x1 * 4) + x2)), (0, v24)] [(0, 1)] h27 Q
                refine w_ifeq (t := 64) gz_31_59 rfl (fun u34 => by exfalso; omega) (fun u34 => ?_)
                refine w_iconst gz_31_62 (by decide) ?_
                exact w_bret gz_31_63 gm_31 (by omega) (by omega) (k1 h27 (gh27) (by omega) (by omega) (by omega) (by omega))
            ·
              refine w_iconst gz_31_16 (by decide) ?_
              exact w_bret gz_31_17 gm_31 (by omega) (by omega) (k0 h (my_fr.rf))
theorem gz_25_0 : mz_pg 25 0 = some (.aload_n 1, 0, 0, 0) := by decide +kernel
theorem gz_25_1 : mz_pg 25 1 = some (.getfield 9, 6, 0, 176) := by decide +kernel
theorem gz_25_4 : mz_pg 25 4 = some (.iconst 0, 0, 0, 0) := by decide +kernel
theorem gz_25_5 : mz_pg 25 5 = some (.aload_n 0, 0, 0, 0) := by decide +kernel
theorem gz_25_6 : mz_pg 25 6 = some (.getfield 9, 6, 0, 176) := by decide +kernel
theorem gz_25_9 : mz_pg 25 9 = some (.iconst 0, 0, 0, 0) := by decide +kernel
theorem gz_25_10 : mz_pg 25 10 = some (.aload_n 0, 0, 0, 0) := by decide +kernel
theorem gz_25_11 : mz_pg 25 11 = some (.getfield 9, 6, 0, 176) := by decide +kernel
theorem gz_25_14 : mz_pg 25 14 = some (.arraylength, 0, 0, 0) := by decide +kernel
theorem gz_25_15 : mz_pg 25 15 = some (.invokestatic 22, 0, 0, 596) := by decide +kernel
theorem gz_25_18 : mz_pg 25 18 = some (.aload_n 1, 0, 0, 0) := by decide +kernel
theorem gz_25_19 : mz_pg 25 19 = some (.getfield 15, 6, 1, 182) := by decide +kernel
theorem gz_25_22 : mz_pg 25 22 = some (.iconst 0, 0, 0, 0) := by decide +kernel
theorem gz_25_23 : mz_pg 25 23 = some (.aload_n 0, 0, 0, 0) := by decide +kernel
theorem gz_25_24 : mz_pg 25 24 = some (.getfield 15, 6, 1, 182) := by decide +kernel
theorem gz_25_27 : mz_pg 25 27 = some (.iconst 0, 0, 0, 0) := by decide +kernel
theorem gz_25_28 : mz_pg 25 28 = some (.aload_n 0, 0, 0, 0) := by decide +kernel
theorem gz_25_29 : mz_pg 25 29 = some (.getfield 15, 6, 1, 182) := by decide +kernel
theorem gz_25_32 : mz_pg 25 32 = some (.arraylength, 0, 0, 0) := by decide +kernel
theorem gz_25_33 : mz_pg 25 33 = some (.invokestatic 22, 0, 0, 596) := by decide +kernel
theorem gz_25_36 : mz_pg 25 36 = some (.return_, 0, 0, 0) := by decide +kernel
theorem gz_138_0 : mz_pg 138 0 = some (.iload_n 1, 0, 0, 0) := by decide +kernel
theorem gz_138_1 : mz_pg 138 1 = some (.ifCond .lt 8, 0, 0, 0) := by decide +kernel
theorem gz_138_4 : mz_pg 138 4 = some (.iload_n 1, 0, 0, 0) := by decide +kernel
theorem gz_138_5 : mz_pg 138 5 = some (.iconst 4, 0, 0, 0) := by decide +kernel
theorem gz_138_6 : mz_pg 138 6 = some (.if_icmp .lt 5, 0, 0, 0) := by decide +kernel
theorem gz_138_9 : mz_pg 138 9 = some (.iconst 0, 0, 0, 0) := by decide +kernel
theorem gz_138_10 : mz_pg 138 10 = some (.ireturn, 0, 0, 0) := by decide +kernel
theorem gz_138_11 : mz_pg 138 11 = some (.iload_n 2, 0, 0, 0) := by decide +kernel
theorem gz_138_12 : mz_pg 138 12 = some (.ifCond .ne 25, 0, 0, 0) := by decide +kernel
theorem gz_138_15 : mz_pg 138 15 = some (.aload_n 0, 0, 0, 0) := by decide +kernel
theorem gz_138_16 : mz_pg 138 16 = some (.getfield 26, 9, 4, 532) := by decide +kernel
theorem gz_138_19 : mz_pg 138 19 = some (.iload_n 1, 0, 0, 0) := by decide +kernel
theorem gz_138_20 : mz_pg 138 20 = some (.aaload, 0, 0, 0) := by decide +kernel
theorem gz_138_21 : mz_pg 138 21 = some (.aload_n 0, 0, 0, 0) := by decide +kernel
theorem gz_138_22 : mz_pg 138 22 = some (.getfield 19, 9, 1, 529) := by decide +kernel
theorem gz_138_25 : mz_pg 138 25 = some (.invokevirtual 114, 1, 25, 626) := by decide +kernel
theorem gz_138_28 : mz_pg 138 28 = some (.aload_n 0, 0, 0, 0) := by decide +kernel
theorem gz_138_29 : mz_pg 138 29 = some (.getfield 30, 9, 5, 533) := by decide +kernel
theorem gz_138_32 : mz_pg 138 32 = some (.iload_n 1, 0, 0, 0) := by decide +kernel
theorem gz_138_33 : mz_pg 138 33 = some (.iconst 1, 0, 0, 0) := by decide +kernel
theorem gz_138_34 : mz_pg 138 34 = some (.bastore, 0, 0, 0) := by decide +kernel
theorem gz_138_35 : mz_pg 138 35 = some (.iconst 1, 0, 0, 0) := by decide +kernel
theorem gz_138_36 : mz_pg 138 36 = some (.ireturn, 0, 0, 0) := by decide +kernel
theorem gz_138_37 : mz_pg 138 37 = some (.aload_n 0, 0, 0, 0) := by decide +kernel
theorem gz_138_38 : mz_pg 138 38 = some (.getfield 30, 9, 5, 533) := by decide +kernel
theorem gz_138_41 : mz_pg 138 41 = some (.iload_n 1, 0, 0, 0) := by decide +kernel
theorem gz_138_42 : mz_pg 138 42 = some (.baload, 0, 0, 0) := by decide +kernel
theorem gz_138_43 : mz_pg 138 43 = some (.ifCond .eq 19, 0, 0, 0) := by decide +kernel
theorem gz_138_46 : mz_pg 138 46 = some (.aload_n 0, 0, 0, 0) := by decide +kernel
theorem gz_138_47 : mz_pg 138 47 = some (.getfield 10, 9, 0, 528) := by decide +kernel
theorem gz_138_50 : mz_pg 138 50 = some (.aload_n 0, 0, 0, 0) := by decide +kernel
theorem gz_138_51 : mz_pg 138 51 = some (.getfield 26, 9, 4, 532) := by decide +kernel
theorem gz_138_54 : mz_pg 138 54 = some (.iload_n 1, 0, 0, 0) := by decide +kernel
theorem gz_138_55 : mz_pg 138 55 = some (.aaload, 0, 0, 0) := by decide +kernel
theorem gz_138_56 : mz_pg 138 56 = some (.invokevirtual 106, 1, 18, 599) := by decide +kernel
theorem gz_138_59 : mz_pg 138 59 = some (.ifCond .ne 5, 0, 0, 0) := by decide +kernel
theorem gz_138_62 : mz_pg 138 62 = some (.iconst 0, 0, 0, 0) := by decide +kernel
theorem gz_138_63 : mz_pg 138 63 = some (.ireturn, 0, 0, 0) := by decide +kernel
theorem gz_138_64 : mz_pg 138 64 = some (.aload_n 0, 0, 0, 0) := by decide +kernel
theorem gz_138_65 : mz_pg 138 65 = some (.getfield 19, 9, 1, 529) := by decide +kernel
theorem gz_138_68 : mz_pg 138 68 = some (.aload_n 0, 0, 0, 0) := by decide +kernel
theorem gz_138_69 : mz_pg 138 69 = some (.getfield 26, 9, 4, 532) := by decide +kernel
theorem gz_138_72 : mz_pg 138 72 = some (.iload_n 1, 0, 0, 0) := by decide +kernel
theorem gz_138_73 : mz_pg 138 73 = some (.aaload, 0, 0, 0) := by decide +kernel
theorem gz_138_74 : mz_pg 138 74 = some (.invokevirtual 114, 1, 25, 626) := by decide +kernel
theorem gz_138_77 : mz_pg 138 77 = some (.iconst 1, 0, 0, 0) := by decide +kernel
theorem gz_138_78 : mz_pg 138 78 = some (.ireturn, 0, 0, 0) := by decide +kernel
theorem gm_25 : my_mm 25 2 none 1 6 := by unfold my_mm; decide +kernel
theorem gm_138 : my_mm 138 3 (some .boolean) 2 9 := by unfold my_mm; decide +kernel
theorem rd_20 : my_rd 20 = .inl (4, 4, [(2, 6, 0)]) := rfl
theorem rd_21 : my_rd 21 = .inl (1, 4, [(0, 0, 1)]) := rfl
theorem c68_ThroughWindow_mark {l : Launch} {rho : Nat → Int32} {d : Nat} {h : my_H} {Q : my_H → my_V → Prop} {x0 x1 x2 : Int} (t0 : my_is 9 x0) (a2 : 0 ≤ x2) (b2 : x2 ≤ 1) (k0 : ∀ (h' : my_H), my_fr [(21, -1), (30, -1), (31, -1)] h h' → Q h' (0, 0)) (k1 : ∀ (h' : my_H), my_fr [(21, -1), (30, -1), (31, -1)] h h' → 0 ≤ x1 → x1 ≤ 3 → Q h' (0, 1)) : wp l rho (d + 4) 138 0 [(2, x0), (0, x1), (0, x2)] [] h Q := by
  refine w_iload_n gz_138_0 rfl ?_
  refine w_iflt (t := 9) gz_138_1 rfl (fun u1 => ?_) (fun u1 => ?_)
  ·
    refine w_iconst gz_138_9 (by decide) ?_
    exact w_bret gz_138_10 gm_138 (by omega) (by omega) (k0 h (my_fr.rf))
  ·
    refine w_iload_n gz_138_4 rfl ?_
    refine w_iconst gz_138_5 (by decide) ?_
    refine w_iclt (t := 11) gz_138_6 rfl (fun u2 => ?_) (fun u2 => ?_)
    ·
      refine w_iload_n gz_138_11 rfl ?_
      refine w_ifne (t := 37) gz_138_12 rfl (fun u3 => ?_) (fun u3 => ?_)
      ·
        refine w_aload_n gz_138_37 rfl ?_
        refine w_getR gz_138_38 t0 rd_9 rfl (fun v4 ev4 tv4 => ?_)
        refine w_iload_n gz_138_41 rfl ?_
        refine w_bald gz_138_42 tv4 rd_21 (by omega) (by omega) (fun v5 ev5 pv5 qv5 => ?_)
        refine w_ifeq (t := 62) gz_138_43 rfl (fun u6 => ?_) (fun u6 => ?_)
        ·
          refine w_iconst gz_138_62 (by decide) ?_
          exact w_bret gz_138_63 gm_138 (by omega) (by omega) (k0 h (my_fr.rf))
        ·
          refine w_aload_n gz_138_46 rfl ?_
          refine w_getR gz_138_47 t0 rd_9 rfl (fun v7 ev7 tv7 => ?_)
          refine w_aload_n gz_138_50 rfl ?_
          refine w_getR gz_138_51 t0 rd_9 rfl (fun v8 ev8 tv8 => ?_)
          refine w_iload_n gz_138_54 rfl ?_
          refine w_aald gz_138_55 tv8 rd_20 rfl (by omega) (by omega) (fun v9 ev9 tv9 => ?_)
          refine w_inv (k := 0) (as := [(2, v9)]) (r := []) (x := v7) (ls0 := [(2, v7), (2, v9)]) gz_138_56 gm_18 rfl tv7 rd_3 rfl rfl rfl rfl rfl (c65_Laws_hold (d := d) (x0 := v7) (x1 := v9) tv7 tv9 ?_ ?_)
          ·
            show wp l rho (d + 4) 138 59 [(2, x0), (0, x1), (0, x2)] [(0, 0)] h Q
            refine w_ifne (t := 64) gz_138_59 rfl (fun u10 => by exfalso; omega) (fun u10 => ?_)
            refine w_iconst gz_138_62 (by decide) ?_
            exact w_bret gz_138_63 gm_138 (by omega) (by omega) (k0 h (my_fr.rf))
          ·
            show wp l rho (d + 4) 138 59 [(2, x0), (0, x1), (0, x2)] [(0, 1)] h Q
            refine w_ifne (t := 64) gz_138_59 rfl (fun u11 => ?_) (fun u11 => by exfalso; omega)
            refine w_aload_n gz_138_64 rfl ?_
            refine w_getR gz_138_65 t0 rd_9 rfl (fun v12 ev12 tv12 => ?_)
            refine w_aload_n gz_138_68 rfl ?_
            refine w_getR gz_138_69 t0 rd_9 rfl (fun v13 ev13 tv13 => ?_)
            have zv13 : v8 = v13 := (ev13.trans ev8.symm).symm
            subst zv13
            refine w_iload_n gz_138_72 rfl ?_
            refine w_aald gz_138_73 tv8 rd_20 rfl (by omega) (by omega) (fun v14 ev14 tv14 => ?_)
            have zv14 : v9 = v14 := (ev14.trans ev9.symm).symm
            subst zv14
            refine w_inv (k := 0) (as := [(2, v9)]) (r := []) (x := v12) (ls0 := [(2, v12), (2, v9)]) gz_138_74 gm_25 rfl tv12 rd_6 rfl rfl rfl rfl rfl ?_
            refine w_aload_n gz_25_0 rfl ?_
            refine w_getR gz_25_1 tv9 rd_6 rfl (fun v15 ev15 tv15 => ?_)
            refine w_iconst gz_25_4 (by decide) ?_
            refine w_aload_n gz_25_5 rfl ?_
            refine w_getR gz_25_6 tv12 rd_6 rfl (fun v16 ev16 tv16 => ?_)
            refine w_iconst gz_25_9 (by decide) ?_
            refine w_aload_n gz_25_10 rfl ?_
            refine w_getR gz_25_11 tv12 rd_6 rfl (fun v17 ev17 tv17 => ?_)
            have zv17 : v16 = v17 := (ev17.trans ev16.symm).symm
            subst zv17
            refine w_alen gz_25_14 tv16 rd_30 (by decide) ?_
            refine w_cpU gz_25_15 tv15 rd_30 tv16 rd_30 (by omega) (by omega) (by omega) (by omega) (by omega) rfl (by decide) (by decide) (fun h18 fh18 => ?_)
            have gh18 : my_fr [(21, -1), (30, -1), (31, -1)] h h18 := my_fr.cp my_fr.rf tv16 fh18 rfl
            refine w_aload_n gz_25_18 rfl ?_
            refine w_getR gz_25_19 tv9 rd_6 rfl (fun v19 ev19 tv19 => ?_)
            refine w_iconst gz_25_22 (by decide) ?_
            refine w_aload_n gz_25_23 rfl ?_
            refine w_getR gz_25_24 tv12 rd_6 rfl (fun v20 ev20 tv20 => ?_)
            refine w_iconst gz_25_27 (by decide) ?_
            refine w_aload_n gz_25_28 rfl ?_
            refine w_getR gz_25_29 tv12 rd_6 rfl (fun v21 ev21 tv21 => ?_)
            have zv21 : v20 = v21 := (ev21.trans ev20.symm).symm
            subst zv21
            refine w_alen gz_25_32 tv20 rd_31 (by decide) ?_
            refine w_cpU gz_25_33 tv19 rd_31 tv20 rd_31 (by omega) (by omega) (by omega) (by omega) (by omega) rfl (by decide) (by decide) (fun h22 fh22 => ?_)
            have gh22 : my_fr [(21, -1), (30, -1), (31, -1)] h h22 := my_fr.cp gh18 tv20 fh22 rfl
            refine w_vret gz_25_36 gm_25 ?_
            show wp l rho (d + 4) 138 77 [(2, x0), (0, x1), (0, x2)] [] h22 Q
            refine w_iconst gz_138_77 (by decide) ?_
            exact w_bret gz_138_78 gm_138 (by omega) (by omega) (k1 h22 (gh22) (by omega) (by omega))
      ·
        refine w_aload_n gz_138_15 rfl ?_
        refine w_getR gz_138_16 t0 rd_9 rfl (fun v23 ev23 tv23 => ?_)
        refine w_iload_n gz_138_19 rfl ?_
        refine w_aald gz_138_20 tv23 rd_20 rfl (by omega) (by omega) (fun v24 ev24 tv24 => ?_)
        refine w_aload_n gz_138_21 rfl ?_
        refine w_getR gz_138_22 t0 rd_9 rfl (fun v25 ev25 tv25 => ?_)
        refine w_inv (k := 0) (as := [(2, v25)]) (r := []) (x := v24) (ls0 := [(2, v24), (2, v25)]) gz_138_25 gm_25 rfl tv24 rd_6 rfl rfl rfl rfl rfl ?_
        refine w_aload_n gz_25_0 rfl ?_
        refine w_getR gz_25_1 tv25 rd_6 rfl (fun v26 ev26 tv26 => ?_)
        refine w_iconst gz_25_4 (by decide) ?_
        refine w_aload_n gz_25_5 rfl ?_
        refine w_getR gz_25_6 tv24 rd_6 rfl (fun v27 ev27 tv27 => ?_)
        refine w_iconst gz_25_9 (by decide) ?_
        refine w_aload_n gz_25_10 rfl ?_
        refine w_getR gz_25_11 tv24 rd_6 rfl (fun v28 ev28 tv28 => ?_)
        have zv28 : v27 = v28 := (ev28.trans ev27.symm).symm
        subst zv28
        refine w_alen gz_25_14 tv27 rd_30 (by decide) ?_
        refine w_cpU gz_25_15 tv26 rd_30 tv27 rd_30 (by omega) (by omega) (by omega) (by omega) (by omega) rfl (by decide) (by decide) (fun h29 fh29 => ?_)
        have gh29 : my_fr [(21, -1), (30, -1), (31, -1)] h h29 := my_fr.cp my_fr.rf tv27 fh29 rfl
        refine w_aload_n gz_25_18 rfl ?_
        refine w_getR gz_25_19 tv25 rd_6 rfl (fun v30 ev30 tv30 => ?_)
        refine w_iconst gz_25_22 (by decide) ?_
        refine w_aload_n gz_25_23 rfl ?_
        refine w_getR gz_25_24 tv24 rd_6 rfl (fun v31 ev31 tv31 => ?_)
        refine w_iconst gz_25_27 (by decide) ?_
        refine w_aload_n gz_25_28 rfl ?_
        refine w_getR gz_25_29 tv24 rd_6 rfl (fun v32 ev32 tv32 => ?_)
        have zv32 : v31 = v32 := (ev32.trans ev31.symm).symm
        subst zv32
        refine w_alen gz_25_32 tv31 rd_31 (by decide) ?_
        refine w_cpU gz_25_33 tv30 rd_31 tv31 rd_31 (by omega) (by omega) (by omega) (by omega) (by omega) rfl (by decide) (by decide) (fun h33 fh33 => ?_)
        have gh33 : my_fr [(21, -1), (30, -1), (31, -1)] h h33 := my_fr.cp gh29 tv31 fh33 rfl
        refine w_vret gz_25_36 gm_25 ?_
        show wp l rho (d + 4) 138 28 [(2, x0), (0, x1), (0, x2)] [] h33 Q
        refine w_aload_n gz_138_28 rfl ?_
        refine w_getR gz_138_29 t0 rd_9 rfl (fun v34 ev34 tv34 => ?_)
        refine w_iload_n gz_138_32 rfl ?_
        refine w_iconst gz_138_33 (by decide) ?_
        refine w_bast gz_138_34 tv34 rd_21 (by omega) (by omega) (by omega) (by omega) (fun h35 fh35 => ?_)
        have gh35 : my_fr [(21, -1), (30, -1), (31, -1)] h h35 := my_fr.up gh33 tv34 fh35 rfl
        refine w_iconst gz_138_35 (by decide) ?_
        exact w_bret gz_138_36 gm_138 (by omega) (by omega) (k1 h35 (gh35) (by omega) (by omega))
    ·
      refine w_iconst gz_138_9 (by decide) ?_
      exact w_bret gz_138_10 gm_138 (by omega) (by omega) (k0 h (my_fr.rf))
end MYG
