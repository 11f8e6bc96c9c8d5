/-! contracts, printed by wip/gen/gy.py -/
section MYG3
theorem gz_80_0 : mz_pg 80 0 = some (.iconst 0, 0, 0, 0) := by decide +kernel
theorem gz_80_1 : mz_pg 80 1 = some (.istore 4, 0, 0, 0) := by decide +kernel
theorem gz_80_3 : mz_pg 80 3 = some (.iload 4, 0, 0, 0) := by decide +kernel
theorem gz_80_5 : mz_pg 80 5 = some (.aload_n 0, 0, 0, 0) := by decide +kernel
theorem gz_80_6 : mz_pg 80 6 = some (.getfield 26, 8, 1, 331) := by decide +kernel
theorem gz_80_9 : mz_pg 80 9 = some (.if_icmp .ge 44, 0, 0, 0) := by decide +kernel
theorem gz_80_12 : mz_pg 80 12 = some (.aload_n 0, 0, 0, 0) := by decide +kernel
theorem gz_80_13 : mz_pg 80 13 = some (.getfield 11, 8, 2, 333) := by decide +kernel
theorem gz_80_16 : mz_pg 80 16 = some (.iload_n 1, 0, 0, 0) := by decide +kernel
theorem gz_80_17 : mz_pg 80 17 = some (.bipush 17, 0, 0, 0) := by decide +kernel
theorem gz_80_19 : mz_pg 80 19 = some (.imul, 0, 0, 0) := by decide +kernel
theorem gz_80_20 : mz_pg 80 20 = some (.iload 4, 0, 0, 0) := by decide +kernel
theorem gz_80_22 : mz_pg 80 22 = some (.iadd, 0, 0, 0) := by decide +kernel
theorem gz_80_23 : mz_pg 80 23 = some (.iaload, 0, 0, 0) := by decide +kernel
theorem gz_80_24 : mz_pg 80 24 = some (.aload_n 2, 0, 0, 0) := by decide +kernel
theorem gz_80_25 : mz_pg 80 25 = some (.getfield 11, 8, 2, 333) := by decide +kernel
theorem gz_80_28 : mz_pg 80 28 = some (.iload_n 3, 0, 0, 0) := by decide +kernel
theorem gz_80_29 : mz_pg 80 29 = some (.bipush 17, 0, 0, 0) := by decide +kernel
theorem gz_80_31 : mz_pg 80 31 = some (.imul, 0, 0, 0) := by decide +kernel
theorem gz_80_32 : mz_pg 80 32 = some (.iload 4, 0, 0, 0) := by decide +kernel
theorem gz_80_34 : mz_pg 80 34 = some (.iadd, 0, 0, 0) := by decide +kernel
theorem gz_80_35 : mz_pg 80 35 = some (.iaload, 0, 0, 0) := by decide +kernel
theorem gz_80_36 : mz_pg 80 36 = some (.isub, 0, 0, 0) := by decide +kernel
theorem gz_80_37 : mz_pg 80 37 = some (.istore 5, 0, 0, 0) := by decide +kernel
theorem gz_80_39 : mz_pg 80 39 = some (.iload 5, 0, 0, 0) := by decide +kernel
theorem gz_80_41 : mz_pg 80 41 = some (.ifCond .eq 6, 0, 0, 0) := by decide +kernel
theorem gz_80_44 : mz_pg 80 44 = some (.iload 5, 0, 0, 0) := by decide +kernel
theorem gz_80_46 : mz_pg 80 46 = some (.ireturn, 0, 0, 0) := by decide +kernel
theorem gz_80_47 : mz_pg 80 47 = some (.iinc 4 1, 0, 0, 0) := by decide +kernel
theorem gz_80_50 : mz_pg 80 50 = some (.goto (-47), 0, 0, 0) := by decide +kernel
theorem gz_80_53 : mz_pg 80 53 = some (.iconst 0, 0, 0, 0) := by decide +kernel
theorem gz_80_54 : mz_pg 80 54 = some (.ireturn, 0, 0, 0) := by decide +kernel
theorem gm_80 : my_mm 80 6 (some .int) 3 8 := by unfold my_mm; decide +kernel
theorem c55_View_compare {l : Launch} {rho : Nat → Int32} {d : Nat} {h : my_H} {Q : my_H → my_V → Prop} {x0 x1 x2 x3 : Int} (t0 : my_is 8 x0) (a1 : 0 ≤ x1) (b1 : x1 ≤ 11) (t2 : my_is 8 x2) (a3 : 0 ≤ x3) (b3 : x3 ≤ 11) (k0 : Q h (0, 0)) (k1 : ∀ (y : Int), 1 ≤ h x0 1 → h x0 1 ≤ 8 → Q h (0, y)) : wp l rho d 80 0 [(2, x0), (0, x1), (2, x2), (0, x3), (9, 0), (9, 0)] [] h Q := by
  have J3_0 : ∀ (n : Nat) (p3_0 : Int), 0 ≤ p3_0 → p3_0 ≤ 8 → 9 - p3_0 ≤ (n : Int) → wp l rho d 80 3 [(2, x0), (0, x1), (2, x2), (0, x3), (0, p3_0), (9, 0)] [] h Q := by
    intro n
    induction n with
    | zero => intro p3_0 q0_3_0 q1_3_0 hm_3_0; exfalso; omega
    | succ n ih_3_0 =>
      intro p3_0 q0_3_0 q1_3_0 hm_3_0
      refine w_iload gz_80_3 rfl ?_
      refine w_aload_n gz_80_5 rfl ?_
      refine v_getI (j := 1) gz_80_6 rfl t0 rd_8 rfl (fun v1 ev1 pv1 qv1 => ?_)
      refine w_icge (t := 53) gz_80_9 rfl (fun u2 => ?_) (fun u2 => ?_)
      ·
        refine w_iconst gz_80_53 (by decide) ?_
        exact w_iret gz_80_54 gm_80 (k0 )
      ·
        refine w_aload_n gz_80_12 rfl ?_
        refine w_getX (v := (x0 + 1)) gz_80_13 t0 rd_8 rfl (by decide) rfl ?_
        refine w_iload_n gz_80_16 rfl ?_
        refine w_bipush gz_80_17 (by decide) ?_
        refine w_imul gz_80_19 ⟨by omega, by omega⟩ ?_
        refine w_iload gz_80_20 rfl ?_
        refine w_iadd gz_80_22 ⟨by omega, by omega⟩ ?_
        refine w_gldA gz_80_23 (ix_8_1 t0) rd_42 (by omega) (by omega) (fun v4 ev4 pv4 qv4 => ?_)
        refine w_aload_n gz_80_24 rfl ?_
        refine w_getX (v := (x2 + 1)) gz_80_25 t2 rd_8 rfl (by decide) rfl ?_
        refine w_iload_n gz_80_28 rfl ?_
        refine w_bipush gz_80_29 (by decide) ?_
        refine w_imul gz_80_31 ⟨by omega, by omega⟩ ?_
        refine w_iload gz_80_32 rfl ?_
        refine w_iadd gz_80_34 ⟨by omega, by omega⟩ ?_
        refine w_gldA gz_80_35 (ix_8_1 t2) rd_42 (by omega) (by omega) (fun v6 ev6 pv6 qv6 => ?_)
        refine w_ianyS gz_80_36 (fun v7 pv7 qv7 => ?_)
        refine w_istore (ls' := [(2, x0), (0, x1), (2, x2), (0, x3), (0, p3_0), (0, v7)]) gz_80_37 gm_80 rfl rfl rfl ?_
        refine w_iload gz_80_39 rfl ?_
        refine w_ifeq (t := 47) gz_80_41 rfl (fun u8 => ?_) (fun u8 => ?_)
        ·
          refine w_iinc (ls' := [(2, x0), (0, x1), (2, x2), (0, x3), (0, (p3_0 + 1)), (0, v7)]) gz_80_47 rfl gm_80 rfl rfl rfl ⟨by omega, by omega⟩ ?_
          refine w_goto (t := 3) gz_80_50 rfl ?_
          refine w_weak (ls' := [(2, x0), (0, x1), (2, x2), (0, x3), (0, (p3_0 + 1)), (9, 0)]) (wk_e (wk_e (wk_e (wk_e (wk_e (wk_9 wk_n)))))) ?_
          exact ih_3_0 ((p3_0 + 1)) (by omega) (by omega) (by omega)
        ·
          refine w_iload gz_80_44 rfl ?_
          have c9 := ev1.symm
          exact w_iret gz_80_46 gm_80 (k1 (v7) (by omega) (by omega))
  refine w_iconst gz_80_0 (by decide) ?_
  refine w_istore (ls' := [(2, x0), (0, x1), (2, x2), (0, x3), (0, 0), (9, 0)]) gz_80_1 gm_80 rfl rfl rfl ?_
  exact J3_0 9 (0) (by omega) (by omega) (by omega)
theorem is_93 : my_is 23 93 := by unfold my_is; decide +kernel
theorem gz_85_0 : mz_pg 85 0 = some (.iload_n 1, 0, 0, 0) := by decide +kernel
theorem gz_85_1 : mz_pg 85 1 = some (.ifCond .lt 19, 0, 0, 0) := by decide +kernel
theorem gz_85_4 : mz_pg 85 4 = some (.iload_n 1, 0, 0, 0) := by decide +kernel
theorem gz_85_5 : mz_pg 85 5 = some (.bipush 8, 0, 0, 0) := by decide +kernel
theorem gz_85_7 : mz_pg 85 7 = some (.if_icmp .ge 13, 0, 0, 0) := by decide +kernel
theorem gz_85_10 : mz_pg 85 10 = some (.iload_n 2, 0, 0, 0) := by decide +kernel
theorem gz_85_11 : mz_pg 85 11 = some (.ifCond .lt 9, 0, 0, 0) := by decide +kernel
theorem gz_85_14 : mz_pg 85 14 = some (.iload_n 2, 0, 0, 0) := by decide +kernel
theorem gz_85_15 : mz_pg 85 15 = some (.bipush 20, 0, 0, 0) := by decide +kernel
theorem gz_85_17 : mz_pg 85 17 = some (.if_icmp .lt 5, 0, 0, 0) := by decide +kernel
theorem gz_85_20 : mz_pg 85 20 = some (.iconst 0, 0, 0, 0) := by decide +kernel
theorem gz_85_21 : mz_pg 85 21 = some (.ireturn, 0, 0, 0) := by decide +kernel
theorem gz_85_22 : mz_pg 85 22 = some (.aload_n 0, 0, 0, 0) := by decide +kernel
theorem gz_85_23 : mz_pg 85 23 = some (.getfield 50, 9, 8, 536) := by decide +kernel
theorem gz_85_26 : mz_pg 85 26 = some (.iload_n 1, 0, 0, 0) := by decide +kernel
theorem gz_85_27 : mz_pg 85 27 = some (.iload_n 2, 0, 0, 0) := by decide +kernel
theorem gz_85_28 : mz_pg 85 28 = some (.iastore, 0, 0, 0) := by decide +kernel
theorem gz_85_29 : mz_pg 85 29 = some (.iconst 1, 0, 0, 0) := by decide +kernel
theorem gz_85_30 : mz_pg 85 30 = some (.ireturn, 0, 0, 0) := by decide +kernel
theorem gm_85 : my_mm 85 3 (some .boolean) 2 9 := by unfold my_mm; decide +kernel
theorem rd_23 : my_rd 23 = .inl (0, 8, [(0, 0, 19)]) := rfl
theorem c56_ThroughWindow_draft {l : Launch} {rho : Nat → Int32} {d : Nat} {h : my_H} {Q : my_H → my_V → Prop} {x1 x2 : Int} (k0 : ∀ (h' : my_H), my_fr [(23, -1)] h h' → Q h' (0, 0)) (k1 : ∀ (h' : my_H), my_fr [(23, -1)] h h' → 0 ≤ x1 → x1 ≤ 7 → 0 ≤ x2 → x2 ≤ 19 → Q h' (0, 1)) : wp l rho d 85 0 [(2, 0), (0, x1), (0, x2)] [] h Q := by
  refine w_iload_n gz_85_0 rfl ?_
  refine w_iflt (t := 20) gz_85_1 rfl (fun u1 => ?_) (fun u1 => ?_)
  ·
    refine w_iconst gz_85_20 (by decide) ?_
    exact w_bret gz_85_21 gm_85 (by omega) (by omega) (k0 h (my_fr.rf))
  ·
    refine w_iload_n gz_85_4 rfl ?_
    refine w_bipush gz_85_5 (by decide) ?_
    refine w_icge (t := 20) gz_85_7 rfl (fun u2 => ?_) (fun u2 => ?_)
    ·
      refine w_iconst gz_85_20 (by decide) ?_
      exact w_bret gz_85_21 gm_85 (by omega) (by omega) (k0 h (my_fr.rf))
    ·
      refine w_iload_n gz_85_10 rfl ?_
      refine w_iflt (t := 20) gz_85_11 rfl (fun u3 => ?_) (fun u3 => ?_)
      ·
        refine w_iconst gz_85_20 (by decide) ?_
        exact w_bret gz_85_21 gm_85 (by omega) (by omega) (k0 h (my_fr.rf))
      ·
        refine w_iload_n gz_85_14 rfl ?_
        refine w_bipush gz_85_15 (by decide) ?_
        refine w_iclt (t := 22) gz_85_17 rfl (fun u4 => ?_) (fun u4 => ?_)
        ·
          refine w_aload_n gz_85_22 rfl ?_
          refine w_getX (v := 93) gz_85_23 is_0 rd_9 rfl (by decide) rfl ?_
          refine w_iload_n gz_85_26 rfl ?_
          refine w_iload_n gz_85_27 rfl ?_
          refine w_iast gz_85_28 is_93 rd_23 (by omega) (by omega) (by omega) (by omega) (fun h6 fh6 => ?_)
          have gh6 : my_fr [(23, -1)] h h6 := my_fr.up my_fr.rf is_93 fh6 rfl
          refine w_iconst gz_85_29 (by decide) ?_
          exact w_bret gz_85_30 gm_85 (by omega) (by omega) (k1 h6 (gh6) (by omega) (by omega) (by omega) (by omega))
        ·
          refine w_iconst gz_85_20 (by decide) ?_
          exact w_bret gz_85_21 gm_85 (by omega) (by omega) (k0 h (my_fr.rf))
theorem gz_93_0 : mz_pg 93 0 = some (.aload_n 0, 0, 0, 0) := by decide +kernel
theorem gz_93_1 : mz_pg 93 1 = some (.getfield 22, 8, 0, 327) := by decide +kernel
theorem gz_93_4 : mz_pg 93 4 = some (.aload_n 1, 0, 0, 0) := by decide +kernel
theorem gz_93_5 : mz_pg 93 5 = some (.getfield 22, 8, 0, 327) := by decide +kernel
theorem gz_93_8 : mz_pg 93 8 = some (.if_icmp .ne 14, 0, 0, 0) := by decide +kernel
theorem gz_93_11 : mz_pg 93 11 = some (.aload_n 0, 0, 0, 0) := by decide +kernel
theorem gz_93_12 : mz_pg 93 12 = some (.getfield 26, 8, 1, 331) := by decide +kernel
theorem gz_93_15 : mz_pg 93 15 = some (.aload_n 1, 0, 0, 0) := by decide +kernel
theorem gz_93_16 : mz_pg 93 16 = some (.getfield 26, 8, 1, 331) := by decide +kernel
theorem gz_93_19 : mz_pg 93 19 = some (.if_icmp .eq 5, 0, 0, 0) := by decide +kernel
theorem gz_93_22 : mz_pg 93 22 = some (.iconst 0, 0, 0, 0) := by decide +kernel
theorem gz_93_23 : mz_pg 93 23 = some (.ireturn, 0, 0, 0) := by decide +kernel
theorem gz_93_24 : mz_pg 93 24 = some (.iconst 0, 0, 0, 0) := by decide +kernel
theorem gz_93_25 : mz_pg 93 25 = some (.istore_n 2, 0, 0, 0) := by decide +kernel
theorem gz_93_26 : mz_pg 93 26 = some (.iload_n 2, 0, 0, 0) := by decide +kernel
theorem gz_93_27 : mz_pg 93 27 = some (.aload_n 0, 0, 0, 0) := by decide +kernel
theorem gz_93_28 : mz_pg 93 28 = some (.getfield 22, 8, 0, 327) := by decide +kernel
theorem gz_93_31 : mz_pg 93 31 = some (.if_icmp .ge 21, 0, 0, 0) := by decide +kernel
theorem gz_93_34 : mz_pg 93 34 = some (.aload_n 0, 0, 0, 0) := by decide +kernel
theorem gz_93_35 : mz_pg 93 35 = some (.iload_n 2, 0, 0, 0) := by decide +kernel
theorem gz_93_36 : mz_pg 93 36 = some (.aload_n 1, 0, 0, 0) := by decide +kernel
theorem gz_93_37 : mz_pg 93 37 = some (.iload_n 2, 0, 0, 0) := by decide +kernel
theorem gz_93_38 : mz_pg 93 38 = some (.invokevirtual 120, 1, 80, 864) := by decide +kernel
theorem gz_93_41 : mz_pg 93 41 = some (.ifCond .eq 5, 0, 0, 0) := by decide +kernel
theorem gz_93_44 : mz_pg 93 44 = some (.iconst 0, 0, 0, 0) := by decide +kernel
theorem gz_93_45 : mz_pg 93 45 = some (.ireturn, 0, 0, 0) := by decide +kernel
theorem gz_93_46 : mz_pg 93 46 = some (.iinc 2 1, 0, 0, 0) := by decide +kernel
theorem gz_93_49 : mz_pg 93 49 = some (.goto (-23), 0, 0, 0) := by decide +kernel
theorem gz_93_52 : mz_pg 93 52 = some (.iconst 1, 0, 0, 0) := by decide +kernel
theorem gz_93_53 : mz_pg 93 53 = some (.ireturn, 0, 0, 0) := by decide +kernel
theorem gm_93 : my_mm 93 3 (some .boolean) 1 8 := by unfold my_mm; decide +kernel
theorem c57_View_same {l : Launch} {rho : Nat → Int32} {d : Nat} {h : my_H} {Q : my_H → my_V → Prop} {x0 x1 : Int} (t0 : my_is 8 x0) (t1 : my_is 8 x1) (k0 : Q h (0, 0)) (k1 : Q h (0, 1)) : wp l rho (d + 1) 93 0 [(2, x0), (2, x1), (9, 0)] [] h Q := by
  have J26_0 : ∀ (n : Nat) (p26_0 p26_1 p26_2 p26_3 p26_4 : Int), 0 ≤ p26_0 → p26_0 ≤ 11 → 0 ≤ p26_1 → p26_1 ≤ 11 → 0 ≤ p26_3 → p26_3 ≤ 11 → 0 ≤ p26_2 → p26_2 ≤ 8 → 0 ≤ p26_4 → p26_4 ≤ 8 → p26_0 ≤ p26_1 → p26_0 ≤ p26_3 → p26_1 ≤ p26_3 → p26_3 ≤ p26_1 → p26_4 ≤ (p26_2 + 7) → h x0 0 = p26_1 → h x0 1 = p26_2 → h x1 0 = p26_3 → h x1 1 = p26_4 → 12 - p26_0 ≤ (n : Int) → wp l rho (d + 1) 93 26 [(2, x0), (2, x1), (0, p26_0)] [] h Q := by
    intro n
    induction n with
    | zero => intro p26_0 p26_1 p26_2 p26_3 p26_4 q0_26_0 q1_26_0 q2_26_0 q3_26_0 q4_26_0 q5_26_0 q6_26_0 q7_26_0 q8_26_0 q9_26_0 q10_26_0 q11_26_0 q12_26_0 q13_26_0 q14_26_0 ca0_0_26_0 ca0_1_26_0 ca1_0_26_0 ca1_1_26_0 hm_26_0; exfalso; omega
    | succ n ih_26_0 =>
      intro p26_0 p26_1 p26_2 p26_3 p26_4 q0_26_0 q1_26_0 q2_26_0 q3_26_0 q4_26_0 q5_26_0 q6_26_0 q7_26_0 q8_26_0 q9_26_0 q10_26_0 q11_26_0 q12_26_0 q13_26_0 q14_26_0 ca0_0_26_0 ca0_1_26_0 ca1_0_26_0 ca1_1_26_0 hm_26_0
      refine w_iload_n gz_93_26 rfl ?_
      refine w_aload_n gz_93_27 rfl ?_
      refine v_getI (j := 0) gz_93_28 rfl t0 rd_8 rfl (fun v1 ev1 pv1 qv1 => ?_)
      have zv1 := ev1.trans ca0_0_26_0
      refine w_icge (t := 52) gz_93_31 rfl (fun u2 => ?_) (fun u2 => ?_)
      ·
        refine w_iconst gz_93_52 (by decide) ?_
        exact w_bret gz_93_53 gm_93 (by omega) (by omega) (k1 )
      ·
        refine w_aload_n gz_93_34 rfl ?_
        refine w_iload_n gz_93_35 rfl ?_
        refine w_aload_n gz_93_36 rfl ?_
        refine w_iload_n gz_93_37 rfl ?_
        refine w_inv (k := 2) (as := [(0, p26_0), (2, x1), (0, p26_0)]) (r := []) (x := x0) (ls0 := [(2, x0), (0, p26_0), (2, x1), (0, p26_0), (9, 0), (9, 0)]) gz_93_38 gm_80 rfl t0 rd_8 rfl rfl rfl rfl rfl (c55_View_compare (d := d) (x0 := x0) (x1 := p26_0) (x2 := x1) (x3 := p26_0) t0 (by omega) (by omega) t1 (by omega) (by omega) ?_ (fun v3 w4 w5 => ?_))
        ·
          show wp l rho (d + 1) 93 41 [(2, x0), (2, x1), (0, p26_0)] [(0, 0)] h Q
          refine w_ifeq (t := 46) gz_93_41 rfl (fun u6 => ?_) (fun u6 => by exfalso; omega)
          refine w_iinc (ls' := [(2, x0), (2, x1), (0, (p26_0 + 1))]) gz_93_46 rfl gm_93 rfl rfl rfl ⟨by omega, by omega⟩ ?_
          refine w_goto (t := 26) gz_93_49 rfl ?_
          exact ih_26_0 ((p26_0 + 1)) (v1) (p26_2) (p26_3) (p26_4) (by omega) (by omega) (by omega) (by omega) (by omega) (by omega) (by omega) (by omega) (by omega) (by omega) (by omega) (by omega) (by omega) (by omega) (by omega) (ev1.symm.trans (by omega)) (ca0_1_26_0.trans (by omega)) (ca1_0_26_0.trans (by omega)) (ca1_1_26_0.trans (by omega)) (by omega)
        ·
          show wp l rho (d + 1) 93 41 [(2, x0), (2, x1), (0, p26_0)] [(0, v3)] h Q
          refine w_ifeq (t := 46) gz_93_41 rfl (fun u7 => ?_) (fun u7 => ?_)
          ·
            refine w_iinc (ls' := [(2, x0), (2, x1), (0, (p26_0 + 1))]) gz_93_46 rfl gm_93 rfl rfl rfl ⟨by omega, by omega⟩ ?_
            refine w_goto (t := 26) gz_93_49 rfl ?_
            exact ih_26_0 ((p26_0 + 1)) (v1) ((h x0 1)) (p26_3) (p26_4) (by omega) (by omega) (by omega) (by omega) (by omega) (by omega) (by omega) (by omega) (by omega) (by omega) (by omega) (by omega) (by omega) (by omega) (by omega) (ev1.symm.trans (by omega)) ((rfl : h x0 1 = h x0 1).trans (by omega)) (ca1_0_26_0.trans (by omega)) (ca1_1_26_0.trans (by omega)) (by omega)
          ·
            refine w_iconst gz_93_44 (by decide) ?_
            exact w_bret gz_93_45 gm_93 (by omega) (by omega) (k0 )
  refine w_aload_n gz_93_0 rfl ?_
  refine v_getI (j := 0) gz_93_1 rfl t0 rd_8 rfl (fun v8 ev8 pv8 qv8 => ?_)
  refine w_aload_n gz_93_4 rfl ?_
  refine v_getI (j := 0) gz_93_5 rfl t1 rd_8 rfl (fun v9 ev9 pv9 qv9 => ?_)
  refine w_icne (t := 22) gz_93_8 rfl (fun u10 => ?_) (fun u10 => ?_)
  ·
    refine w_iconst gz_93_22 (by decide) ?_
    exact w_bret gz_93_23 gm_93 (by omega) (by omega) (k0 )
  ·
    refine w_aload_n gz_93_11 rfl ?_
    refine v_getI (j := 1) gz_93_12 rfl t0 rd_8 rfl (fun v11 ev11 pv11 qv11 => ?_)
    refine w_aload_n gz_93_15 rfl ?_
    refine v_getI (j := 1) gz_93_16 rfl t1 rd_8 rfl (fun v12 ev12 pv12 qv12 => ?_)
    refine w_iceq (t := 24) gz_93_19 rfl (fun u13 => ?_) (fun u13 => ?_)
    ·
      refine w_iconst gz_93_24 (by decide) ?_
      refine w_istore_n (ls' := [(2, x0), (2, x1), (0, 0)]) gz_93_25 gm_93 rfl rfl rfl ?_
      exact J26_0 12 (0) (v8) (v11) (v9) (v12) (by omega) (by omega) (by omega) (by omega) (by omega) (by omega) (by omega) (by omega) (by omega) (by omega) (by omega) (by omega) (by omega) (by omega) (by omega) (ev8.symm.trans (by omega)) (ev11.symm.trans (by omega)) (ev9.symm.trans (by omega)) (ev12.symm.trans (by omega)) (by omega)
    ·
      refine w_iconst gz_93_22 (by decide) ?_
      exact w_bret gz_93_23 gm_93 (by omega) (by omega) (k0 )
theorem is_111 : my_is 7 111 := by unfold my_is; decide +kernel
theorem is_112 : my_is 7 112 := by unfold my_is; decide +kernel
theorem is_113 : my_is 7 113 := by unfold my_is; decide +kernel
theorem gz_94_0 : mz_pg 94 0 = some (.aload_n 0, 0, 0, 0) := by decide +kernel
theorem gz_94_1 : mz_pg 94 1 = some (.getfield 38, 2, 8, 401) := by decide +kernel
theorem gz_94_4 : mz_pg 94 4 = some (.iload_n 1, 0, 0, 0) := by decide +kernel
theorem gz_94_5 : mz_pg 94 5 = some (.putfield 118, 7, 1, 363) := by decide +kernel
theorem gz_94_8 : mz_pg 94 8 = some (.aload_n 0, 0, 0, 0) := by decide +kernel
theorem gz_94_9 : mz_pg 94 9 = some (.getfield 38, 2, 8, 401) := by decide +kernel
theorem gz_94_12 : mz_pg 94 12 = some (.iload_n 2, 0, 0, 0) := by decide +kernel
theorem gz_94_13 : mz_pg 94 13 = some (.putfield 148, 7, 0, 360) := by decide +kernel
theorem gz_94_16 : mz_pg 94 16 = some (.aload_n 0, 0, 0, 0) := by decide +kernel
theorem gz_94_17 : mz_pg 94 17 = some (.getfield 42, 2, 9, 402) := by decide +kernel
theorem gz_94_20 : mz_pg 94 20 = some (.getfield 148, 7, 0, 360) := by decide +kernel
theorem gz_94_23 : mz_pg 94 23 = some (.iconst (-1), 0, 0, 0) := by decide +kernel
theorem gz_94_24 : mz_pg 94 24 = some (.if_icmp .eq 14, 0, 0, 0) := by decide +kernel
theorem gz_94_27 : mz_pg 94 27 = some (.iload_n 2, 0, 0, 0) := by decide +kernel
theorem gz_94_28 : mz_pg 94 28 = some (.aload_n 0, 0, 0, 0) := by decide +kernel
theorem gz_94_29 : mz_pg 94 29 = some (.getfield 42, 2, 9, 402) := by decide +kernel
theorem gz_94_32 : mz_pg 94 32 = some (.getfield 148, 7, 0, 360) := by decide +kernel
theorem gz_94_35 : mz_pg 94 35 = some (.if_icmp .ge 14, 0, 0, 0) := by decide +kernel
theorem gz_94_38 : mz_pg 94 38 = some (.aload_n 0, 0, 0, 0) := by decide +kernel
theorem gz_94_39 : mz_pg 94 39 = some (.getfield 42, 2, 9, 402) := by decide +kernel
theorem gz_94_42 : mz_pg 94 42 = some (.aload_n 0, 0, 0, 0) := by decide +kernel
theorem gz_94_43 : mz_pg 94 43 = some (.getfield 38, 2, 8, 401) := by decide +kernel
theorem gz_94_46 : mz_pg 94 46 = some (.invokevirtual 212, 1, 95, 928) := by decide +kernel
theorem gz_94_49 : mz_pg 94 49 = some (.aload_n 0, 0, 0, 0) := by decide +kernel
theorem gz_94_50 : mz_pg 94 50 = some (.getfield 154, 2, 11, 406) := by decide +kernel
theorem gz_94_53 : mz_pg 94 53 = some (.aload_n 0, 0, 0, 0) := by decide +kernel
theorem gz_94_54 : mz_pg 94 54 = some (.getfield 157, 2, 12, 408) := by decide +kernel
theorem gz_94_57 : mz_pg 94 57 = some (.if_icmp .ne 14, 0, 0, 0) := by decide +kernel
theorem gz_94_60 : mz_pg 94 60 = some (.aload_n 0, 0, 0, 0) := by decide +kernel
theorem gz_94_61 : mz_pg 94 61 = some (.getfield 45, 2, 10, 404) := by decide +kernel
theorem gz_94_64 : mz_pg 94 64 = some (.aload_n 0, 0, 0, 0) := by decide +kernel
theorem gz_94_65 : mz_pg 94 65 = some (.getfield 38, 2, 8, 401) := by decide +kernel
theorem gz_94_68 : mz_pg 94 68 = some (.invokevirtual 212, 1, 95, 928) := by decide +kernel
theorem gz_94_71 : mz_pg 94 71 = some (.aload_n 0, 0, 0, 0) := by decide +kernel
theorem gz_94_72 : mz_pg 94 72 = some (.dup, 0, 0, 0) := by decide +kernel
theorem gz_94_73 : mz_pg 94 73 = some (.getfield 154, 2, 11, 406) := by decide +kernel
theorem gz_94_76 : mz_pg 94 76 = some (.iconst 1, 0, 0, 0) := by decide +kernel
theorem gz_94_77 : mz_pg 94 77 = some (.iadd, 0, 0, 0) := by decide +kernel
theorem gz_94_78 : mz_pg 94 78 = some (.putfield 154, 2, 11, 406) := by decide +kernel
theorem gz_94_81 : mz_pg 94 81 = some (.return_, 0, 0, 0) := by decide +kernel
theorem gz_95_0 : mz_pg 95 0 = some (.aload_n 0, 0, 0, 0) := by decide +kernel
theorem gz_95_1 : mz_pg 95 1 = some (.aload_n 1, 0, 0, 0) := by decide +kernel
theorem gz_95_2 : mz_pg 95 2 = some (.getfield 14, 7, 0, 359) := by decide +kernel
theorem gz_95_5 : mz_pg 95 5 = some (.putfield 14, 7, 0, 359) := by decide +kernel
theorem gz_95_8 : mz_pg 95 8 = some (.aload_n 0, 0, 0, 0) := by decide +kernel
theorem gz_95_9 : mz_pg 95 9 = some (.aload_n 1, 0, 0, 0) := by decide +kernel
theorem gz_95_10 : mz_pg 95 10 = some (.getfield 18, 7, 1, 362) := by decide +kernel
theorem gz_95_13 : mz_pg 95 13 = some (.putfield 18, 7, 1, 362) := by decide +kernel
theorem gz_95_16 : mz_pg 95 16 = some (.aload_n 0, 0, 0, 0) := by decide +kernel
theorem gz_95_17 : mz_pg 95 17 = some (.aload_n 1, 0, 0, 0) := by decide +kernel
theorem gz_95_18 : mz_pg 95 18 = some (.getfield 21, 7, 2, 365) := by decide +kernel
theorem gz_95_21 : mz_pg 95 21 = some (.putfield 21, 7, 2, 365) := by decide +kernel
theorem gz_95_24 : mz_pg 95 24 = some (.aload_n 0, 0, 0, 0) := by decide +kernel
theorem gz_95_25 : mz_pg 95 25 = some (.aload_n 1, 0, 0, 0) := by decide +kernel
theorem gz_95_26 : mz_pg 95 26 = some (.getfield 24, 7, 3, 368) := by decide +kernel
theorem gz_95_29 : mz_pg 95 29 = some (.putfield 24, 7, 3, 368) := by decide +kernel
theorem gz_95_32 : mz_pg 95 32 = some (.aload_n 0, 0, 0, 0) := by decide +kernel
theorem gz_95_33 : mz_pg 95 33 = some (.aload_n 1, 0, 0, 0) := by decide +kernel
theorem gz_95_34 : mz_pg 95 34 = some (.getfield 27, 7, 4, 371) := by decide +kernel
theorem gz_95_37 : mz_pg 95 37 = some (.putfield 27, 7, 4, 371) := by decide +kernel
theorem gz_95_40 : mz_pg 95 40 = some (.aload_n 0, 0, 0, 0) := by decide +kernel
theorem gz_95_41 : mz_pg 95 41 = some (.aload_n 1, 0, 0, 0) := by decide +kernel
theorem gz_95_42 : mz_pg 95 42 = some (.getfield 30, 7, 5, 374) := by decide +kernel
theorem gz_95_45 : mz_pg 95 45 = some (.putfield 30, 7, 5, 374) := by decide +kernel
theorem gz_95_48 : mz_pg 95 48 = some (.return_, 0, 0, 0) := by decide +kernel
theorem gm_94 : my_mm 94 3 none 2 2 := by unfold my_mm; decide +kernel
theorem gm_95 : my_mm 95 2 none 1 7 := by unfold my_mm; decide +kernel
theorem rd_7 : my_rd 7 = .inr (7, [(0, -2147483648, 2147483647), (0, -1, 3), (0, -1, 2), (0, -1, 19), (0, -1, 3), (0, -1, 19)]) := rfl
theorem c58_Desk_keep {l : Launch} {rho : Nat → Int32} {d : Nat} {h : my_H} {Q : my_H → my_V → Prop} {x1 x2 : Int} (a1 : 0 ≤ x1) (b1 : x1 ≤ 3) (a2 : 0 ≤ x2) (b2 : x2 ≤ 4) (k0 : ∀ (h' : my_H), my_fr [(2, 11), (7, 0), (7, 1), (7, 2), (7, 3), (7, 4), (7, 5)] h h' → Q h' (9, 0)) : wp l rho (d + 1) 94 0 [(2, 94), (0, x1), (0, x2)] [] h Q := by
  have J71_0 : ∀ (p71_0 p71_1 p71_2 : Int) (h71_0 : my_H), my_fr [(2, 11), (7, 0), (7, 1), (7, 2), (7, 3), (7, 4), (7, 5)] h h71_0 → p71_0 ≤ 4 → p71_0 ≤ x2 → h71_0 111 0 = x2 → h71_0 111 1 = x1 → h71_0 112 0 = p71_0 → h71_0 94 11 = p71_1 → h71_0 94 12 = p71_2 → wp l rho (d + 1) 94 71 [(2, 94), (0, x1), (0, x2)] [] h71_0 Q := by
    intro p71_0 p71_1 p71_2 h71_0 gh_71_0 q0_71_0 q1_71_0 c111_0_71_0 c111_1_71_0 c112_0_71_0 c94_11_71_0 c94_12_71_0
    refine w_aload_n gz_94_71 rfl ?_
    refine w_dup gz_94_72 rfl ?_
    refine v_getI (j := 11) gz_94_73 rfl is_94 rd_2 rfl (fun v1 ev1 pv1 qv1 => ?_)
    have zv1 := ev1.trans c94_11_71_0
    refine w_iconst gz_94_76 (by decide) ?_
    refine w_ianyA gz_94_77 (fun v2 pv2 qv2 => ?_)
    refine v_putA (j := 11) gz_94_78 rfl is_94 rd_2 rfl rfl (fun h3 fh3 => ?_)
    have gh3 : my_fr [(2, 11), (7, 0), (7, 1), (7, 2), (7, 3), (7, 4), (7, 5)] h h3 := my_fr.up gh_71_0 is_94 fh3 rfl
    exact w_vret gz_94_81 gm_94 (k0 h3 (gh3))
  have J49_0 : ∀ (p49_0 : Int) (h49_0 : my_H), my_fr [(2, 11), (7, 0), (7, 1), (7, 2), (7, 3), (7, 4), (7, 5)] h h49_0 → p49_0 ≤ 4 → p49_0 ≤ x2 → h49_0 111 0 = x2 → h49_0 111 1 = x1 → h49_0 112 0 = p49_0 → wp l rho (d + 1) 94 49 [(2, 94), (0, x1), (0, x2)] [] h49_0 Q := by
    intro p49_0 h49_0 gh_49_0 q0_49_0 q1_49_0 c111_0_49_0 c111_1_49_0 c112_0_49_0
    refine w_aload_n gz_94_49 rfl ?_
    refine v_getI (j := 11) gz_94_50 rfl is_94 rd_2 rfl (fun v4 ev4 pv4 qv4 => ?_)
    refine w_aload_n gz_94_53 rfl ?_
    refine v_getI (j := 12) gz_94_54 rfl is_94 rd_2 rfl (fun v5 ev5 pv5 qv5 => ?_)
    refine w_icne (t := 71) gz_94_57 rfl (fun u6 => ?_) (fun u6 => ?_)
    ·
      exact J71_0 (p49_0) (v4) (v5) h49_0 (gh_49_0) (by omega) (by omega) (c111_0_49_0.trans (by omega)) (c111_1_49_0.trans (by omega)) (c112_0_49_0.trans (by omega)) (ev4.symm.trans (by omega)) (ev5.symm.trans (by omega))
    ·
      refine w_aload_n gz_94_60 rfl ?_
      refine w_getX (v := 113) gz_94_61 is_94 rd_2 rfl (by decide) rfl ?_
      refine w_aload_n gz_94_64 rfl ?_
      refine w_getX (v := 111) gz_94_65 is_94 rd_2 rfl (by decide) rfl ?_
      refine w_inv (k := 0) (as := [(2, 111)]) (r := []) (x := 113) (ls0 := [(2, 113), (2, 111)]) gz_94_68 gm_95 rfl is_113 rd_7 rfl rfl rfl rfl rfl ?_
      refine w_aload_n gz_95_0 rfl ?_
      refine w_aload_n gz_95_1 rfl ?_
      refine v_getI (j := 0) gz_95_2 rfl is_111 rd_7 rfl (fun v9 ev9 pv9 qv9 => ?_)
      have zv9 := ev9.trans c111_0_49_0
      refine v_putA (j := 0) gz_95_5 rfl is_113 rd_7 rfl rfl (fun h10 fh10 => ?_)
      have gh10 : my_fr [(2, 11), (7, 0), (7, 1), (7, 2), (7, 3), (7, 4), (7, 5)] h h10 := my_fr.up gh_49_0 is_113 fh10 rfl
      refine w_aload_n gz_95_8 rfl ?_
      refine w_aload_n gz_95_9 rfl ?_
      refine v_getI (j := 1) gz_95_10 rfl is_111 rd_7 rfl (fun v11 ev11 pv11 qv11 => ?_)
      have zv11 := ev11.trans ((my_up_fld fh10 (by decide)).trans c111_1_49_0)
      refine v_putI (j := 1) gz_95_13 rfl is_113 rd_7 rfl (by omega) (by omega) rfl (fun h12 fh12 => ?_)
      have gh12 : my_fr [(2, 11), (7, 0), (7, 1), (7, 2), (7, 3), (7, 4), (7, 5)] h h12 := my_fr.up gh10 is_113 fh12 rfl
      refine w_aload_n gz_95_16 rfl ?_
      refine w_aload_n gz_95_17 rfl ?_
      refine v_getI (j := 2) gz_95_18 rfl is_111 rd_7 rfl (fun v13 ev13 pv13 qv13 => ?_)
      refine v_putI (j := 2) gz_95_21 rfl is_113 rd_7 rfl (by omega) (by omega) rfl (fun h14 fh14 => ?_)
      have gh14 : my_fr [(2, 11), (7, 0), (7, 1), (7, 2), (7, 3), (7, 4), (7, 5)] h h14 := my_fr.up gh12 is_113 fh14 rfl
      refine w_aload_n gz_95_24 rfl ?_
      refine w_aload_n gz_95_25 rfl ?_
      refine v_getI (j := 3) gz_95_26 rfl is_111 rd_7 rfl (fun v15 ev15 pv15 qv15 => ?_)
      refine v_putI (j := 3) gz_95_29 rfl is_113 rd_7 rfl (by omega) (by omega) rfl (fun h16 fh16 => ?_)
      have gh16 : my_fr [(2, 11), (7, 0), (7, 1), (7, 2), (7, 3), (7, 4), (7, 5)] h h16 := my_fr.up gh14 is_113 fh16 rfl
      refine w_aload_n gz_95_32 rfl ?_
      refine w_aload_n gz_95_33 rfl ?_
      refine v_getI (j := 4) gz_95_34 rfl is_111 rd_7 rfl (fun v17 ev17 pv17 qv17 => ?_)
      refine v_putI (j := 4) gz_95_37 rfl is_113 rd_7 rfl (by omega) (by omega) rfl (fun h18 fh18 => ?_)
      have gh18 : my_fr [(2, 11), (7, 0), (7, 1), (7, 2), (7, 3), (7, 4), (7, 5)] h h18 := my_fr.up gh16 is_113 fh18 rfl
      refine w_aload_n gz_95_40 rfl ?_
      refine w_aload_n gz_95_41 rfl ?_
      refine v_getI (j := 5) gz_95_42 rfl is_111 rd_7 rfl (fun v19 ev19 pv19 qv19 => ?_)
      refine v_putI (j := 5) gz_95_45 rfl is_113 rd_7 rfl (by omega) (by omega) rfl (fun h20 fh20 => ?_)
      have gh20 : my_fr [(2, 11), (7, 0), (7, 1), (7, 2), (7, 3), (7, 4), (7, 5)] h h20 := my_fr.up gh18 is_113 fh20 rfl
      refine w_vret gz_95_48 gm_95 ?_
      show wp l rho (d + 1) 94 71 [(2, 94), (0, x1), (0, x2)] [] h20 Q
      exact J71_0 (p49_0) (v4) (v5) h20 (gh20) (by omega) (by omega) (((my_up_fld fh20 (by decide)).trans ((my_up_fld fh18 (by decide)).trans ((my_up_fld fh16 (by decide)).trans ((my_up_fld fh14 (by decide)).trans ((my_up_fld fh12 (by decide)).trans ((my_up_ne fh10 (by omega)).trans ev9.symm)))))).trans (by omega)) (((my_up_fld fh20 (by decide)).trans ((my_up_fld fh18 (by decide)).trans ((my_up_fld fh16 (by decide)).trans ((my_up_fld fh14 (by decide)).trans ((my_up_ne fh12 (by omega)).trans ev11.symm))))).trans (by omega)) (((my_up_fld fh20 (by decide)).trans ((my_up_fld fh18 (by decide)).trans ((my_up_fld fh16 (by decide)).trans ((my_up_fld fh14 (by decide)).trans ((my_up_fld fh12 (by decide)).trans ((my_up_ne fh10 (by omega)).trans c112_0_49_0)))))).trans (by omega)) (((my_up_role fh20 is_94 is_113 rfl).trans ((my_up_role fh18 is_94 is_113 rfl).trans ((my_up_role fh16 is_94 is_113 rfl).trans ((my_up_role fh14 is_94 is_113 rfl).trans ((my_up_role fh12 is_94 is_113 rfl).trans ((my_up_role fh10 is_94 is_113 rfl).trans ev4.symm)))))).trans (by omega)) (((my_up_role fh20 is_94 is_113 rfl).trans ((my_up_role fh18 is_94 is_113 rfl).trans ((my_up_role fh16 is_94 is_113 rfl).trans ((my_up_role fh14 is_94 is_113 rfl).trans ((my_up_role fh12 is_94 is_113 rfl).trans ((my_up_role fh10 is_94 is_113 rfl).trans ev5.symm)))))).trans (by omega))
  have J38_0 : ∀ (p38_0 : Int) (h38_0 : my_H), my_fr [(2, 11), (7, 0), (7, 1), (7, 2), (7, 3), (7, 4), (7, 5)] h h38_0 → (-1) ≤ p38_0 → h38_0 111 0 = x2 → h38_0 111 1 = x1 → h38_0 112 0 = p38_0 → wp l rho (d + 1) 94 38 [(2, 94), (0, x1), (0, x2)] [] h38_0 Q := by
    intro p38_0 h38_0 gh_38_0 q0_38_0 c111_0_38_0 c111_1_38_0 c112_0_38_0
    refine w_aload_n gz_94_38 rfl ?_
    refine w_getX (v := 112) gz_94_39 is_94 rd_2 rfl (by decide) rfl ?_
    refine w_aload_n gz_94_42 rfl ?_
    refine w_getX (v := 111) gz_94_43 is_94 rd_2 rfl (by decide) rfl ?_
    refine w_inv (k := 0) (as := [(2, 111)]) (r := []) (x := 112) (ls0 := [(2, 112), (2, 111)]) gz_94_46 gm_95 rfl is_112 rd_7 rfl rfl rfl rfl rfl ?_
    refine w_aload_n gz_95_0 rfl ?_
    refine w_aload_n gz_95_1 rfl ?_
    refine v_getI (j := 0) gz_95_2 rfl is_111 rd_7 rfl (fun v23 ev23 pv23 qv23 => ?_)
    have zv23 := ev23.trans c111_0_38_0
    refine v_putA (j := 0) gz_95_5 rfl is_112 rd_7 rfl rfl (fun h24 fh24 => ?_)
    have gh24 : my_fr [(2, 11), (7, 0), (7, 1), (7, 2), (7, 3), (7, 4), (7, 5)] h h24 := my_fr.up gh_38_0 is_112 fh24 rfl
    refine w_aload_n gz_95_8 rfl ?_
    refine w_aload_n gz_95_9 rfl ?_
    refine v_getI (j := 1) gz_95_10 rfl is_111 rd_7 rfl (fun v25 ev25 pv25 qv25 => ?_)
    have zv25 := ev25.trans ((my_up_fld fh24 (by decide)).trans c111_1_38_0)
    refine v_putI (j := 1) gz_95_13 rfl is_112 rd_7 rfl (by omega) (by omega) rfl (fun h26 fh26 => ?_)
    have gh26 : my_fr [(2, 11), (7, 0), (7, 1), (7, 2), (7, 3), (7, 4), (7, 5)] h h26 := my_fr.up gh24 is_112 fh26 rfl
    refine w_aload_n gz_95_16 rfl ?_
    refine w_aload_n gz_95_17 rfl ?_
    refine v_getI (j := 2) gz_95_18 rfl is_111 rd_7 rfl (fun v27 ev27 pv27 qv27 => ?_)
    refine v_putI (j := 2) gz_95_21 rfl is_112 rd_7 rfl (by omega) (by omega) rfl (fun h28 fh28 => ?_)
    have gh28 : my_fr [(2, 11), (7, 0), (7, 1), (7, 2), (7, 3), (7, 4), (7, 5)] h h28 := my_fr.up gh26 is_112 fh28 rfl
    refine w_aload_n gz_95_24 rfl ?_
    refine w_aload_n gz_95_25 rfl ?_
    refine v_getI (j := 3) gz_95_26 rfl is_111 rd_7 rfl (fun v29 ev29 pv29 qv29 => ?_)
    refine v_putI (j := 3) gz_95_29 rfl is_112 rd_7 rfl (by omega) (by omega) rfl (fun h30 fh30 => ?_)
    have gh30 : my_fr [(2, 11), (7, 0), (7, 1), (7, 2), (7, 3), (7, 4), (7, 5)] h h30 := my_fr.up gh28 is_112 fh30 rfl
    refine w_aload_n gz_95_32 rfl ?_
    refine w_aload_n gz_95_33 rfl ?_
    refine v_getI (j := 4) gz_95_34 rfl is_111 rd_7 rfl (fun v31 ev31 pv31 qv31 => ?_)
    refine v_putI (j := 4) gz_95_37 rfl is_112 rd_7 rfl (by omega) (by omega) rfl (fun h32 fh32 => ?_)
    have gh32 : my_fr [(2, 11), (7, 0), (7, 1), (7, 2), (7, 3), (7, 4), (7, 5)] h h32 := my_fr.up gh30 is_112 fh32 rfl
    refine w_aload_n gz_95_40 rfl ?_
    refine w_aload_n gz_95_41 rfl ?_
    refine v_getI (j := 5) gz_95_42 rfl is_111 rd_7 rfl (fun v33 ev33 pv33 qv33 => ?_)
    refine v_putI (j := 5) gz_95_45 rfl is_112 rd_7 rfl (by omega) (by omega) rfl (fun h34 fh34 => ?_)
    have gh34 : my_fr [(2, 11), (7, 0), (7, 1), (7, 2), (7, 3), (7, 4), (7, 5)] h h34 := my_fr.up gh32 is_112 fh34 rfl
    refine w_vret gz_95_48 gm_95 ?_
    show wp l rho (d + 1) 94 49 [(2, 94), (0, x1), (0, x2)] [] h34 Q
    exact J49_0 (v23) h34 (gh34) (by omega) (by omega) (((my_up_fld fh34 (by decide)).trans ((my_up_fld fh32 (by decide)).trans ((my_up_fld fh30 (by decide)).trans ((my_up_fld fh28 (by decide)).trans ((my_up_fld fh26 (by decide)).trans ((my_up_ne fh24 (by omega)).trans ev23.symm)))))).trans (by omega)) (((my_up_fld fh34 (by decide)).trans ((my_up_fld fh32 (by decide)).trans ((my_up_fld fh30 (by decide)).trans ((my_up_fld fh28 (by decide)).trans ((my_up_ne fh26 (by omega)).trans ev25.symm))))).trans (by omega)) (((my_up_fld fh34 (by decide)).trans ((my_up_fld fh32 (by decide)).trans ((my_up_fld fh30 (by decide)).trans ((my_up_fld fh28 (by decide)).trans ((my_up_fld fh26 (by decide)).trans (my_up_self fh24)))))).trans (by omega))
  refine w_aload_n gz_94_0 rfl ?_
  refine w_getX (v := 111) gz_94_1 is_94 rd_2 rfl (by decide) rfl ?_
  refine w_iload_n gz_94_4 rfl ?_
  refine v_putI (j := 1) gz_94_5 rfl is_111 rd_7 rfl (by omega) (by omega) rfl (fun h36 fh36 => ?_)
  have gh36 : my_fr [(2, 11), (7, 0), (7, 1), (7, 2), (7, 3), (7, 4), (7, 5)] h h36 := my_fr.up my_fr.rf is_111 fh36 rfl
  refine w_aload_n gz_94_8 rfl ?_
  refine w_getX (v := 111) gz_94_9 is_94 rd_2 rfl (by decide) rfl ?_
  refine w_iload_n gz_94_12 rfl ?_
  refine v_putA (j := 0) gz_94_13 rfl is_111 rd_7 rfl rfl (fun h38 fh38 => ?_)
  have gh38 : my_fr [(2, 11), (7, 0), (7, 1), (7, 2), (7, 3), (7, 4), (7, 5)] h h38 := my_fr.up gh36 is_111 fh38 rfl
  refine w_aload_n gz_94_16 rfl ?_
  refine w_getX (v := 112) gz_94_17 is_94 rd_2 rfl (by decide) rfl ?_
  refine v_getI (j := 0) gz_94_20 rfl is_112 rd_7 rfl (fun v40 ev40 pv40 qv40 => ?_)
  refine w_iconst gz_94_23 (by decide) ?_
  refine w_iceq (t := 38) gz_94_24 rfl (fun u41 => ?_) (fun u41 => ?_)
  ·
    exact J38_0 (v40) h38 (gh38) (by omega) ((my_up_self fh38).trans (by omega)) (((my_up_fld fh38 (by decide)).trans (my_up_self fh36)).trans (by omega)) (ev40.symm.trans (by omega))
  ·
    refine w_iload_n gz_94_27 rfl ?_
    refine w_aload_n gz_94_28 rfl ?_
    refine w_getX (v := 112) gz_94_29 is_94 rd_2 rfl (by decide) rfl ?_
    refine v_getI (j := 0) gz_94_32 rfl is_112 rd_7 rfl (fun v43 ev43 pv43 qv43 => ?_)
    have zv43 := ev43.trans ev40.symm
    refine w_icge (t := 49) gz_94_35 rfl (fun u44 => ?_) (fun u44 => ?_)
    ·
      exact J49_0 (v43) h38 (gh38) (by omega) (by omega) ((my_up_self fh38).trans (by omega)) (((my_up_fld fh38 (by decide)).trans (my_up_self fh36)).trans (by omega)) (ev43.symm.trans (by omega))
    ·
      exact J38_0 (v43) h38 (gh38) (by omega) ((my_up_self fh38).trans (by omega)) (((my_up_fld fh38 (by decide)).trans (my_up_self fh36)).trans (by omega)) (ev43.symm.trans (by omega))
theorem gz_75_0 : mz_pg 75 0 = some (.aload_n 0, 0, 0, 0) := by decide +kernel
theorem gz_75_1 : mz_pg 75 1 = some (.getfield 11, 8, 2, 333) := by decide +kernel
theorem gz_75_4 : mz_pg 75 4 = some (.iload_n 1, 0, 0, 0) := by decide +kernel
theorem gz_75_5 : mz_pg 75 5 = some (.bipush 17, 0, 0, 0) := by decide +kernel
theorem gz_75_7 : mz_pg 75 7 = some (.imul, 0, 0, 0) := by decide +kernel
theorem gz_75_8 : mz_pg 75 8 = some (.bipush 16, 0, 0, 0) := by decide +kernel
theorem gz_75_10 : mz_pg 75 10 = some (.iadd, 0, 0, 0) := by decide +kernel
theorem gz_75_11 : mz_pg 75 11 = some (.iaload, 0, 0, 0) := by decide +kernel
theorem gz_75_12 : mz_pg 75 12 = some (.ireturn, 0, 0, 0) := by decide +kernel
theorem gz_97_0 : mz_pg 97 0 = some (.iconst 0, 0, 0, 0) := by decide +kernel
theorem gz_97_1 : mz_pg 97 1 = some (.istore_n 2, 0, 0, 0) := by decide +kernel
theorem gz_97_2 : mz_pg 97 2 = some (.iload_n 2, 0, 0, 0) := by decide +kernel
theorem gz_97_3 : mz_pg 97 3 = some (.aload_n 0, 0, 0, 0) := by decide +kernel
theorem gz_97_4 : mz_pg 97 4 = some (.getfield 22, 8, 0, 327) := by decide +kernel
theorem gz_97_7 : mz_pg 97 7 = some (.if_icmp .ge 20, 0, 0, 0) := by decide +kernel
theorem gz_97_10 : mz_pg 97 10 = some (.aload_n 0, 0, 0, 0) := by decide +kernel
theorem gz_97_11 : mz_pg 97 11 = some (.iload_n 2, 0, 0, 0) := by decide +kernel
theorem gz_97_12 : mz_pg 97 12 = some (.invokevirtual 116, 1, 75, 848) := by decide +kernel
theorem gz_97_15 : mz_pg 97 15 = some (.iload_n 1, 0, 0, 0) := by decide +kernel
theorem gz_97_16 : mz_pg 97 16 = some (.if_icmp .ne 5, 0, 0, 0) := by decide +kernel
theorem gz_97_19 : mz_pg 97 19 = some (.iload_n 2, 0, 0, 0) := by decide +kernel
theorem gz_97_20 : mz_pg 97 20 = some (.ireturn, 0, 0, 0) := by decide +kernel
theorem gz_97_21 : mz_pg 97 21 = some (.iinc 2 1, 0, 0, 0) := by decide +kernel
theorem gz_97_24 : mz_pg 97 24 = some (.goto (-22), 0, 0, 0) := by decide +kernel
theorem gz_97_27 : mz_pg 97 27 = some (.iconst (-1), 0, 0, 0) := by decide +kernel
theorem gz_97_28 : mz_pg 97 28 = some (.ireturn, 0, 0, 0) := by decide +kernel
theorem gm_75 : my_mm 75 2 (some .int) 1 8 := by unfold my_mm; decide +kernel
theorem gm_97 : my_mm 97 3 (some .int) 1 8 := by unfold my_mm; decide +kernel
theorem c59_View_rowOf {l : Launch} {rho : Nat → Int32} {d : Nat} {h : my_H} {Q : my_H → my_V → Prop} {x0 x1 : Int} (t0 : my_is 8 x0) (a1 : 0 ≤ x1) (b1 : x1 ≤ 19) (k0 : Q h (0, (-1))) (k1 : ∀ (y : Int), 0 ≤ y → y ≤ 10 → 1 ≤ h x0 0 → h x0 0 ≤ 11 → Q h (0, y)) : wp l rho (d + 1) 97 0 [(2, x0), (0, x1), (9, 0)] [] h Q := by
  have J2_0 : ∀ (n : Nat) (p2_0 : Int), 0 ≤ p2_0 → p2_0 ≤ 11 → 12 - p2_0 ≤ (n : Int) → wp l rho (d + 1) 97 2 [(2, x0), (0, x1), (0, p2_0)] [] h Q := by
    intro n
    induction n with
    | zero => intro p2_0 q0_2_0 q1_2_0 hm_2_0; exfalso; omega
    | succ n ih_2_0 =>
      intro p2_0 q0_2_0 q1_2_0 hm_2_0
      refine w_iload_n gz_97_2 rfl ?_
      refine w_aload_n gz_97_3 rfl ?_
      refine v_getI (j := 0) gz_97_4 rfl t0 rd_8 rfl (fun v1 ev1 pv1 qv1 => ?_)
      refine w_icge (t := 27) gz_97_7 rfl (fun u2 => ?_) (fun u2 => ?_)
      ·
        refine w_iconst gz_97_27 (by decide) ?_
        exact w_iret gz_97_28 gm_97 (k0 )
      ·
        refine w_aload_n gz_97_10 rfl ?_
        refine w_iload_n gz_97_11 rfl ?_
        refine w_inv (k := 0) (as := [(0, p2_0)]) (r := []) (x := x0) (ls0 := [(2, x0), (0, p2_0)]) gz_97_12 gm_75 rfl t0 rd_8 rfl rfl rfl rfl rfl ?_
        refine w_aload_n gz_75_0 rfl ?_
        refine w_getX (v := (x0 + 1)) gz_75_1 t0 rd_8 rfl (by decide) rfl ?_
        refine w_iload_n gz_75_4 rfl ?_
        refine w_bipush gz_75_5 (by decide) ?_
        refine w_imul gz_75_7 ⟨by omega, by omega⟩ ?_
        refine w_bipush gz_75_8 (by decide) ?_
        refine w_iadd gz_75_10 ⟨by omega, by omega⟩ ?_
        refine w_gldT gz_75_11 (ix_8_1 t0) rd_42 (by omega) (by omega) (by omega) (fun v4 ev4 pv4 qv4 => ?_)
        refine w_iret gz_75_12 gm_75 ?_
        show wp l rho (d + 1) 97 15 [(2, x0), (0, x1), (0, p2_0)] [(0, v4)] h Q
        refine w_iload_n gz_97_15 rfl ?_
        refine w_icne (t := 21) gz_97_16 rfl (fun u5 => ?_) (fun u5 => ?_)
        ·
          refine w_iinc (ls' := [(2, x0), (0, x1), (0, (p2_0 + 1))]) gz_97_21 rfl gm_97 rfl rfl rfl ⟨by omega, by omega⟩ ?_
          refine w_goto (t := 2) gz_97_24 rfl ?_
          exact ih_2_0 ((p2_0 + 1)) (by omega) (by omega) (by omega)
        ·
          refine w_iload_n gz_97_19 rfl ?_
          have c6 := ev1.symm
          exact w_iret gz_97_20 gm_97 (k1 (p2_0) (by omega) (by omega) (by omega) (by omega))
  refine w_iconst gz_97_0 (by decide) ?_
  refine w_istore_n (ls' := [(2, x0), (0, x1), (0, 0)]) gz_97_1 gm_97 rfl rfl rfl ?_
  exact J2_0 12 (0) (by omega) (by omega) (by omega)
theorem gz_99_0 : mz_pg 99 0 = some (.aload_n 0, 0, 0, 0) := by decide +kernel
theorem gz_99_1 : mz_pg 99 1 = some (.getfield 59, 4, 8, 218) := by decide +kernel
theorem gz_99_4 : mz_pg 99 4 = some (.istore_n 1, 0, 0, 0) := by decide +kernel
theorem gz_99_5 : mz_pg 99 5 = some (.iconst 0, 0, 0, 0) := by decide +kernel
theorem gz_99_6 : mz_pg 99 6 = some (.istore_n 2, 0, 0, 0) := by decide +kernel
theorem gz_99_7 : mz_pg 99 7 = some (.iload_n 2, 0, 0, 0) := by decide +kernel
theorem gz_99_8 : mz_pg 99 8 = some (.aload_n 0, 0, 0, 0) := by decide +kernel
theorem gz_99_9 : mz_pg 99 9 = some (.getfield 46, 4, 4, 208) := by decide +kernel
theorem gz_99_12 : mz_pg 99 12 = some (.if_icmp .ge 33, 0, 0, 0) := by decide +kernel
theorem gz_99_15 : mz_pg 99 15 = some (.aload_n 0, 0, 0, 0) := by decide +kernel
theorem gz_99_16 : mz_pg 99 16 = some (.getfield 27, 4, 15, 232) := by decide +kernel
theorem gz_99_19 : mz_pg 99 19 = some (.iload_n 2, 0, 0, 0) := by decide +kernel
theorem gz_99_20 : mz_pg 99 20 = some (.iaload, 0, 0, 0) := by decide +kernel
theorem gz_99_21 : mz_pg 99 21 = some (.iconst (-1), 0, 0, 0) := by decide +kernel
theorem gz_99_22 : mz_pg 99 22 = some (.if_icmp .eq 17, 0, 0, 0) := by decide +kernel
theorem gz_99_25 : mz_pg 99 25 = some (.iload_n 1, 0, 0, 0) := by decide +kernel
theorem gz_99_26 : mz_pg 99 26 = some (.iconst 1, 0, 0, 0) := by decide +kernel
theorem gz_99_27 : mz_pg 99 27 = some (.aload_n 0, 0, 0, 0) := by decide +kernel
theorem gz_99_28 : mz_pg 99 28 = some (.getfield 27, 4, 15, 232) := by decide +kernel
theorem gz_99_31 : mz_pg 99 31 = some (.iload_n 2, 0, 0, 0) := by decide +kernel
theorem gz_99_32 : mz_pg 99 32 = some (.iaload, 0, 0, 0) := by decide +kernel
theorem gz_99_33 : mz_pg 99 33 = some (.bipush 16, 0, 0, 0) := by decide +kernel
theorem gz_99_35 : mz_pg 99 35 = some (.irem, 0, 0, 0) := by decide +kernel
theorem gz_99_36 : mz_pg 99 36 = some (.ishl, 0, 0, 0) := by decide +kernel
theorem gz_99_37 : mz_pg 99 37 = some (.ior, 0, 0, 0) := by decide +kernel
theorem gz_99_38 : mz_pg 99 38 = some (.istore_n 1, 0, 0, 0) := by decide +kernel
theorem gz_99_39 : mz_pg 99 39 = some (.iinc 2 1, 0, 0, 0) := by decide +kernel
theorem gz_99_42 : mz_pg 99 42 = some (.goto (-35), 0, 0, 0) := by decide +kernel
theorem gz_99_45 : mz_pg 99 45 = some (.iload_n 1, 0, 0, 0) := by decide +kernel
theorem gz_99_46 : mz_pg 99 46 = some (.ireturn, 0, 0, 0) := by decide +kernel
theorem gm_99 : my_mm 99 3 (some .int) 0 4 := by unfold my_mm; decide +kernel
theorem c60_Lens_liveColumns {l : Launch} {rho : Nat → Int32} {d : Nat} {h : my_H} {Q : my_H → my_V → Prop} {x0 : Int} (t0 : my_is 4 x0) (k0 : ∀ (y : Int), Q h (0, y)) : wp l rho d 99 0 [(2, x0), (9, 0), (9, 0)] [] h Q := by
  have J7_0 : ∀ (n : Nat) (p7_0 p7_1 p7_2 : Int), 0 ≤ p7_1 → p7_1 ≤ 8 → h x0 8 = p7_2 → 9 - p7_1 ≤ (n : Int) → wp l rho d 99 7 [(2, x0), (0, p7_0), (0, p7_1)] [] h Q := by
    intro n
    induction n with
    | zero => intro p7_0 p7_1 p7_2 q0_7_0 q1_7_0 ca0_8_7_0 hm_7_0; exfalso; omega
    | succ n ih_7_0 =>
      intro p7_0 p7_1 p7_2 q0_7_0 q1_7_0 ca0_8_7_0 hm_7_0
      have J39_0 : ∀ (p39_0 p39_1 : Int), p7_1 ≤ 7 → 1 ≤ p39_1 → p39_1 ≤ 8 → p7_1 ≤ (p39_1 - 1) → h x0 4 = p39_1 → h x0 8 = p7_2 → wp l rho d 99 39 [(2, x0), (0, p39_0), (0, p7_1)] [] h Q := by
        intro p39_0 p39_1 q0_39_0 q1_39_0 q2_39_0 q3_39_0 ca0_4_39_0 ca0_8_39_0
        refine w_iinc (ls' := [(2, x0), (0, p39_0), (0, (p7_1 + 1))]) gz_99_39 rfl gm_99 rfl rfl rfl ⟨by omega, by omega⟩ ?_
        refine w_goto (t := 7) gz_99_42 rfl ?_
        exact ih_7_0 (p39_0) ((p7_1 + 1)) (p7_2) (by omega) (by omega) (ca0_8_39_0.trans (by omega)) (by omega)
      refine w_iload_n gz_99_7 rfl ?_
      refine w_aload_n gz_99_8 rfl ?_
      refine v_getI (j := 4) gz_99_9 rfl t0 rd_4 rfl (fun v1 ev1 pv1 qv1 => ?_)
      refine w_icge (t := 45) gz_99_12 rfl (fun u2 => ?_) (fun u2 => ?_)
      ·
        refine w_iload_n gz_99_45 rfl ?_
        exact w_iret gz_99_46 gm_99 (k0 (p7_0))
      ·
        refine w_aload_n gz_99_15 rfl ?_
        refine w_getX (v := (x0 + 6)) gz_99_16 t0 rd_4 rfl (by decide) rfl ?_
        refine w_iload_n gz_99_19 rfl ?_
        refine w_iald gz_99_20 (ix_4_6 t0) rd_37 (by omega) (by omega) (fun v4 ev4 pv4 qv4 => ?_)
        refine w_iconst gz_99_21 (by decide) ?_
        refine w_iceq (t := 39) gz_99_22 rfl (fun u5 => ?_) (fun u5 => ?_)
        ·
          exact J39_0 (p7_0) (v1) (by omega) (by omega) (by omega) (by omega) (ev1.symm.trans (by omega)) (ca0_8_7_0.trans (by omega))
        ·
          refine w_iload_n gz_99_25 rfl ?_
          refine w_iconst gz_99_26 (by decide) ?_
          refine w_aload_n gz_99_27 rfl ?_
          refine w_getX (v := (x0 + 6)) gz_99_28 t0 rd_4 rfl (by decide) rfl ?_
          refine w_iload_n gz_99_31 rfl ?_
          refine w_iald gz_99_32 (ix_4_6 t0) rd_37 (by omega) (by omega) (fun v7 ev7 pv7 qv7 => ?_)
          have zv7 := ev7.trans ev4.symm
          refine w_bipush gz_99_33 (by decide) ?_
          refine w_irem gz_99_35 (by omega) (by decide) ?_
          refine w_ianyL gz_99_36 (fun v8 pv8 qv8 => ?_)
          refine w_ianyO gz_99_37 (fun v9 pv9 qv9 => ?_)
          refine w_istore_n (ls' := [(2, x0), (0, v9), (0, p7_1)]) gz_99_38 gm_99 rfl rfl rfl ?_
          exact J39_0 (v9) (v1) (by omega) (by omega) (by omega) (by omega) (ev1.symm.trans (by omega)) (ca0_8_7_0.trans (by omega))
  refine w_aload_n gz_99_0 rfl ?_
  refine v_getI (j := 8) gz_99_1 rfl t0 rd_4 rfl (fun v10 ev10 pv10 qv10 => ?_)
  refine w_istore_n (ls' := [(2, x0), (0, v10), (9, 0)]) gz_99_4 gm_99 rfl rfl rfl ?_
  refine w_iconst gz_99_5 (by decide) ?_
  refine w_istore_n (ls' := [(2, x0), (0, v10), (0, 0)]) gz_99_6 gm_99 rfl rfl rfl ?_
  exact J7_0 9 (v10) (0) (v10) (by omega) (by omega) (ev10.symm.trans (by omega)) (by omega)
theorem is_5 : my_is 28 5 := by unfold my_is; decide +kernel
theorem is_6 : my_is 29 6 := by unfold my_is; decide +kernel
theorem gz_102_0 : mz_pg 102 0 = some (.iload_n 2, 0, 0, 0) := by decide +kernel
theorem gz_102_1 : mz_pg 102 1 = some (.iload 4, 0, 0, 0) := by decide +kernel
theorem gz_102_3 : mz_pg 102 3 = some (.invokestatic 50, 2, 29, 12) := by decide +kernel
theorem gz_102_6 : mz_pg 102 6 = some (.istore 6, 0, 0, 0) := by decide +kernel
theorem gz_102_8 : mz_pg 102 8 = some (.iload 5, 0, 0, 0) := by decide +kernel
theorem gz_102_10 : mz_pg 102 10 = some (.aload_n 0, 0, 0, 0) := by decide +kernel
theorem gz_102_11 : mz_pg 102 11 = some (.getfield 15, 3, 1, 149) := by decide +kernel
theorem gz_102_14 : mz_pg 102 14 = some (.iload 6, 0, 0, 0) := by decide +kernel
theorem gz_102_16 : mz_pg 102 16 = some (.iaload, 0, 0, 0) := by decide +kernel
theorem gz_102_17 : mz_pg 102 17 = some (.if_icmp .lt 15, 0, 0, 0) := by decide +kernel
theorem gz_102_20 : mz_pg 102 20 = some (.iload 5, 0, 0, 0) := by decide +kernel
theorem gz_102_22 : mz_pg 102 22 = some (.aload_n 0, 0, 0, 0) := by decide +kernel
theorem gz_102_23 : mz_pg 102 23 = some (.getfield 18, 3, 2, 151) := by decide +kernel
theorem gz_102_26 : mz_pg 102 26 = some (.iload 6, 0, 0, 0) := by decide +kernel
theorem gz_102_28 : mz_pg 102 28 = some (.iaload, 0, 0, 0) := by decide +kernel
theorem gz_102_29 : mz_pg 102 29 = some (.if_icmp .le 5, 0, 0, 0) := by decide +kernel
theorem gz_102_32 : mz_pg 102 32 = some (.iconst 0, 0, 0, 0) := by decide +kernel
theorem gz_102_33 : mz_pg 102 33 = some (.ireturn, 0, 0, 0) := by decide +kernel
theorem gz_102_34 : mz_pg 102 34 = some (.aload_n 0, 0, 0, 0) := by decide +kernel
theorem gz_102_35 : mz_pg 102 35 = some (.getfield 21, 3, 3, 153) := by decide +kernel
theorem gz_102_38 : mz_pg 102 38 = some (.iload 6, 0, 0, 0) := by decide +kernel
theorem gz_102_40 : mz_pg 102 40 = some (.iaload, 0, 0, 0) := by decide +kernel
theorem gz_102_41 : mz_pg 102 41 = some (.iconst (-1), 0, 0, 0) := by decide +kernel
theorem gz_102_42 : mz_pg 102 42 = some (.if_icmp .eq 21, 0, 0, 0) := by decide +kernel
theorem gz_102_45 : mz_pg 102 45 = some (.aload_n 1, 0, 0, 0) := by decide +kernel
theorem gz_102_46 : mz_pg 102 46 = some (.aload_n 0, 0, 0, 0) := by decide +kernel
theorem gz_102_47 : mz_pg 102 47 = some (.getfield 21, 3, 3, 153) := by decide +kernel
theorem gz_102_50 : mz_pg 102 50 = some (.iload 6, 0, 0, 0) := by decide +kernel
theorem gz_102_52 : mz_pg 102 52 = some (.iaload, 0, 0, 0) := by decide +kernel
theorem gz_102_53 : mz_pg 102 53 = some (.iload 5, 0, 0, 0) := by decide +kernel
theorem gz_102_55 : mz_pg 102 55 = some (.invokevirtual 54, 1, 15, 614) := by decide +kernel
theorem gz_102_58 : mz_pg 102 58 = some (.ifCond .ne 5, 0, 0, 0) := by decide +kernel
theorem gz_102_61 : mz_pg 102 61 = some (.iconst 0, 0, 0, 0) := by decide +kernel
theorem gz_102_62 : mz_pg 102 62 = some (.ireturn, 0, 0, 0) := by decide +kernel
theorem gz_102_63 : mz_pg 102 63 = some (.aload_n 0, 0, 0, 0) := by decide +kernel
theorem gz_102_64 : mz_pg 102 64 = some (.getfield 24, 3, 4, 155) := by decide +kernel
theorem gz_102_67 : mz_pg 102 67 = some (.iload 6, 0, 0, 0) := by decide +kernel
theorem gz_102_69 : mz_pg 102 69 = some (.baload, 0, 0, 0) := by decide +kernel
theorem gz_102_70 : mz_pg 102 70 = some (.ifCond .eq 16, 0, 0, 0) := by decide +kernel
theorem gz_102_73 : mz_pg 102 73 = some (.aload_n 1, 0, 0, 0) := by decide +kernel
theorem gz_102_74 : mz_pg 102 74 = some (.iload_n 2, 0, 0, 0) := by decide +kernel
theorem gz_102_75 : mz_pg 102 75 = some (.iload_n 3, 0, 0, 0) := by decide +kernel
theorem gz_102_76 : mz_pg 102 76 = some (.iload 4, 0, 0, 0) := by decide +kernel
theorem gz_102_78 : mz_pg 102 78 = some (.iload 5, 0, 0, 0) := by decide +kernel
theorem gz_102_80 : mz_pg 102 80 = some (.invokestatic 58, 1, 103, 960) := by decide +kernel
theorem gz_102_83 : mz_pg 102 83 = some (.ifCond .ne 7, 0, 0, 0) := by decide +kernel
theorem gz_102_86 : mz_pg 102 86 = some (.iconst 1, 0, 0, 0) := by decide +kernel
theorem gz_102_87 : mz_pg 102 87 = some (.goto 4, 0, 0, 0) := by decide +kernel
theorem gz_102_90 : mz_pg 102 90 = some (.iconst 0, 0, 0, 0) := by decide +kernel
theorem gz_102_91 : mz_pg 102 91 = some (.ireturn, 0, 0, 0) := by decide +kernel
theorem gm_102 : my_mm 102 7 (some .boolean) 5 3 := by unfold my_mm; decide +kernel
theorem rd_28 : my_rd 28 = .inl (0, 12, [(0, -1, 2)]) := rfl
theorem rd_29 : my_rd 29 = .inl (1, 12, [(0, 0, 1)]) := rfl
theorem c61_Laws_allow {l : Launch} {rho : Nat → Int32} {d : Nat} {h : my_H} {Q : my_H → my_V → Prop} {x1 x2 x3 x4 x5 : Int} (t1 : my_is 6 x1) (a2 : 0 ≤ x2) (b2 : x2 ≤ 2) (a3 : 0 ≤ x3) (b3 : x3 ≤ 19) (a4 : 0 ≤ x4) (b4 : x4 ≤ 3) (a5 : 0 ≤ x5) (b5 : x5 ≤ 19) (k0 : Q h (0, 0)) (k1 : Q h (0, 1)) : wp l rho (d + 2) 102 0 [(2, 1), (2, x1), (0, x2), (0, x3), (0, x4), (0, x5), (9, 0)] [] h Q := by
  have J63_0 : ∀ (p63_0 : Int), 0 ≤ p63_0 → p63_0 ≤ 11 → wp l rho (d + 2) 102 63 [(2, 1), (2, x1), (0, x2), (0, x3), (0, x4), (0, x5), (0, p63_0)] [] h Q := by
    intro p63_0 q0_63_0 q1_63_0
    refine w_aload_n gz_102_63 rfl ?_
    refine w_getX (v := 6) gz_102_64 is_1 rd_3 rfl (by decide) rfl ?_
    refine w_iload gz_102_67 rfl ?_
    refine w_bald gz_102_69 is_6 rd_29 (by omega) (by omega) (fun v2 ev2 pv2 qv2 => ?_)
    refine w_ifeq (t := 86) gz_102_70 rfl (fun u3 => ?_) (fun u3 => ?_)
    ·
      refine w_iconst gz_102_86 (by decide) ?_
      refine w_goto (t := 91) gz_102_87 rfl ?_
      exact w_bret gz_102_91 gm_102 (by omega) (by omega) (k1 )
    ·
      refine w_aload_n gz_102_73 rfl ?_
      refine w_iload_n gz_102_74 rfl ?_
      refine w_iload_n gz_102_75 rfl ?_
      refine w_iload gz_102_76 rfl ?_
      refine w_iload gz_102_78 rfl ?_
      refine w_inS (k := 2) (as := [(0, x5), (0, x4), (0, x3), (0, x2), (2, x1)]) (r := []) (ls0 := [(2, x1), (0, x2), (0, x3), (0, x4), (0, x5), (9, 0), (9, 0)]) gz_102_80 gm_103 rfl rfl rfl rfl rfl rfl (c0_Laws_isElsewhere (d := d) (x0 := x1) (x1 := x2) (x2 := x3) (x3 := x4) (x4 := x5) t1 (by omega) (by omega) (by omega) (by omega) (by omega) (by omega) (by omega) (by omega) ?_ ?_)
      ·
        show wp l rho (d + 2) 102 83 [(2, 1), (2, x1), (0, x2), (0, x3), (0, x4), (0, x5), (0, p63_0)] [(0, 0)] h Q
        refine w_ifne (t := 90) gz_102_83 rfl (fun u4 => by exfalso; omega) (fun u4 => ?_)
        refine w_iconst gz_102_86 (by decide) ?_
        refine w_goto (t := 91) gz_102_87 rfl ?_
        exact w_bret gz_102_91 gm_102 (by omega) (by omega) (k1 )
      ·
        show wp l rho (d + 2) 102 83 [(2, 1), (2, x1), (0, x2), (0, x3), (0, x4), (0, x5), (0, p63_0)] [(0, 1)] h Q
        refine w_ifne (t := 90) gz_102_83 rfl (fun u5 => ?_) (fun u5 => by exfalso; omega)
        refine w_iconst gz_102_90 (by decide) ?_
        exact w_bret gz_102_91 gm_102 (by omega) (by omega) (k0 )
  refine w_iload_n gz_102_0 rfl ?_
  refine w_iload gz_102_1 rfl ?_
  refine w_inS (k := 0) (as := [(0, x4), (0, x2)]) (r := []) (ls0 := [(0, x2), (0, x4)]) gz_102_3 gm_29 rfl rfl rfl rfl rfl rfl ?_
  refine w_iload_n gz_29_0 rfl ?_
  refine w_iconst gz_29_1 (by decide) ?_
  refine w_imul gz_29_2 ⟨by omega, by omega⟩ ?_
  refine w_iload_n gz_29_3 rfl ?_
  refine w_iadd gz_29_4 ⟨by omega, by omega⟩ ?_
  refine w_iret gz_29_5 gm_29 ?_
  show wp l rho (d + 2) 102 6 [(2, 1), (2, x1), (0, x2), (0, x3), (0, x4), (0, x5), (9, 0)] [(0, ((x2 * 4) + x4))] h Q
  refine w_istore (ls' := [(2, 1), (2, x1), (0, x2), (0, x3), (0, x4), (0, x5), (0, ((x2 * 4) + x4))]) gz_102_6 gm_102 rfl rfl rfl ?_
  refine w_iload gz_102_8 rfl ?_
  refine w_aload_n gz_102_10 rfl ?_
  refine w_getX (v := 3) gz_102_11 is_1 rd_3 rfl (by decide) rfl ?_
  refine w_iload gz_102_14 rfl ?_
  refine w_iald gz_102_16 is_3 rd_26 (by omega) (by omega) (fun v7 ev7 pv7 qv7 => ?_)
  refine w_iclt (t := 32) gz_102_17 rfl (fun u8 => ?_) (fun u8 => ?_)
  ·
    refine w_iconst gz_102_32 (by decide) ?_
    exact w_bret gz_102_33 gm_102 (by omega) (by omega) (k0 )
  ·
    refine w_iload gz_102_20 rfl ?_
    refine w_aload_n gz_102_22 rfl ?_
    refine w_getX (v := 4) gz_102_23 is_1 rd_3 rfl (by decide) rfl ?_
    refine w_iload gz_102_26 rfl ?_
    refine w_iald gz_102_28 is_4 rd_27 (by omega) (by omega) (fun v10 ev10 pv10 qv10 => ?_)
    refine w_icle (t := 34) gz_102_29 rfl (fun u11 => ?_) (fun u11 => ?_)
    ·
      refine w_aload_n gz_102_34 rfl ?_
      refine w_getX (v := 5) gz_102_35 is_1 rd_3 rfl (by decide) rfl ?_
      refine w_iload gz_102_38 rfl ?_
      refine w_iald gz_102_40 is_5 rd_28 (by omega) (by omega) (fun v13 ev13 pv13 qv13 => ?_)
      refine w_iconst gz_102_41 (by decide) ?_
      refine w_iceq (t := 63) gz_102_42 rfl (fun u14 => ?_) (fun u14 => ?_)
      ·
        exact J63_0 (((x2 * 4) + x4)) (by omega) (by omega)
      ·
        refine w_aload_n gz_102_45 rfl ?_
        refine w_aload_n gz_102_46 rfl ?_
        refine w_getX (v := 5) gz_102_47 is_1 rd_3 rfl (by decide) rfl ?_
        refine w_iload gz_102_50 rfl ?_
        refine w_iald gz_102_52 is_5 rd_28 (by omega) (by omega) (fun v16 ev16 pv16 qv16 => ?_)
        have zv16 := ev16.trans ev13.symm
        refine w_iload gz_102_53 rfl ?_
        refine w_inv (k := 0) (as := [(0, x5), (0, v16)]) (r := []) (x := x1) (ls0 := [(2, x1), (0, v16), (0, x5)]) gz_102_55 gm_15 rfl t1 rd_6 rfl rfl rfl rfl rfl ?_
        refine w_iload_n gz_15_0 rfl ?_
        refine w_iflt (t := 31) gz_15_1 rfl (fun u17 => by exfalso; omega) (fun u17 => ?_)
        refine w_iload_n gz_15_4 rfl ?_
        refine w_bipush gz_15_5 (by decide) ?_
        refine w_icge (t := 31) gz_15_7 rfl (fun u18 => by exfalso; omega) (fun u18 => ?_)
        refine w_aload_n gz_15_10 rfl ?_
        refine w_getX (v := (x1 + 1)) gz_15_11 t1 rd_6 rfl (by decide) rfl ?_
        refine w_iload_n gz_15_14 rfl ?_
        refine w_bipush gz_15_15 (by decide) ?_
        refine w_imul gz_15_17 ⟨by omega, by omega⟩ ?_
        refine w_iload_n gz_15_18 rfl ?_
        refine w_iadd gz_15_19 ⟨by omega, by omega⟩ ?_
        refine w_iconst gz_15_20 (by decide) ?_
        refine w_imul gz_15_21 ⟨by omega, by omega⟩ ?_
        refine w_iald gz_15_22 (ix_6_1 t1) rd_30 (by omega) (by omega) (fun v20 ev20 pv20 qv20 => ?_)
        refine w_iconst gz_15_23 (by decide) ?_
        refine w_iceq (t := 31) gz_15_24 rfl (fun u21 => ?_) (fun u21 => ?_)
        ·
          refine w_iconst gz_15_31 (by decide) ?_
          refine w_bret gz_15_32 gm_15 (by omega) (by omega) ?_
          show wp l rho (d + 2) 102 58 [(2, 1), (2, x1), (0, x2), (0, x3), (0, x4), (0, x5), (0, ((x2 * 4) + x4))] [(0, 0)] h Q
          refine w_ifne (t := 63) gz_102_58 rfl (fun u22 => by exfalso; omega) (fun u22 => ?_)
          refine w_iconst gz_102_61 (by decide) ?_
          exact w_bret gz_102_62 gm_102 (by omega) (by omega) (k0 )
        ·
          refine w_iconst gz_15_27 (by decide) ?_
          refine w_goto (t := 32) gz_15_28 rfl ?_
          refine w_bret gz_15_32 gm_15 (by omega) (by omega) ?_
          show wp l rho (d + 2) 102 58 [(2, 1), (2, x1), (0, x2), (0, x3), (0, x4), (0, x5), (0, ((x2 * 4) + x4))] [(0, 1)] h Q
          refine w_ifne (t := 63) gz_102_58 rfl (fun u23 => ?_) (fun u23 => by exfalso; omega)
          exact J63_0 (((x2 * 4) + x4)) (by omega) (by omega)
    ·
      refine w_iconst gz_102_32 (by decide) ?_
      exact w_bret gz_102_33 gm_102 (by omega) (by omega) (k0 )
theorem is_95 : my_is 6 95 := by unfold my_is; decide +kernel
theorem is_96 : my_is 30 96 := by unfold my_is; decide +kernel
theorem is_97 : my_is 31 97 := by unfold my_is; decide +kernel
theorem is_110 : my_is 41 110 := by unfold my_is; decide +kernel
theorem gz_16_0 : mz_pg 16 0 = some (.aload_n 2, 0, 0, 0) := by decide +kernel
theorem gz_16_1 : mz_pg 16 1 = some (.iconst 0, 0, 0, 0) := by decide +kernel
theorem gz_16_2 : mz_pg 16 2 = some (.aload_n 0, 0, 0, 0) := by decide +kernel
theorem gz_16_3 : mz_pg 16 3 = some (.getfield 9, 6, 0, 176) := by decide +kernel
theorem gz_16_6 : mz_pg 16 6 = some (.iload_n 1, 0, 0, 0) := by decide +kernel
theorem gz_16_7 : mz_pg 16 7 = some (.aload_n 2, 0, 0, 0) := by decide +kernel
theorem gz_16_8 : mz_pg 16 8 = some (.iconst 0, 0, 0, 0) := by decide +kernel
theorem gz_16_9 : mz_pg 16 9 = some (.iaload, 0, 0, 0) := by decide +kernel
theorem gz_16_10 : mz_pg 16 10 = some (.invokestatic 18, 2, 17, 4) := by decide +kernel
theorem gz_16_13 : mz_pg 16 13 = some (.iconst 4, 0, 0, 0) := by decide +kernel
theorem gz_16_14 : mz_pg 16 14 = some (.invokestatic 22, 0, 0, 596) := by decide +kernel
theorem gz_16_17 : mz_pg 16 17 = some (.aload_n 0, 0, 0, 0) := by decide +kernel
theorem gz_16_18 : mz_pg 16 18 = some (.getfield 15, 6, 1, 182) := by decide +kernel
theorem gz_16_21 : mz_pg 16 21 = some (.iload_n 1, 0, 0, 0) := by decide +kernel
theorem gz_16_22 : mz_pg 16 22 = some (.dup2, 0, 0, 0) := by decide +kernel
theorem gz_16_23 : mz_pg 16 23 = some (.iaload, 0, 0, 0) := by decide +kernel
theorem gz_16_24 : mz_pg 16 24 = some (.iconst 1, 0, 0, 0) := by decide +kernel
theorem gz_16_25 : mz_pg 16 25 = some (.iadd, 0, 0, 0) := by decide +kernel
theorem gz_16_26 : mz_pg 16 26 = some (.iastore, 0, 0, 0) := by decide +kernel
theorem gz_16_27 : mz_pg 16 27 = some (.return_, 0, 0, 0) := by decide +kernel
theorem gz_106_0 : mz_pg 106 0 = some (.iconst 0, 0, 0, 0) := by decide +kernel
theorem gz_106_1 : mz_pg 106 1 = some (.istore_n 2, 0, 0, 0) := by decide +kernel
theorem gz_106_2 : mz_pg 106 2 = some (.iload_n 2, 0, 0, 0) := by decide +kernel
theorem gz_106_3 : mz_pg 106 3 = some (.iconst 4, 0, 0, 0) := by decide +kernel
theorem gz_106_4 : mz_pg 106 4 = some (.if_icmp .ge 41, 0, 0, 0) := by decide +kernel
theorem gz_106_7 : mz_pg 106 7 = some (.aload_n 1, 0, 0, 0) := by decide +kernel
theorem gz_106_8 : mz_pg 106 8 = some (.iload_n 2, 0, 0, 0) := by decide +kernel
theorem gz_106_9 : mz_pg 106 9 = some (.invokevirtual 253, 1, 107, 974) := by decide +kernel
theorem gz_106_12 : mz_pg 106 12 = some (.istore_n 3, 0, 0, 0) := by decide +kernel
theorem gz_106_13 : mz_pg 106 13 = some (.aload_n 0, 0, 0, 0) := by decide +kernel
theorem gz_106_14 : mz_pg 106 14 = some (.getfield 31, 2, 7, 400) := by decide +kernel
theorem gz_106_17 : mz_pg 106 17 = some (.iload_n 2, 0, 0, 0) := by decide +kernel
theorem gz_106_18 : mz_pg 106 18 = some (.iload_n 3, 0, 0, 0) := by decide +kernel
theorem gz_106_19 : mz_pg 106 19 = some (.iconst (-1), 0, 0, 0) := by decide +kernel
theorem gz_106_20 : mz_pg 106 20 = some (.if_icmp .eq 12, 0, 0, 0) := by decide +kernel
theorem gz_106_23 : mz_pg 106 23 = some (.aload_n 0, 0, 0, 0) := by decide +kernel
theorem gz_106_24 : mz_pg 106 24 = some (.getfield 56, 2, 2, 392) := by decide +kernel
theorem gz_106_27 : mz_pg 106 27 = some (.iload_n 3, 0, 0, 0) := by decide +kernel
theorem gz_106_28 : mz_pg 106 28 = some (.iaload, 0, 0, 0) := by decide +kernel
theorem gz_106_29 : mz_pg 106 29 = some (.goto 9, 0, 0, 0) := by decide +kernel
theorem gz_106_32 : mz_pg 106 32 = some (.aload_n 1, 0, 0, 0) := by decide +kernel
theorem gz_106_33 : mz_pg 106 33 = some (.getfield 256, 4, 16, 235) := by decide +kernel
theorem gz_106_36 : mz_pg 106 36 = some (.iload_n 2, 0, 0, 0) := by decide +kernel
theorem gz_106_37 : mz_pg 106 37 = some (.iaload, 0, 0, 0) := by decide +kernel
theorem gz_106_38 : mz_pg 106 38 = some (.iastore, 0, 0, 0) := by decide +kernel
theorem gz_106_39 : mz_pg 106 39 = some (.iinc 2 1, 0, 0, 0) := by decide +kernel
theorem gz_106_42 : mz_pg 106 42 = some (.goto (-40), 0, 0, 0) := by decide +kernel
theorem gz_106_45 : mz_pg 106 45 = some (.aload_n 0, 0, 0, 0) := by decide +kernel
theorem gz_106_46 : mz_pg 106 46 = some (.getfield 12, 2, 3, 393) := by decide +kernel
theorem gz_106_49 : mz_pg 106 49 = some (.getfield 259, 6, 1, 184) := by decide +kernel
theorem gz_106_52 : mz_pg 106 52 = some (.aload_n 1, 0, 0, 0) := by decide +kernel
theorem gz_106_53 : mz_pg 106 53 = some (.getfield 196, 4, 2, 203) := by decide +kernel
theorem gz_106_56 : mz_pg 106 56 = some (.iaload, 0, 0, 0) := by decide +kernel
theorem gz_106_57 : mz_pg 106 57 = some (.bipush 10, 0, 0, 0) := by decide +kernel
theorem gz_106_59 : mz_pg 106 59 = some (.if_icmp .ge 23, 0, 0, 0) := by decide +kernel
theorem gz_106_62 : mz_pg 106 62 = some (.aload_n 0, 0, 0, 0) := by decide +kernel
theorem gz_106_63 : mz_pg 106 63 = some (.getfield 12, 2, 3, 393) := by decide +kernel
theorem gz_106_66 : mz_pg 106 66 = some (.aload_n 1, 0, 0, 0) := by decide +kernel
theorem gz_106_67 : mz_pg 106 67 = some (.getfield 196, 4, 2, 203) := by decide +kernel
theorem gz_106_70 : mz_pg 106 70 = some (.aload_n 0, 0, 0, 0) := by decide +kernel
theorem gz_106_71 : mz_pg 106 71 = some (.getfield 31, 2, 7, 400) := by decide +kernel
theorem gz_106_74 : mz_pg 106 74 = some (.iconst 0, 0, 0, 0) := by decide +kernel
theorem gz_106_75 : mz_pg 106 75 = some (.iaload, 0, 0, 0) := by decide +kernel
theorem gz_106_76 : mz_pg 106 76 = some (.invokevirtual 199, 1, 15, 937) := by decide +kernel
theorem gz_106_79 : mz_pg 106 79 = some (.ifCond .eq 5, 0, 0, 0) := by decide +kernel
theorem gz_106_82 : mz_pg 106 82 = some (.iconst 0, 0, 0, 0) := by decide +kernel
theorem gz_106_83 : mz_pg 106 83 = some (.ireturn, 0, 0, 0) := by decide +kernel
theorem gz_106_84 : mz_pg 106 84 = some (.aload_n 0, 0, 0, 0) := by decide +kernel
theorem gz_106_85 : mz_pg 106 85 = some (.getfield 12, 2, 3, 393) := by decide +kernel
theorem gz_106_88 : mz_pg 106 88 = some (.aload_n 1, 0, 0, 0) := by decide +kernel
theorem gz_106_89 : mz_pg 106 89 = some (.getfield 196, 4, 2, 203) := by decide +kernel
theorem gz_106_92 : mz_pg 106 92 = some (.aload_n 0, 0, 0, 0) := by decide +kernel
theorem gz_106_93 : mz_pg 106 93 = some (.getfield 31, 2, 7, 400) := by decide +kernel
theorem gz_106_96 : mz_pg 106 96 = some (.invokevirtual 144, 1, 16, 978) := by decide +kernel
theorem gz_106_99 : mz_pg 106 99 = some (.iconst 1, 0, 0, 0) := by decide +kernel
theorem gz_106_100 : mz_pg 106 100 = some (.ireturn, 0, 0, 0) := by decide +kernel
theorem gm_16 : my_mm 16 3 none 2 6 := by unfold my_mm; decide +kernel
theorem gm_106 : my_mm 106 4 (some .boolean) 1 2 := by unfold my_mm; decide +kernel
theorem rd_41 : my_rd 41 = .inl (0, 4, [(0, 0, 19)]) := rfl
theorem c62_Desk_rowComes {l : Launch} {rho : Nat → Int32} {d : Nat} {h : my_H} {Q : my_H → my_V → Prop} {x1 : Int} (t1 : my_is 4 x1) (k0 : ∀ (h' : my_H), my_fr [(30, -1), (31, -1), (41, -1)] h h' → Q h' (0, 0)) (k1 : ∀ (h' : my_H), my_fr [(30, -1), (31, -1), (41, -1)] h h' → Q h' (0, 1)) : wp l rho (d + 2) 106 0 [(2, 94), (2, x1), (9, 0), (9, 0)] [] h Q := by
  have J2_0 : ∀ (n : Nat) (p2_0 : Int) (h2_0 : my_H), my_fr [(30, -1), (31, -1), (41, -1)] h h2_0 → 0 ≤ p2_0 → p2_0 ≤ 4 → 5 - p2_0 ≤ (n : Int) → wp l rho (d + 2) 106 2 [(2, 94), (2, x1), (0, p2_0), (9, 0)] [] h2_0 Q := by
    intro n
    induction n with
    | zero => intro p2_0 h2_0 gh_2_0 q0_2_0 q1_2_0 hm_2_0; exfalso; omega
    | succ n ih_2_0 =>
      intro p2_0 h2_0 gh_2_0 q0_2_0 q1_2_0 hm_2_0
      have J38_0 : ∀ (p38_0 p38_1 : Int) (h38_0 : my_H), my_fr [(30, -1), (31, -1), (41, -1)] h h38_0 → p2_0 ≤ 3 → (-1) ≤ p38_0 → p38_0 ≤ 7 → 0 ≤ p38_1 → p38_1 ≤ 19 → wp l rho (d + 2) 106 38 [(2, 94), (2, x1), (0, p2_0), (0, p38_0)] [(0, p38_1), (0, p2_0), (2, 110)] h38_0 Q := by
        intro p38_0 p38_1 h38_0 gh_38_0 q0_38_0 q1_38_0 q2_38_0 q3_38_0 q4_38_0
        refine w_iast gz_106_38 is_110 rd_41 (by omega) (by omega) (by omega) (by omega) (fun h1 fh1 => ?_)
        have gh1 : my_fr [(30, -1), (31, -1), (41, -1)] h h1 := my_fr.up gh_38_0 is_110 fh1 rfl
        refine w_iinc (ls' := [(2, 94), (2, x1), (0, (p2_0 + 1)), (0, p38_0)]) gz_106_39 rfl gm_106 rfl rfl rfl ⟨by omega, by omega⟩ ?_
        refine w_goto (t := 2) gz_106_42 rfl ?_
        refine w_weak (ls' := [(2, 94), (2, x1), (0, (p2_0 + 1)), (9, 0)]) (wk_e (wk_e (wk_e (wk_9 wk_n)))) ?_
        exact ih_2_0 ((p2_0 + 1)) h1 (gh1) (by omega) (by omega) (by omega)
      refine w_iload_n gz_106_2 rfl ?_
      refine w_iconst gz_106_3 (by decide) ?_
      refine w_icge (t := 45) gz_106_4 rfl (fun u2 => ?_) (fun u2 => ?_)
      ·
        refine w_aload_n gz_106_45 rfl ?_
        refine w_getX (v := 95) gz_106_46 is_94 rd_2 rfl (by decide) rfl ?_
        refine w_getX (v := 97) gz_106_49 is_95 rd_6 rfl (by decide) rfl ?_
        refine w_aload_n gz_106_52 rfl ?_
        refine v_getI (j := 2) gz_106_53 rfl t1 rd_4 rfl (fun v5 ev5 pv5 qv5 => ?_)
        refine w_iald gz_106_56 is_97 rd_31 (by omega) (by omega) (fun v6 ev6 pv6 qv6 => ?_)
        refine w_bipush gz_106_57 (by decide) ?_
        refine w_icge (t := 82) gz_106_59 rfl (fun u7 => ?_) (fun u7 => ?_)
        ·
          refine w_iconst gz_106_82 (by decide) ?_
          exact w_bret gz_106_83 gm_106 (by omega) (by omega) (k0 h2_0 (gh_2_0))
        ·
          refine w_aload_n gz_106_62 rfl ?_
          refine w_getX (v := 95) gz_106_63 is_94 rd_2 rfl (by decide) rfl ?_
          refine w_aload_n gz_106_66 rfl ?_
          refine v_getI (j := 2) gz_106_67 rfl t1 rd_4 rfl (fun v9 ev9 pv9 qv9 => ?_)
          have zv9 := ev9.trans ev5.symm
          refine w_aload_n gz_106_70 rfl ?_
          refine w_getX (v := 110) gz_106_71 is_94 rd_2 rfl (by decide) rfl ?_
          refine w_iconst gz_106_74 (by decide) ?_
          refine w_iald gz_106_75 is_110 rd_41 (by omega) (by omega) (fun v11 ev11 pv11 qv11 => ?_)
          refine w_inv (k := 0) (as := [(0, v11), (0, v9)]) (r := []) (x := 95) (ls0 := [(2, 95), (0, v9), (0, v11)]) gz_106_76 gm_15 rfl is_95 rd_6 rfl rfl rfl rfl rfl ?_
          refine w_iload_n gz_15_0 rfl ?_
          refine w_iflt (t := 31) gz_15_1 rfl (fun u12 => by exfalso; omega) (fun u12 => ?_)
          refine w_iload_n gz_15_4 rfl ?_
          refine w_bipush gz_15_5 (by decide) ?_
          refine w_icge (t := 31) gz_15_7 rfl (fun u13 => by exfalso; omega) (fun u13 => ?_)
          refine w_aload_n gz_15_10 rfl ?_
          refine w_getX (v := 96) gz_15_11 is_95 rd_6 rfl (by decide) rfl ?_
          refine w_iload_n gz_15_14 rfl ?_
          refine w_bipush gz_15_15 (by decide) ?_
          refine w_imul gz_15_17 ⟨by omega, by omega⟩ ?_
          refine w_iload_n gz_15_18 rfl ?_
          refine w_iadd gz_15_19 ⟨by omega, by omega⟩ ?_
          refine w_iconst gz_15_20 (by decide) ?_
          refine w_imul gz_15_21 ⟨by omega, by omega⟩ ?_
          refine w_iald gz_15_22 is_96 rd_30 (by omega) (by omega) (fun v15 ev15 pv15 qv15 => ?_)
          refine w_iconst gz_15_23 (by decide) ?_
          refine w_iceq (t := 31) gz_15_24 rfl (fun u16 => ?_) (fun u16 => ?_)
          ·
            refine w_iconst gz_15_31 (by decide) ?_
            refine w_bret gz_15_32 gm_15 (by omega) (by omega) ?_
            show wp l rho (d + 2) 106 79 [(2, 94), (2, x1), (0, p2_0), (9, 0)] [(0, 0)] h2_0 Q
            refine w_ifeq (t := 84) gz_106_79 rfl (fun u17 => ?_) (fun u17 => by exfalso; omega)
            refine w_aload_n gz_106_84 rfl ?_
            refine w_getX (v := 95) gz_106_85 is_94 rd_2 rfl (by decide) rfl ?_
            refine w_aload_n gz_106_88 rfl ?_
            refine v_getI (j := 2) gz_106_89 rfl t1 rd_4 rfl (fun v19 ev19 pv19 qv19 => ?_)
            have zv19 := ev19.trans ev9.symm
            refine w_aload_n gz_106_92 rfl ?_
            refine w_getX (v := 110) gz_106_93 is_94 rd_2 rfl (by decide) rfl ?_
            refine w_inv (k := 0) (as := [(2, 110), (0, v19)]) (r := []) (x := 95) (ls0 := [(2, 95), (0, v19), (2, 110)]) gz_106_96 gm_16 rfl is_95 rd_6 rfl rfl rfl rfl rfl ?_
            refine w_aload_n gz_16_0 rfl ?_
            refine w_iconst gz_16_1 (by decide) ?_
            refine w_aload_n gz_16_2 rfl ?_
            refine w_getX (v := 96) gz_16_3 is_95 rd_6 rfl (by decide) rfl ?_
            refine w_iload_n gz_16_6 rfl ?_
            refine w_aload_n gz_16_7 rfl ?_
            refine w_iconst gz_16_8 (by decide) ?_
            refine w_iald gz_16_9 is_110 rd_41 (by omega) (by omega) (fun v22 ev22 pv22 qv22 => ?_)
            have zv22 := ev22.trans ev11.symm
            refine w_inS (k := 0) (as := [(0, v22), (0, v19)]) (r := [(2, 96), (0, 0), (2, 110)]) (ls0 := [(0, v19), (0, v22)]) gz_16_10 gm_17 rfl rfl rfl rfl rfl rfl ?_
            refine w_iload_n gz_17_0 rfl ?_
            refine w_bipush gz_17_1 (by decide) ?_
            refine w_imul gz_17_3 ⟨by omega, by omega⟩ ?_
            refine w_iload_n gz_17_4 rfl ?_
            refine w_iadd gz_17_5 ⟨by omega, by omega⟩ ?_
            refine w_iconst gz_17_6 (by decide) ?_
            refine w_imul gz_17_7 ⟨by omega, by omega⟩ ?_
            refine w_iret gz_17_8 gm_17 ?_
            show wp l rho (d + 1) 16 13 [(2, 95), (0, v19), (2, 110)] [(0, (((v19 * 20) + v22) * 4)), (2, 96), (0, 0), (2, 110)] h2_0 _
            refine w_iconst gz_16_13 (by decide) ?_
            refine w_cpU gz_16_14 is_110 rd_41 is_96 rd_30 (by omega) (by omega) (by omega) (by omega) (by omega) rfl (by decide) (by decide) (fun h23 fh23 => ?_)
            have gh23 : my_fr [(30, -1), (31, -1), (41, -1)] h h23 := my_fr.cp gh_2_0 is_96 fh23 rfl
            refine w_aload_n gz_16_17 rfl ?_
            refine w_getX (v := 97) gz_16_18 is_95 rd_6 rfl (by decide) rfl ?_
            refine w_iload_n gz_16_21 rfl ?_
            refine w_dup2 gz_16_22 rfl rfl ?_
            refine w_iald gz_16_23 is_97 rd_31 (by omega) (by omega) (fun v25 ev25 pv25 qv25 => ?_)
            have wv25 : v19 = v5 := by omega
            rw [wv25] at ev25
            have zv25 := ev25.trans ((my_cp_role fh23 is_97 is_96 rfl).trans ev6.symm)
            refine w_iconst gz_16_24 (by decide) ?_
            refine w_iadd gz_16_25 ⟨by omega, by omega⟩ ?_
            refine w_iastA gz_16_26 is_97 rd_31 (by omega) (by omega) (fun h26 fh26 => ?_)
            have gh26 : my_fr [(30, -1), (31, -1), (41, -1)] h h26 := my_fr.up gh23 is_97 fh26 rfl
            refine w_vret gz_16_27 gm_16 ?_
            show wp l rho (d + 2) 106 99 [(2, 94), (2, x1), (0, p2_0), (9, 0)] [] h26 Q
            refine w_iconst gz_106_99 (by decide) ?_
            exact w_bret gz_106_100 gm_106 (by omega) (by omega) (k1 h26 (gh26))
          ·
            refine w_iconst gz_15_27 (by decide) ?_
            refine w_goto (t := 32) gz_15_28 rfl ?_
            refine w_bret gz_15_32 gm_15 (by omega) (by omega) ?_
            show wp l rho (d + 2) 106 79 [(2, 94), (2, x1), (0, p2_0), (9, 0)] [(0, 1)] h2_0 Q
            refine w_ifeq (t := 84) gz_106_79 rfl (fun u27 => by exfalso; omega) (fun u27 => ?_)
            refine w_iconst gz_106_82 (by decide) ?_
            exact w_bret gz_106_83 gm_106 (by omega) (by omega) (k0 h2_0 (gh_2_0))
      ·
        refine w_aload_n gz_106_7 rfl ?_
        refine w_iload_n gz_106_8 rfl ?_
        refine w_inv (k := 1) (as := [(0, p2_0)]) (r := []) (x := x1) (ls0 := [(2, x1), (0, p2_0), (9, 0)]) gz_106_9 gm_107 rfl t1 rd_4 rfl rfl rfl rfl rfl (c1_Lens_columnShowing (d := d) (x0 := x1) (x1 := p2_0) t1 (by omega) (by omega) ?_ (fun v28 w29 w30 w31 w32 => ?_))
        ·
          show wp l rho (d + 2) 106 12 [(2, 94), (2, x1), (0, p2_0), (9, 0)] [(0, (-1))] h2_0 Q
          refine w_istore_n (ls' := [(2, 94), (2, x1), (0, p2_0), (0, (-1))]) gz_106_12 gm_106 rfl rfl rfl ?_
          refine w_aload_n gz_106_13 rfl ?_
          refine w_getX (v := 110) gz_106_14 is_94 rd_2 rfl (by decide) rfl ?_
          refine w_iload_n gz_106_17 rfl ?_
          refine w_iload_n gz_106_18 rfl ?_
          refine w_iconst gz_106_19 (by decide) ?_
          refine w_iceq (t := 32) gz_106_20 rfl (fun u34 => ?_) (fun u34 => by exfalso; omega)
          refine w_aload_n gz_106_32 rfl ?_
          refine w_getX (v := (x1 + 7)) gz_106_33 t1 rd_4 rfl (by decide) rfl ?_
          refine w_iload_n gz_106_36 rfl ?_
          refine w_iald gz_106_37 (ix_4_7 t1) rd_38 (by omega) (by omega) (fun v36 ev36 pv36 qv36 => ?_)
          exact J38_0 ((-1)) (v36) h2_0 (gh_2_0) (by omega) (by omega) (by omega) (by omega) (by omega)
        ·
          show wp l rho (d + 2) 106 12 [(2, 94), (2, x1), (0, p2_0), (9, 0)] [(0, v28)] h2_0 Q
          refine w_istore_n (ls' := [(2, 94), (2, x1), (0, p2_0), (0, v28)]) gz_106_12 gm_106 rfl rfl rfl ?_
          refine w_aload_n gz_106_13 rfl ?_
          refine w_getX (v := 110) gz_106_14 is_94 rd_2 rfl (by decide) rfl ?_
          refine w_iload_n gz_106_17 rfl ?_
          refine w_iload_n gz_106_18 rfl ?_
          refine w_iconst gz_106_19 (by decide) ?_
          refine w_iceq (t := 32) gz_106_20 rfl (fun u38 => by exfalso; omega) (fun u38 => ?_)
          refine w_aload_n gz_106_23 rfl ?_
          refine w_getX (v := 93) gz_106_24 is_94 rd_2 rfl (by decide) rfl ?_
          refine w_iload_n gz_106_27 rfl ?_
          refine w_iald gz_106_28 is_93 rd_23 (by omega) (by omega) (fun v40 ev40 pv40 qv40 => ?_)
          refine w_goto (t := 38) gz_106_29 rfl ?_
          exact J38_0 (v28) (v40) h2_0 (gh_2_0) (by omega) (by omega) (by omega) (by omega) (by omega)
  refine w_iconst gz_106_0 (by decide) ?_
  refine w_istore_n (ls' := [(2, 94), (2, x1), (0, 0), (9, 0)]) gz_106_1 gm_106 rfl rfl rfl ?_
  exact J2_0 5 (0) h (my_fr.rf) (by omega) (by omega) (by omega)
theorem gz_134_0 : mz_pg 134 0 = some (.iconst 0, 0, 0, 0) := by decide +kernel
theorem gz_134_1 : mz_pg 134 1 = some (.istore_n 2, 0, 0, 0) := by decide +kernel
theorem gz_134_2 : mz_pg 134 2 = some (.iconst 0, 0, 0, 0) := by decide +kernel
theorem gz_134_3 : mz_pg 134 3 = some (.istore_n 3, 0, 0, 0) := by decide +kernel
theorem gz_134_4 : mz_pg 134 4 = some (.iconst 0, 0, 0, 0) := by decide +kernel
theorem gz_134_5 : mz_pg 134 5 = some (.istore 4, 0, 0, 0) := by decide +kernel
theorem gz_134_7 : mz_pg 134 7 = some (.iload 4, 0, 0, 0) := by decide +kernel
theorem gz_134_9 : mz_pg 134 9 = some (.aload_n 0, 0, 0, 0) := by decide +kernel
theorem gz_134_10 : mz_pg 134 10 = some (.getfield 22, 8, 0, 327) := by decide +kernel
theorem gz_134_13 : mz_pg 134 13 = some (.if_icmp .ge 59, 0, 0, 0) := by decide +kernel
theorem gz_134_16 : mz_pg 134 16 = some (.iload_n 3, 0, 0, 0) := by decide +kernel
theorem gz_134_17 : mz_pg 134 17 = some (.aload_n 1, 0, 0, 0) := by decide +kernel
theorem gz_134_18 : mz_pg 134 18 = some (.getfield 22, 8, 0, 327) := by decide +kernel
theorem gz_134_21 : mz_pg 134 21 = some (.if_icmp .ge 20, 0, 0, 0) := by decide +kernel
theorem gz_134_24 : mz_pg 134 24 = some (.aload_n 0, 0, 0, 0) := by decide +kernel
theorem gz_134_25 : mz_pg 134 25 = some (.iload 4, 0, 0, 0) := by decide +kernel
theorem gz_134_27 : mz_pg 134 27 = some (.aload_n 1, 0, 0, 0) := by decide +kernel
theorem gz_134_28 : mz_pg 134 28 = some (.iload_n 3, 0, 0, 0) := by decide +kernel
theorem gz_134_29 : mz_pg 134 29 = some (.invokevirtual 120, 1, 80, 864) := by decide +kernel
theorem gz_134_32 : mz_pg 134 32 = some (.ifCond .le 9, 0, 0, 0) := by decide +kernel
theorem gz_134_35 : mz_pg 134 35 = some (.iinc 3 1, 0, 0, 0) := by decide +kernel
theorem gz_134_38 : mz_pg 134 38 = some (.goto (-22), 0, 0, 0) := by decide +kernel
theorem gz_134_41 : mz_pg 134 41 = some (.iload_n 3, 0, 0, 0) := by decide +kernel
theorem gz_134_42 : mz_pg 134 42 = some (.aload_n 1, 0, 0, 0) := by decide +kernel
theorem gz_134_43 : mz_pg 134 43 = some (.getfield 22, 8, 0, 327) := by decide +kernel
theorem gz_134_46 : mz_pg 134 46 = some (.if_icmp .ge 20, 0, 0, 0) := by decide +kernel
theorem gz_134_49 : mz_pg 134 49 = some (.aload_n 0, 0, 0, 0) := by decide +kernel
theorem gz_134_50 : mz_pg 134 50 = some (.iload 4, 0, 0, 0) := by decide +kernel
theorem gz_134_52 : mz_pg 134 52 = some (.aload_n 1, 0, 0, 0) := by decide +kernel
theorem gz_134_53 : mz_pg 134 53 = some (.iload_n 3, 0, 0, 0) := by decide +kernel
theorem gz_134_54 : mz_pg 134 54 = some (.invokevirtual 120, 1, 80, 864) := by decide +kernel
theorem gz_134_57 : mz_pg 134 57 = some (.ifCond .ne 9, 0, 0, 0) := by decide +kernel
theorem gz_134_60 : mz_pg 134 60 = some (.iinc 2 1, 0, 0, 0) := by decide +kernel
theorem gz_134_63 : mz_pg 134 63 = some (.iinc 3 1, 0, 0, 0) := by decide +kernel
theorem gz_134_66 : mz_pg 134 66 = some (.iinc 4 1, 0, 0, 0) := by decide +kernel
theorem gz_134_69 : mz_pg 134 69 = some (.goto (-62), 0, 0, 0) := by decide +kernel
theorem gz_134_72 : mz_pg 134 72 = some (.iload_n 2, 0, 0, 0) := by decide +kernel
theorem gz_134_73 : mz_pg 134 73 = some (.ireturn, 0, 0, 0) := by decide +kernel
theorem gm_134 : my_mm 134 5 (some .int) 1 8 := by unfold my_mm; decide +kernel
theorem c63_View_countShared {l : Launch} {rho : Nat → Int32} {d : Nat} {h : my_H} {Q : my_H → my_V → Prop} {x0 x1 : Int} (t0 : my_is 8 x0) (t1 : my_is 8 x1) (k0 : Q h (0, 0)) (k1 : ∀ (y : Int), 0 ≤ y → y ≤ 11 → Q h (0, y)) : wp l rho (d + 1) 134 0 [(2, x0), (2, x1), (9, 0), (9, 0), (9, 0)] [] h Q := by
  have J7_0 : ∀ (n : Nat) (p7_0 p7_1 p7_2 : Int), 0 ≤ p7_0 → p7_0 ≤ 11 → 0 ≤ p7_1 → p7_1 ≤ 11 → 0 ≤ p7_2 → p7_2 ≤ 11 → p7_0 ≤ p7_1 → p7_0 ≤ p7_2 → p7_1 ≤ (p7_2 + 10) → 12 - p7_2 ≤ (n : Int) → wp l rho (d + 1) 134 7 [(2, x0), (2, x1), (0, p7_0), (0, p7_1), (0, p7_2)] [] h Q := by
    intro n
    induction n with
    | zero => intro p7_0 p7_1 p7_2 q0_7_0 q1_7_0 q2_7_0 q3_7_0 q4_7_0 q5_7_0 q6_7_0 q7_7_0 q8_7_0 hm_7_0; exfalso; omega
    | succ n ih_7_0 =>
      intro p7_0 p7_1 p7_2 q0_7_0 q1_7_0 q2_7_0 q3_7_0 q4_7_0 q5_7_0 q6_7_0 q7_7_0 q8_7_0 hm_7_0
      have J66_0 : ∀ (p66_0 p66_1 p66_2 p66_3 : Int), 0 ≤ p66_0 → p66_0 ≤ 11 → 0 ≤ p66_1 → p66_1 ≤ 11 → p7_2 ≤ 10 → 1 ≤ p66_2 → p66_2 ≤ 11 → 0 ≤ p66_3 → p66_3 ≤ 11 → p7_0 ≤ 10 → p66_0 ≤ p66_1 → p66_0 ≤ p66_2 → p66_0 ≤ (p66_3 + 10) → p66_0 ≤ (p7_2 + 1) → p66_0 ≤ (p7_0 + 1) → p66_0 ≤ (p7_1 + 1) → p7_2 ≤ (p66_2 - 1) → p7_0 ≤ p66_0 → p7_0 ≤ p66_1 → p7_0 ≤ (p66_2 - 1) → p7_0 ≤ p7_2 → p7_0 ≤ p7_1 → p7_1 ≤ p66_1 → p7_1 ≤ (p66_2 + 9) → p7_1 ≤ (p7_2 + 10) → h x0 0 = p66_2 → h x1 0 = p66_3 → wp l rho (d + 1) 134 66 [(2, x0), (2, x1), (0, p66_0), (0, p66_1), (0, p7_2)] [] h Q := by
        intro p66_0 p66_1 p66_2 p66_3 q0_66_0 q1_66_0 q2_66_0 q3_66_0 q4_66_0 q5_66_0 q6_66_0 q7_66_0 q8_66_0 q9_66_0 q10_66_0 q11_66_0 q12_66_0 q13_66_0 q14_66_0 q15_66_0 q16_66_0 q17_66_0 q18_66_0 q19_66_0 q20_66_0 q21_66_0 q22_66_0 q23_66_0 q24_66_0 ca0_0_66_0 ca1_0_66_0
        refine w_iinc (ls' := [(2, x0), (2, x1), (0, p66_0), (0, p66_1), (0, (p7_2 + 1))]) gz_134_66 rfl gm_134 rfl rfl rfl ⟨by omega, by omega⟩ ?_
        refine w_goto (t := 7) gz_134_69 rfl ?_
        exact ih_7_0 (p66_0) (p66_1) ((p7_2 + 1)) (by omega) (by omega) (by omega) (by omega) (by omega) (by omega) (by omega) (by omega) (by omega) (by omega)
      have J41_0 : ∀ (p41_0 p41_1 p41_2 : Int), p7_0 ≤ 10 → 0 ≤ p41_0 → p41_0 ≤ 11 → p7_2 ≤ 10 → 1 ≤ p41_1 → p41_1 ≤ 11 → 0 ≤ p41_2 → p41_2 ≤ 11 → p7_0 ≤ p41_0 → p7_0 ≤ (p41_1 - 1) → p7_0 ≤ p7_2 → p7_0 ≤ p7_1 → p7_2 ≤ (p41_1 - 1) → p7_1 ≤ p41_0 → p7_1 ≤ (p41_1 + 9) → p7_1 ≤ (p7_2 + 10) → h x0 0 = p41_1 → h x1 0 = p41_2 → wp l rho (d + 1) 134 41 [(2, x0), (2, x1), (0, p7_0), (0, p41_0), (0, p7_2)] [] h Q := by
        intro p41_0 p41_1 p41_2 q0_41_0 q1_41_0 q2_41_0 q3_41_0 q4_41_0 q5_41_0 q6_41_0 q7_41_0 q8_41_0 q9_41_0 q10_41_0 q11_41_0 q12_41_0 q13_41_0 q14_41_0 q15_41_0 ca0_0_41_0 ca1_0_41_0
        refine w_iload_n gz_134_41 rfl ?_
        refine w_aload_n gz_134_42 rfl ?_
        refine v_getI (j := 0) gz_134_43 rfl t1 rd_8 rfl (fun v1 ev1 pv1 qv1 => ?_)
        have zv1 := ev1.trans ca1_0_41_0
        refine w_icge (t := 66) gz_134_46 rfl (fun u2 => ?_) (fun u2 => ?_)
        ·
          exact J66_0 (p7_0) (p41_0) (p41_1) (v1) (by omega) (by omega) (by omega) (by omega) (by omega) (by omega) (by omega) (by omega) (by omega) (by omega) (by omega) (by omega) (by omega) (by omega) (by omega) (by omega) (by omega) (by omega) (by omega) (by omega) (by omega) (by omega) (by omega) (by omega) (by omega) (ca0_0_41_0.trans (by omega)) (ev1.symm.trans (by omega))
        ·
          refine w_aload_n gz_134_49 rfl ?_
          refine w_iload gz_134_50 rfl ?_
          refine w_aload_n gz_134_52 rfl ?_
          refine w_iload_n gz_134_53 rfl ?_
          refine w_inv (k := 2) (as := [(0, p41_0), (2, x1), (0, p7_2)]) (r := []) (x := x0) (ls0 := [(2, x0), (0, p7_2), (2, x1), (0, p41_0), (9, 0), (9, 0)]) gz_134_54 gm_80 rfl t0 rd_8 rfl rfl rfl rfl rfl (c55_View_compare (d := d) (x0 := x0) (x1 := p7_2) (x2 := x1) (x3 := p41_0) t0 (by omega) (by omega) t1 (by omega) (by omega) ?_ (fun v3 w4 w5 => ?_))
          ·
            show wp l rho (d + 1) 134 57 [(2, x0), (2, x1), (0, p7_0), (0, p41_0), (0, p7_2)] [(0, 0)] h Q
            refine w_ifne (t := 66) gz_134_57 rfl (fun u6 => by exfalso; omega) (fun u6 => ?_)
            refine w_iinc (ls' := [(2, x0), (2, x1), (0, (p7_0 + 1)), (0, p41_0), (0, p7_2)]) gz_134_60 rfl gm_134 rfl rfl rfl ⟨by omega, by omega⟩ ?_
            refine w_iinc (ls' := [(2, x0), (2, x1), (0, (p7_0 + 1)), (0, (p41_0 + 1)), (0, p7_2)]) gz_134_63 rfl gm_134 rfl rfl rfl ⟨by omega, by omega⟩ ?_
            exact J66_0 ((p7_0 + 1)) ((p41_0 + 1)) (p41_1) (v1) (by omega) (by omega) (by omega) (by omega) (by omega) (by omega) (by omega) (by omega) (by omega) (by omega) (by omega) (by omega) (by omega) (by omega) (by omega) (by omega) (by omega) (by omega) (by omega) (by omega) (by omega) (by omega) (by omega) (by omega) (by omega) (ca0_0_41_0.trans (by omega)) (ev1.symm.trans (by omega))
          ·
            show wp l rho (d + 1) 134 57 [(2, x0), (2, x1), (0, p7_0), (0, p41_0), (0, p7_2)] [(0, v3)] h Q
            refine w_ifne (t := 66) gz_134_57 rfl (fun u7 => ?_) (fun u7 => ?_)
            ·
              exact J66_0 (p7_0) (p41_0) (p41_1) (v1) (by omega) (by omega) (by omega) (by omega) (by omega) (by omega) (by omega) (by omega) (by omega) (by omega) (by omega) (by omega) (by omega) (by omega) (by omega) (by omega) (by omega) (by omega) (by omega) (by omega) (by omega) (by omega) (by omega) (by omega) (by omega) (ca0_0_41_0.trans (by omega)) (ev1.symm.trans (by omega))
            ·
              refine w_iinc (ls' := [(2, x0), (2, x1), (0, (p7_0 + 1)), (0, p41_0), (0, p7_2)]) gz_134_60 rfl gm_134 rfl rfl rfl ⟨by omega, by omega⟩ ?_
              refine w_iinc (ls' := [(2, x0), (2, x1), (0, (p7_0 + 1)), (0, (p41_0 + 1)), (0, p7_2)]) gz_134_63 rfl gm_134 rfl rfl rfl ⟨by omega, by omega⟩ ?_
              exact J66_0 ((p7_0 + 1)) ((p41_0 + 1)) (p41_1) (v1) (by omega) (by omega) (by omega) (by omega) (by omega) (by omega) (by omega) (by omega) (by omega) (by omega) (by omega) (by omega) (by omega) (by omega) (by omega) (by omega) (by omega) (by omega) (by omega) (by omega) (by omega) (by omega) (by omega) (by omega) (by omega) (ca0_0_41_0.trans (by omega)) (ev1.symm.trans (by omega))
      have J16_0 : ∀ (n : Nat) (p16_0 p16_1 : Int), p7_0 ≤ 10 → 0 ≤ p16_0 → p16_0 ≤ 11 → p7_2 ≤ 10 → 1 ≤ p16_1 → p16_1 ≤ 11 → p7_0 ≤ p16_0 → p7_0 ≤ (p16_1 - 1) → p7_0 ≤ p7_2 → p7_0 ≤ p7_1 → p7_2 ≤ (p16_1 - 1) → p7_1 ≤ p16_0 → p7_1 ≤ (p16_1 + 9) → p7_1 ≤ (p7_2 + 10) → h x0 0 = p16_1 → 12 - p16_0 ≤ (n : Int) → wp l rho (d + 1) 134 16 [(2, x0), (2, x1), (0, p7_0), (0, p16_0), (0, p7_2)] [] h Q := by
        intro n
        induction n with
        | zero => intro p16_0 p16_1 q0_16_0 q1_16_0 q2_16_0 q3_16_0 q4_16_0 q5_16_0 q6_16_0 q7_16_0 q8_16_0 q9_16_0 q10_16_0 q11_16_0 q12_16_0 q13_16_0 ca0_0_16_0 hm_16_0; exfalso; omega
        | succ n ih_16_0 =>
          intro p16_0 p16_1 q0_16_0 q1_16_0 q2_16_0 q3_16_0 q4_16_0 q5_16_0 q6_16_0 q7_16_0 q8_16_0 q9_16_0 q10_16_0 q11_16_0 q12_16_0 q13_16_0 ca0_0_16_0 hm_16_0
          refine w_iload_n gz_134_16 rfl ?_
          refine w_aload_n gz_134_17 rfl ?_
          refine v_getI (j := 0) gz_134_18 rfl t1 rd_8 rfl (fun v8 ev8 pv8 qv8 => ?_)
          refine w_icge (t := 41) gz_134_21 rfl (fun u9 => ?_) (fun u9 => ?_)
          ·
            exact J41_0 (p16_0) (p16_1) (v8) (by omega) (by omega) (by omega) (by omega) (by omega) (by omega) (by omega) (by omega) (by omega) (by omega) (by omega) (by omega) (by omega) (by omega) (by omega) (by omega) (ca0_0_16_0.trans (by omega)) (ev8.symm.trans (by omega))
          ·
            refine w_aload_n gz_134_24 rfl ?_
            refine w_iload gz_134_25 rfl ?_
            refine w_aload_n gz_134_27 rfl ?_
            refine w_iload_n gz_134_28 rfl ?_
            refine w_inv (k := 2) (as := [(0, p16_0), (2, x1), (0, p7_2)]) (r := []) (x := x0) (ls0 := [(2, x0), (0, p7_2), (2, x1), (0, p16_0), (9, 0), (9, 0)]) gz_134_29 gm_80 rfl t0 rd_8 rfl rfl rfl rfl rfl (c55_View_compare (d := d) (x0 := x0) (x1 := p7_2) (x2 := x1) (x3 := p16_0) t0 (by omega) (by omega) t1 (by omega) (by omega) ?_ (fun v10 w11 w12 => ?_))
            ·
              show wp l rho (d + 1) 134 32 [(2, x0), (2, x1), (0, p7_0), (0, p16_0), (0, p7_2)] [(0, 0)] h Q
              refine w_ifle (t := 41) gz_134_32 rfl (fun u13 => ?_) (fun u13 => by exfalso; omega)
              exact J41_0 (p16_0) (p16_1) (v8) (by omega) (by omega) (by omega) (by omega) (by omega) (by omega) (by omega) (by omega) (by omega) (by omega) (by omega) (by omega) (by omega) (by omega) (by omega) (by omega) (ca0_0_16_0.trans (by omega)) (ev8.symm.trans (by omega))
            ·
              show wp l rho (d + 1) 134 32 [(2, x0), (2, x1), (0, p7_0), (0, p16_0), (0, p7_2)] [(0, v10)] h Q
              refine w_ifle (t := 41) gz_134_32 rfl (fun u14 => ?_) (fun u14 => ?_)
              ·
                exact J41_0 (p16_0) (p16_1) (v8) (by omega) (by omega) (by omega) (by omega) (by omega) (by omega) (by omega) (by omega) (by omega) (by omega) (by omega) (by omega) (by omega) (by omega) (by omega) (by omega) (ca0_0_16_0.trans (by omega)) (ev8.symm.trans (by omega))
              ·
                refine w_iinc (ls' := [(2, x0), (2, x1), (0, p7_0), (0, (p16_0 + 1)), (0, p7_2)]) gz_134_35 rfl gm_134 rfl rfl rfl ⟨by omega, by omega⟩ ?_
                refine w_goto (t := 16) gz_134_38 rfl ?_
                exact ih_16_0 ((p16_0 + 1)) (p16_1) (by omega) (by omega) (by omega) (by omega) (by omega) (by omega) (by omega) (by omega) (by omega) (by omega) (by omega) (by omega) (by omega) (by omega) (ca0_0_16_0.trans (by omega)) (by omega)
      refine w_iload gz_134_7 rfl ?_
      refine w_aload_n gz_134_9 rfl ?_
      refine v_getI (j := 0) gz_134_10 rfl t0 rd_8 rfl (fun v15 ev15 pv15 qv15 => ?_)
      refine w_icge (t := 72) gz_134_13 rfl (fun u16 => ?_) (fun u16 => ?_)
      ·
        refine w_iload_n gz_134_72 rfl ?_
        exact w_iret gz_134_73 gm_134 (k1 (p7_0) (by omega) (by omega))
      ·
        exact J16_0 12 (p7_1) (v15) (by omega) (by omega) (by omega) (by omega) (by omega) (by omega) (by omega) (by omega) (by omega) (by omega) (by omega) (by omega) (by omega) (by omega) (ev15.symm.trans (by omega)) (by omega)
  refine w_iconst gz_134_0 (by decide) ?_
  refine w_istore_n (ls' := [(2, x0), (2, x1), (0, 0), (9, 0), (9, 0)]) gz_134_1 gm_134 rfl rfl rfl ?_
  refine w_iconst gz_134_2 (by decide) ?_
  refine w_istore_n (ls' := [(2, x0), (2, x1), (0, 0), (0, 0), (9, 0)]) gz_134_3 gm_134 rfl rfl rfl ?_
  refine w_iconst gz_134_4 (by decide) ?_
  refine w_istore (ls' := [(2, x0), (2, x1), (0, 0), (0, 0), (0, 0)]) gz_134_5 gm_134 rfl rfl rfl ?_
  exact J7_0 12 (0) (0) (0) (by omega) (by omega) (by omega) (by omega) (by omega) (by omega) (by omega) (by omega) (by omega) (by omega)
theorem is_9 : my_is 31 9 := by unfold my_is; decide +kernel
theorem gz_135_0 : mz_pg 135 0 = some (.aload_n 0, 0, 0, 0) := by decide +kernel
theorem gz_135_1 : mz_pg 135 1 = some (.getfield 10, 9, 0, 528) := by decide +kernel
theorem gz_135_4 : mz_pg 135 4 = some (.iload_n 1, 0, 0, 0) := by decide +kernel
theorem gz_135_5 : mz_pg 135 5 = some (.invokevirtual 88, 1, 13, 578) := by decide +kernel
theorem gz_135_8 : mz_pg 135 8 = some (.ifCond .eq 31, 0, 0, 0) := by decide +kernel
theorem gz_135_11 : mz_pg 135 11 = some (.iload_n 2, 0, 0, 0) := by decide +kernel
theorem gz_135_12 : mz_pg 135 12 = some (.ifCond .lt 27, 0, 0, 0) := by decide +kernel
theorem gz_135_15 : mz_pg 135 15 = some (.iload_n 2, 0, 0, 0) := by decide +kernel
theorem gz_135_16 : mz_pg 135 16 = some (.iconst 1, 0, 0, 0) := by decide +kernel
theorem gz_135_17 : mz_pg 135 17 = some (.aload_n 0, 0, 0, 0) := by decide +kernel
theorem gz_135_18 : mz_pg 135 18 = some (.getfield 19, 9, 1, 529) := by decide +kernel
theorem gz_135_21 : mz_pg 135 21 = some (.getfield 95, 6, 1, 183) := by decide +kernel
theorem gz_135_24 : mz_pg 135 24 = some (.iload_n 1, 0, 0, 0) := by decide +kernel
theorem gz_135_25 : mz_pg 135 25 = some (.iaload, 0, 0, 0) := by decide +kernel
theorem gz_135_26 : mz_pg 135 26 = some (.ishl, 0, 0, 0) := by decide +kernel
theorem gz_135_27 : mz_pg 135 27 = some (.if_icmp .ge 12, 0, 0, 0) := by decide +kernel
theorem gz_135_30 : mz_pg 135 30 = some (.iload_n 3, 0, 0, 0) := by decide +kernel
theorem gz_135_31 : mz_pg 135 31 = some (.ifCond .lt 8, 0, 0, 0) := by decide +kernel
theorem gz_135_34 : mz_pg 135 34 = some (.iload_n 3, 0, 0, 0) := by decide +kernel
theorem gz_135_35 : mz_pg 135 35 = some (.iconst 3, 0, 0, 0) := by decide +kernel
theorem gz_135_36 : mz_pg 135 36 = some (.if_icmp .le 5, 0, 0, 0) := by decide +kernel
theorem gz_135_39 : mz_pg 135 39 = some (.iconst (-1), 0, 0, 0) := by decide +kernel
theorem gz_135_40 : mz_pg 135 40 = some (.ireturn, 0, 0, 0) := by decide +kernel
theorem gz_135_41 : mz_pg 135 41 = some (.aload_n 0, 0, 0, 0) := by decide +kernel
theorem gz_135_42 : mz_pg 135 42 = some (.getfield 68, 9, 10, 538) := by decide +kernel
theorem gz_135_45 : mz_pg 135 45 = some (.aload_n 0, 0, 0, 0) := by decide +kernel
theorem gz_135_46 : mz_pg 135 46 = some (.getfield 19, 9, 1, 529) := by decide +kernel
theorem gz_135_49 : mz_pg 135 49 = some (.iload_n 1, 0, 0, 0) := by decide +kernel
theorem gz_135_50 : mz_pg 135 50 = some (.aload_n 0, 0, 0, 0) := by decide +kernel
theorem gz_135_51 : mz_pg 135 51 = some (.getfield 19, 9, 1, 529) := by decide +kernel
theorem gz_135_54 : mz_pg 135 54 = some (.iload_n 1, 0, 0, 0) := by decide +kernel
theorem gz_135_55 : mz_pg 135 55 = some (.iload_n 2, 0, 0, 0) := by decide +kernel
theorem gz_135_56 : mz_pg 135 56 = some (.invokevirtual 311, 1, 121, 1104) := by decide +kernel
theorem gz_135_59 : mz_pg 135 59 = some (.invokevirtual 314, 1, 136, 1105) := by decide +kernel
theorem gz_135_62 : mz_pg 135 62 = some (.iload_n 3, 0, 0, 0) := by decide +kernel
theorem gz_135_63 : mz_pg 135 63 = some (.tableswitch 49 0 2 #[25, 33, 41], 0, 0, 0) := by decide +kernel
theorem gz_135_88 : mz_pg 135 88 = some (.aload_n 0, 0, 0, 0) := by decide +kernel
theorem gz_135_89 : mz_pg 135 89 = some (.getfield 68, 9, 10, 538) := by decide +kernel
theorem gz_135_92 : mz_pg 135 92 = some (.getfield 318, 1, 3, 459) := by decide +kernel
theorem gz_135_95 : mz_pg 135 95 = some (.ireturn, 0, 0, 0) := by decide +kernel
theorem gz_135_96 : mz_pg 135 96 = some (.aload_n 0, 0, 0, 0) := by decide +kernel
theorem gz_135_97 : mz_pg 135 97 = some (.getfield 68, 9, 10, 538) := by decide +kernel
theorem gz_135_100 : mz_pg 135 100 = some (.getfield 321, 1, 4, 461) := by decide +kernel
theorem gz_135_103 : mz_pg 135 103 = some (.ireturn, 0, 0, 0) := by decide +kernel
theorem gz_135_104 : mz_pg 135 104 = some (.aload_n 0, 0, 0, 0) := by decide +kernel
theorem gz_135_105 : mz_pg 135 105 = some (.getfield 68, 9, 10, 538) := by decide +kernel
theorem gz_135_108 : mz_pg 135 108 = some (.getfield 324, 1, 5, 463) := by decide +kernel
theorem gz_135_111 : mz_pg 135 111 = some (.ireturn, 0, 0, 0) := by decide +kernel
theorem gz_135_112 : mz_pg 135 112 = some (.aload_n 0, 0, 0, 0) := by decide +kernel
theorem gz_135_113 : mz_pg 135 113 = some (.getfield 68, 9, 10, 538) := by decide +kernel
theorem gz_135_116 : mz_pg 135 116 = some (.getfield 327, 1, 6, 465) := by decide +kernel
theorem gz_135_119 : mz_pg 135 119 = some (.ireturn, 0, 0, 0) := by decide +kernel
theorem gm_135 : my_mm 135 4 (some .int) 3 9 := by unfold my_mm; decide +kernel
theorem c64_ThroughWindow_cuts {l : Launch} {rho : Nat → Int32} {d : Nat} {h : my_H} {Q : my_H → my_V → Prop} {x1 x2 x3 : Int} (k0 : ∀ (h' : my_H), my_fr [(1, 3), (1, 4), (1, 5), (1, 6)] h h' → Q h' (0, (-1))) (k1 : ∀ (h' : my_H), my_fr [(1, 3), (1, 4), (1, 5), (1, 6)] h h' → 0 ≤ x1 → x1 ≤ 2 → 0 ≤ x2 → x2 ≤ 2147483646 → 0 ≤ x3 → x3 ≤ 0 → Q h' (0, 0)) (k2 : ∀ (h' : my_H) (y : Int), my_fr [(1, 3), (1, 4), (1, 5), (1, 6)] h h' → 0 ≤ x1 → x1 ≤ 2 → 0 ≤ x2 → x2 ≤ 2147483646 → 0 ≤ x3 → x3 ≤ 3 → Q h' (0, y)) : wp l rho (d + 3) 135 0 [(2, 0), (0, x1), (0, x2), (0, x3)] [] h Q := by
  refine w_aload_n gz_135_0 rfl ?_
  refine w_getX (v := 1) gz_135_1 is_0 rd_9 rfl (by decide) rfl ?_
  refine w_iload_n gz_135_4 rfl ?_
  refine w_inv (k := 0) (as := [(0, x1)]) (r := []) (x := 1) (ls0 := [(2, 1), (0, x1)]) gz_135_5 gm_13 rfl is_1 rd_3 rfl rfl rfl rfl rfl ?_
  refine w_iload_n gz_13_0 rfl ?_
  refine w_iflt (t := 22) gz_13_1 rfl (fun u2 => ?_) (fun u2 => ?_)
  ·
    refine w_iconst gz_13_22 (by decide) ?_
    refine w_bret gz_13_23 gm_13 (by omega) (by omega) ?_
    show wp l rho (d + 3) 135 8 [(2, 0), (0, x1), (0, x2), (0, x3)] [(0, 0)] h Q
    refine w_ifeq (t := 39) gz_135_8 rfl (fun u3 => ?_) (fun u3 => by exfalso; omega)
    refine w_iconst gz_135_39 (by decide) ?_
    exact w_iret gz_135_40 gm_135 (k0 h (my_fr.rf))
  ·
    refine w_iload_n gz_13_4 rfl ?_
    refine w_iconst gz_13_5 (by decide) ?_
    refine w_icge (t := 22) gz_13_6 rfl (fun u4 => ?_) (fun u4 => ?_)
    ·
      refine w_iconst gz_13_22 (by decide) ?_
      refine w_bret gz_13_23 gm_13 (by omega) (by omega) ?_
      show wp l rho (d + 3) 135 8 [(2, 0), (0, x1), (0, x2), (0, x3)] [(0, 0)] h Q
      refine w_ifeq (t := 39) gz_135_8 rfl (fun u5 => ?_) (fun u5 => by exfalso; omega)
      refine w_iconst gz_135_39 (by decide) ?_
      exact w_iret gz_135_40 gm_135 (k0 h (my_fr.rf))
    ·
      refine w_aload_n gz_13_9 rfl ?_
      refine w_getX (v := 2) gz_13_10 is_1 rd_3 rfl (by decide) rfl ?_
      refine w_iload_n gz_13_13 rfl ?_
      refine w_iald gz_13_14 is_2 rd_25 (by omega) (by omega) (fun v7 ev7 pv7 qv7 => ?_)
      refine w_ifle (t := 22) gz_13_15 rfl (fun u8 => ?_) (fun u8 => ?_)
      ·
        refine w_iconst gz_13_22 (by decide) ?_
        refine w_bret gz_13_23 gm_13 (by omega) (by omega) ?_
        show wp l rho (d + 3) 135 8 [(2, 0), (0, x1), (0, x2), (0, x3)] [(0, 0)] h Q
        refine w_ifeq (t := 39) gz_135_8 rfl (fun u9 => ?_) (fun u9 => by exfalso; omega)
        refine w_iconst gz_135_39 (by decide) ?_
        exact w_iret gz_135_40 gm_135 (k0 h (my_fr.rf))
      ·
        refine w_iconst gz_13_18 (by decide) ?_
        refine w_goto (t := 23) gz_13_19 rfl ?_
        refine w_bret gz_13_23 gm_13 (by omega) (by omega) ?_
        show wp l rho (d + 3) 135 8 [(2, 0), (0, x1), (0, x2), (0, x3)] [(0, 1)] h Q
        refine w_ifeq (t := 39) gz_135_8 rfl (fun u10 => by exfalso; omega) (fun u10 => ?_)
        refine w_iload_n gz_135_11 rfl ?_
        refine w_iflt (t := 39) gz_135_12 rfl (fun u11 => ?_) (fun u11 => ?_)
        ·
          refine w_iconst gz_135_39 (by decide) ?_
          exact w_iret gz_135_40 gm_135 (k0 h (my_fr.rf))
        ·
          refine w_iload_n gz_135_15 rfl ?_
          refine w_iconst gz_135_16 (by decide) ?_
          refine w_aload_n gz_135_17 rfl ?_
          refine w_getX (v := 7) gz_135_18 is_0 rd_9 rfl (by decide) rfl ?_
          refine w_getX (v := 9) gz_135_21 is_7 rd_6 rfl (by decide) rfl ?_
          refine w_iload_n gz_135_24 rfl ?_
          refine w_iald gz_135_25 is_9 rd_31 (by omega) (by omega) (fun v14 ev14 pv14 qv14 => ?_)
          refine w_ianyL gz_135_26 (fun v15 pv15 qv15 => ?_)
          refine w_icge (t := 39) gz_135_27 rfl (fun u16 => ?_) (fun u16 => ?_)
          ·
            refine w_iconst gz_135_39 (by decide) ?_
            exact w_iret gz_135_40 gm_135 (k0 h (my_fr.rf))
          ·
            refine w_iload_n gz_135_30 rfl ?_
            refine w_iflt (t := 39) gz_135_31 rfl (fun u17 => ?_) (fun u17 => ?_)
            ·
              refine w_iconst gz_135_39 (by decide) ?_
              exact w_iret gz_135_40 gm_135 (k0 h (my_fr.rf))
            ·
              refine w_iload_n gz_135_34 rfl ?_
              refine w_iconst gz_135_35 (by decide) ?_
              refine w_icle (t := 41) gz_135_36 rfl (fun u18 => ?_) (fun u18 => ?_)
              ·
                refine w_aload_n gz_135_41 rfl ?_
                refine w_getX (v := 114) gz_135_42 is_0 rd_9 rfl (by decide) rfl ?_
                refine w_aload_n gz_135_45 rfl ?_
                refine w_getX (v := 7) gz_135_46 is_0 rd_9 rfl (by decide) rfl ?_
                refine w_iload_n gz_135_49 rfl ?_
                refine w_aload_n gz_135_50 rfl ?_
                refine w_getX (v := 7) gz_135_51 is_0 rd_9 rfl (by decide) rfl ?_
                refine w_iload_n gz_135_54 rfl ?_
                refine w_iload_n gz_135_55 rfl ?_
                refine w_inv (k := 3) (as := [(0, x2), (0, x1)]) (r := [(0, x1), (2, 7), (2, 114)]) (x := 7) (ls0 := [(2, 7), (0, x1), (0, x2), (9, 0), (9, 0), (9, 0)]) gz_135_56 gm_121 rfl is_7 rd_6 rfl rfl rfl rfl rfl (c4_Rows_keysOf (d := (d + 1)) (x0 := 7) (x1 := x1) (x2 := x2) is_7 (by omega) (by omega) (by omega) (by omega) (fun v22 => ?_))
                show wp l rho (d + 3) 135 59 [(2, 0), (0, x1), (0, x2), (0, x3)] [(0, v22), (0, x1), (2, 7), (2, 114)] h Q
                refine w_inv (k := 3) (as := [(0, v22), (0, x1), (2, 7)]) (r := []) (x := 114) (ls0 := [(2, 114), (2, 7), (0, x1), (0, v22), (9, 0), (9, 0), (9, 0)]) gz_135_59 gm_136 rfl is_114 rd_1 rfl rfl rfl rfl rfl (c9_Cutter_findCuts (d := d) (x1 := 7) (x2 := x1) (x3 := v22) is_7 (by omega) (by omega) (fun h23 frh23 w24 w25 w26 w27 w28 w29 => ?_))
                have gh23 : my_fr [(1, 3), (1, 4), (1, 5), (1, 6)] h h23 := my_fr.tr my_fr.rf (frh23.mo rfl)
                show wp l rho (d + 3) 135 62 [(2, 0), (0, x1), (0, x2), (0, x3)] [] h23 Q
                refine w_iload_n gz_135_62 rfl ?_
                by_cases u30 : x3 = 0
                ·
                  refine w_tswE (t := 88) gz_135_63 u30 (by decide) (by decide) rfl rfl ?_
                  refine w_aload_n gz_135_88 rfl ?_
                  refine w_getX (v := 114) gz_135_89 is_0 rd_9 rfl (by decide) rfl ?_
                  refine v_getI (j := 3) gz_135_92 rfl is_114 rd_1 rfl (fun v32 ev32 pv32 qv32 => ?_)
                  exact w_iret gz_135_95 gm_135 (k2 h23 (v32) (gh23) (by omega) (by omega) (by omega) (by omega) (by omega) (by omega))
                ·
                  by_cases u33 : x3 = 1
                  ·
                    refine w_tswE (t := 96) gz_135_63 u33 (by decide) (by decide) rfl rfl ?_
                    refine w_aload_n gz_135_96 rfl ?_
                    refine w_getX (v := 114) gz_135_97 is_0 rd_9 rfl (by decide) rfl ?_
                    refine v_getI (j := 4) gz_135_100 rfl is_114 rd_1 rfl (fun v35 ev35 pv35 qv35 => ?_)
                    have zv35 := ev35.trans (rfl : h23 114 4 = h23 114 4)
                    exact w_iret gz_135_103 gm_135 (k2 h23 (v35) (gh23) (by omega) (by omega) (by omega) (by omega) (by omega) (by omega))
                  ·
                    by_cases u36 : x3 = 2
                    ·
                      refine w_tswE (t := 104) gz_135_63 u36 (by decide) (by decide) rfl rfl ?_
                      refine w_aload_n gz_135_104 rfl ?_
                      refine w_getX (v := 114) gz_135_105 is_0 rd_9 rfl (by decide) rfl ?_
                      refine v_getI (j := 5) gz_135_108 rfl is_114 rd_1 rfl (fun v38 ev38 pv38 qv38 => ?_)
                      have zv38 := ev38.trans (rfl : h23 114 5 = h23 114 5)
                      exact w_iret gz_135_111 gm_135 (k2 h23 (v38) (gh23) (by omega) (by omega) (by omega) (by omega) (by omega) (by omega))
                    ·
                      refine w_tswD (t := 112) gz_135_63 (by omega) rfl ?_
                      refine w_aload_n gz_135_112 rfl ?_
                      refine w_getX (v := 114) gz_135_113 is_0 rd_9 rfl (by decide) rfl ?_
                      refine v_getI (j := 6) gz_135_116 rfl is_114 rd_1 rfl (fun v40 ev40 pv40 qv40 => ?_)
                      have zv40 := ev40.trans (rfl : h23 114 6 = h23 114 6)
                      exact w_iret gz_135_119 gm_135 (k2 h23 (v40) (gh23) (by omega) (by omega) (by omega) (by omega) (by omega) (by omega))
              ·
                refine w_iconst gz_135_39 (by decide) ?_
                exact w_iret gz_135_40 gm_135 (k0 h (my_fr.rf))
theorem gz_137_0 : mz_pg 137 0 = some (.aload_n 0, 0, 0, 0) := by decide +kernel
theorem gz_137_1 : mz_pg 137 1 = some (.getfield 10, 9, 0, 528) := by decide +kernel
theorem gz_137_4 : mz_pg 137 4 = some (.iload_n 1, 0, 0, 0) := by decide +kernel
theorem gz_137_5 : mz_pg 137 5 = some (.iload_n 2, 0, 0, 0) := by decide +kernel
theorem gz_137_6 : mz_pg 137 6 = some (.invokevirtual 118, 1, 27, 634) := by decide +kernel
theorem gz_137_9 : mz_pg 137 9 = some (.ifCond .eq 12, 0, 0, 0) := by decide +kernel
theorem gz_137_12 : mz_pg 137 12 = some (.iload_n 3, 0, 0, 0) := by decide +kernel
theorem gz_137_13 : mz_pg 137 13 = some (.iload 4, 0, 0, 0) := by decide +kernel
theorem gz_137_15 : mz_pg 137 15 = some (.invokestatic 119, 1, 28, 639) := by decide +kernel
theorem gz_137_18 : mz_pg 137 18 = some (.ifCond .ne 5, 0, 0, 0) := by decide +kernel
theorem gz_137_21 : mz_pg 137 21 = some (.iconst (-1), 0, 0, 0) := by decide +kernel
theorem gz_137_22 : mz_pg 137 22 = some (.ireturn, 0, 0, 0) := by decide +kernel
theorem gz_137_23 : mz_pg 137 23 = some (.aload_n 0, 0, 0, 0) := by decide +kernel
theorem gz_137_24 : mz_pg 137 24 = some (.getfield 19, 9, 1, 529) := by decide +kernel
theorem gz_137_27 : mz_pg 137 27 = some (.iload_n 1, 0, 0, 0) := by decide +kernel
theorem gz_137_28 : mz_pg 137 28 = some (.iload_n 2, 0, 0, 0) := by decide +kernel
theorem gz_137_29 : mz_pg 137 29 = some (.iload_n 3, 0, 0, 0) := by decide +kernel
theorem gz_137_30 : mz_pg 137 30 = some (.iload 4, 0, 0, 0) := by decide +kernel
theorem gz_137_32 : mz_pg 137 32 = some (.invokevirtual 122, 1, 20, 642) := by decide +kernel
theorem gz_137_35 : mz_pg 137 35 = some (.ireturn, 0, 0, 0) := by decide +kernel
theorem gm_137 : my_mm 137 5 (some .int) 4 9 := by unfold my_mm; decide +kernel
theorem c65_ThroughWindow_moves {l : Launch} {rho : Nat → Int32} {d : Nat} {h : my_H} {Q : my_H → my_V → Prop} {x1 x2 x3 x4 : Int} (k0 : Q h (0, (-1))) (k1 : ∀ (y : Int), 0 ≤ y → y ≤ 20 → 0 ≤ x1 → x1 ≤ 2 → 0 ≤ x2 → x2 ≤ 3 → 0 ≤ x3 → x3 ≤ 19 → 0 ≤ x4 → x4 ≤ 19 → Q h (0, y)) : wp l rho (d + 2) 137 0 [(2, 0), (0, x1), (0, x2), (0, x3), (0, x4)] [] h Q := by
  refine w_aload_n gz_137_0 rfl ?_
  refine w_getX (v := 1) gz_137_1 is_0 rd_9 rfl (by decide) rfl ?_
  refine w_iload_n gz_137_4 rfl ?_
  refine w_iload_n gz_137_5 rfl ?_
  refine w_inv (k := 0) (as := [(0, x2), (0, x1)]) (r := []) (x := 1) (ls0 := [(2, 1), (0, x1), (0, x2)]) gz_137_6 gm_27 rfl is_1 rd_3 rfl rfl rfl rfl rfl ?_
  refine w_aload_n gz_27_0 rfl ?_
  refine w_iload_n gz_27_1 rfl ?_
  refine w_inv (k := 0) (as := [(0, x1)]) (r := []) (x := 1) (ls0 := [(2, 1), (0, x1)]) gz_27_2 gm_13 rfl is_1 rd_3 rfl rfl rfl rfl rfl ?_
  refine w_iload_n gz_13_0 rfl ?_
  refine w_iflt (t := 22) gz_13_1 rfl (fun u2 => ?_) (fun u2 => ?_)
  ·
    refine w_iconst gz_13_22 (by decide) ?_
    refine w_bret gz_13_23 gm_13 (by omega) (by omega) ?_
    show wp l rho (d + 1) 27 5 [(2, 1), (0, x1), (0, x2)] [(0, 0)] h _
    refine w_ifeq (t := 26) gz_27_5 rfl (fun u3 => ?_) (fun u3 => by exfalso; omega)
    refine w_iconst gz_27_26 (by decide) ?_
    refine w_bret gz_27_27 gm_27 (by omega) (by omega) ?_
    show wp l rho (d + 2) 137 9 [(2, 0), (0, x1), (0, x2), (0, x3), (0, x4)] [(0, 0)] h Q
    refine w_ifeq (t := 21) gz_137_9 rfl (fun u4 => ?_) (fun u4 => by exfalso; omega)
    refine w_iconst gz_137_21 (by decide) ?_
    exact w_iret gz_137_22 gm_137 (k0 )
  ·
    refine w_iload_n gz_13_4 rfl ?_
    refine w_iconst gz_13_5 (by decide) ?_
    refine w_icge (t := 22) gz_13_6 rfl (fun u5 => ?_) (fun u5 => ?_)
    ·
      refine w_iconst gz_13_22 (by decide) ?_
      refine w_bret gz_13_23 gm_13 (by omega) (by omega) ?_
      show wp l rho (d + 1) 27 5 [(2, 1), (0, x1), (0, x2)] [(0, 0)] h _
      refine w_ifeq (t := 26) gz_27_5 rfl (fun u6 => ?_) (fun u6 => by exfalso; omega)
      refine w_iconst gz_27_26 (by decide) ?_
      refine w_bret gz_27_27 gm_27 (by omega) (by omega) ?_
      show wp l rho (d + 2) 137 9 [(2, 0), (0, x1), (0, x2), (0, x3), (0, x4)] [(0, 0)] h Q
      refine w_ifeq (t := 21) gz_137_9 rfl (fun u7 => ?_) (fun u7 => by exfalso; omega)
      refine w_iconst gz_137_21 (by decide) ?_
      exact w_iret gz_137_22 gm_137 (k0 )
    ·
      refine w_aload_n gz_13_9 rfl ?_
      refine w_getX (v := 2) gz_13_10 is_1 rd_3 rfl (by decide) rfl ?_
      refine w_iload_n gz_13_13 rfl ?_
      refine w_iald gz_13_14 is_2 rd_25 (by omega) (by omega) (fun v9 ev9 pv9 qv9 => ?_)
      refine w_ifle (t := 22) gz_13_15 rfl (fun u10 => ?_) (fun u10 => ?_)
      ·
        refine w_iconst gz_13_22 (by decide) ?_
        refine w_bret gz_13_23 gm_13 (by omega) (by omega) ?_
        show wp l rho (d + 1) 27 5 [(2, 1), (0, x1), (0, x2)] [(0, 0)] h _
        refine w_ifeq (t := 26) gz_27_5 rfl (fun u11 => ?_) (fun u11 => by exfalso; omega)
        refine w_iconst gz_27_26 (by decide) ?_
        refine w_bret gz_27_27 gm_27 (by omega) (by omega) ?_
        show wp l rho (d + 2) 137 9 [(2, 0), (0, x1), (0, x2), (0, x3), (0, x4)] [(0, 0)] h Q
        refine w_ifeq (t := 21) gz_137_9 rfl (fun u12 => ?_) (fun u12 => by exfalso; omega)
        refine w_iconst gz_137_21 (by decide) ?_
        exact w_iret gz_137_22 gm_137 (k0 )
      ·
        refine w_iconst gz_13_18 (by decide) ?_
        refine w_goto (t := 23) gz_13_19 rfl ?_
        refine w_bret gz_13_23 gm_13 (by omega) (by omega) ?_
        show wp l rho (d + 1) 27 5 [(2, 1), (0, x1), (0, x2)] [(0, 1)] h _
        refine w_ifeq (t := 26) gz_27_5 rfl (fun u13 => by exfalso; omega) (fun u13 => ?_)
        refine w_iload_n gz_27_8 rfl ?_
        refine w_iflt (t := 26) gz_27_9 rfl (fun u14 => ?_) (fun u14 => ?_)
        ·
          refine w_iconst gz_27_26 (by decide) ?_
          refine w_bret gz_27_27 gm_27 (by omega) (by omega) ?_
          show wp l rho (d + 2) 137 9 [(2, 0), (0, x1), (0, x2), (0, x3), (0, x4)] [(0, 0)] h Q
          refine w_ifeq (t := 21) gz_137_9 rfl (fun u15 => ?_) (fun u15 => by exfalso; omega)
          refine w_iconst gz_137_21 (by decide) ?_
          exact w_iret gz_137_22 gm_137 (k0 )
        ·
          refine w_iload_n gz_27_12 rfl ?_
          refine w_aload_n gz_27_13 rfl ?_
          refine w_getX (v := 2) gz_27_14 is_1 rd_3 rfl (by decide) rfl ?_
          refine w_iload_n gz_27_17 rfl ?_
          refine w_iald gz_27_18 is_2 rd_25 (by omega) (by omega) (fun v17 ev17 pv17 qv17 => ?_)
          have zv17 := ev17.trans ev9.symm
          refine w_icge (t := 26) gz_27_19 rfl (fun u18 => ?_) (fun u18 => ?_)
          ·
            refine w_iconst gz_27_26 (by decide) ?_
            refine w_bret gz_27_27 gm_27 (by omega) (by omega) ?_
            show wp l rho (d + 2) 137 9 [(2, 0), (0, x1), (0, x2), (0, x3), (0, x4)] [(0, 0)] h Q
            refine w_ifeq (t := 21) gz_137_9 rfl (fun u19 => ?_) (fun u19 => by exfalso; omega)
            refine w_iconst gz_137_21 (by decide) ?_
            exact w_iret gz_137_22 gm_137 (k0 )
          ·
            refine w_iconst gz_27_22 (by decide) ?_
            refine w_goto (t := 27) gz_27_23 rfl ?_
            refine w_bret gz_27_27 gm_27 (by omega) (by omega) ?_
            show wp l rho (d + 2) 137 9 [(2, 0), (0, x1), (0, x2), (0, x3), (0, x4)] [(0, 1)] h Q
            refine w_ifeq (t := 21) gz_137_9 rfl (fun u20 => by exfalso; omega) (fun u20 => ?_)
            refine w_iload_n gz_137_12 rfl ?_
            refine w_iload gz_137_13 rfl ?_
            refine w_inS (k := 0) (as := [(0, x4), (0, x3)]) (r := []) (ls0 := [(0, x3), (0, x4)]) gz_137_15 gm_28 rfl rfl rfl rfl rfl rfl ?_
            refine w_iload_n gz_28_0 rfl ?_
            refine w_iflt (t := 19) gz_28_1 rfl (fun u21 => ?_) (fun u21 => ?_)
            ·
              refine w_iconst gz_28_19 (by decide) ?_
              refine w_bret gz_28_20 gm_28 (by omega) (by omega) ?_
              show wp l rho (d + 2) 137 18 [(2, 0), (0, x1), (0, x2), (0, x3), (0, x4)] [(0, 0)] h Q
              refine w_ifne (t := 23) gz_137_18 rfl (fun u22 => by exfalso; omega) (fun u22 => ?_)
              refine w_iconst gz_137_21 (by decide) ?_
              exact w_iret gz_137_22 gm_137 (k0 )
            ·
              refine w_iload_n gz_28_4 rfl ?_
              refine w_iload_n gz_28_5 rfl ?_
              refine w_icgt (t := 19) gz_28_6 rfl (fun u23 => ?_) (fun u23 => ?_)
              ·
                refine w_iconst gz_28_19 (by decide) ?_
                refine w_bret gz_28_20 gm_28 (by omega) (by omega) ?_
                show wp l rho (d + 2) 137 18 [(2, 0), (0, x1), (0, x2), (0, x3), (0, x4)] [(0, 0)] h Q
                refine w_ifne (t := 23) gz_137_18 rfl (fun u24 => by exfalso; omega) (fun u24 => ?_)
                refine w_iconst gz_137_21 (by decide) ?_
                exact w_iret gz_137_22 gm_137 (k0 )
              ·
                refine w_iload_n gz_28_9 rfl ?_
                refine w_bipush gz_28_10 (by decide) ?_
                refine w_icge (t := 19) gz_28_12 rfl (fun u25 => ?_) (fun u25 => ?_)
                ·
                  refine w_iconst gz_28_19 (by decide) ?_
                  refine w_bret gz_28_20 gm_28 (by omega) (by omega) ?_
                  show wp l rho (d + 2) 137 18 [(2, 0), (0, x1), (0, x2), (0, x3), (0, x4)] [(0, 0)] h Q
                  refine w_ifne (t := 23) gz_137_18 rfl (fun u26 => by exfalso; omega) (fun u26 => ?_)
                  refine w_iconst gz_137_21 (by decide) ?_
                  exact w_iret gz_137_22 gm_137 (k0 )
                ·
                  refine w_iconst gz_28_15 (by decide) ?_
                  refine w_goto (t := 20) gz_28_16 rfl ?_
                  refine w_bret gz_28_20 gm_28 (by omega) (by omega) ?_
                  show wp l rho (d + 2) 137 18 [(2, 0), (0, x1), (0, x2), (0, x3), (0, x4)] [(0, 1)] h Q
                  refine w_ifne (t := 23) gz_137_18 rfl (fun u27 => ?_) (fun u27 => by exfalso; omega)
                  refine w_aload_n gz_137_23 rfl ?_
                  refine w_getX (v := 7) gz_137_24 is_0 rd_9 rfl (by decide) rfl ?_
                  refine w_iload_n gz_137_27 rfl ?_
                  refine w_iload_n gz_137_28 rfl ?_
                  refine w_iload_n gz_137_29 rfl ?_
                  refine w_iload gz_137_30 rfl ?_
                  refine w_inv (k := 3) (as := [(0, x4), (0, x3), (0, x2), (0, x1)]) (r := []) (x := 7) (ls0 := [(2, 7), (0, x1), (0, x2), (0, x3), (0, x4), (9, 0), (9, 0), (9, 0)]) gz_137_32 gm_20 rfl is_7 rd_6 rfl rfl rfl rfl rfl (c30_Rows_outside (d := d) (x0 := 7) (x1 := x1) (x2 := x2) (x3 := x3) (x4 := x4) is_7 (by omega) (by omega) (by omega) (by omega) (by omega) (by omega) (by omega) (by omega) (fun v29 w30 w31 => ?_))
                  show wp l rho (d + 2) 137 35 [(2, 0), (0, x1), (0, x2), (0, x3), (0, x4)] [(0, v29)] h Q
                  exact w_iret gz_137_35 gm_137 (k1 (v29) (by omega) (by omega) (by omega) (by omega) (by omega) (by omega) (by omega) (by omega) (by omega) (by omega))
theorem gz_139_0 : mz_pg 139 0 = some (.iload_n 1, 0, 0, 0) := by decide +kernel
theorem gz_139_1 : mz_pg 139 1 = some (.ifCond .lt 33, 0, 0, 0) := by decide +kernel
theorem gz_139_4 : mz_pg 139 4 = some (.iload_n 1, 0, 0, 0) := by decide +kernel
theorem gz_139_5 : mz_pg 139 5 = some (.iconst 3, 0, 0, 0) := by decide +kernel
theorem gz_139_6 : mz_pg 139 6 = some (.if_icmp .ge 28, 0, 0, 0) := by decide +kernel
theorem gz_139_9 : mz_pg 139 9 = some (.aload_n 0, 0, 0, 0) := by decide +kernel
theorem gz_139_10 : mz_pg 139 10 = some (.getfield 10, 9, 0, 528) := by decide +kernel
theorem gz_139_13 : mz_pg 139 13 = some (.iload_n 1, 0, 0, 0) := by decide +kernel
theorem gz_139_14 : mz_pg 139 14 = some (.invokevirtual 88, 1, 13, 578) := by decide +kernel
theorem gz_139_17 : mz_pg 139 17 = some (.ifCond .eq 15, 0, 0, 0) := by decide +kernel
theorem gz_139_20 : mz_pg 139 20 = some (.aload_n 0, 0, 0, 0) := by decide +kernel
theorem gz_139_21 : mz_pg 139 21 = some (.getfield 19, 9, 1, 529) := by decide +kernel
theorem gz_139_24 : mz_pg 139 24 = some (.getfield 95, 6, 1, 183) := by decide +kernel
theorem gz_139_27 : mz_pg 139 27 = some (.iload_n 1, 0, 0, 0) := by decide +kernel
theorem gz_139_28 : mz_pg 139 28 = some (.iaload, 0, 0, 0) := by decide +kernel
theorem gz_139_29 : mz_pg 139 29 = some (.goto 4, 0, 0, 0) := by decide +kernel
theorem gz_139_32 : mz_pg 139 32 = some (.iconst (-1), 0, 0, 0) := by decide +kernel
theorem gz_139_33 : mz_pg 139 33 = some (.ireturn, 0, 0, 0) := by decide +kernel
theorem gz_139_34 : mz_pg 139 34 = some (.iload_n 1, 0, 0, 0) := by decide +kernel
theorem gz_139_35 : mz_pg 139 35 = some (.tableswitch 46 3 5 #[25, 30, 38], 0, 0, 0) := by decide +kernel
theorem gz_139_60 : mz_pg 139 60 = some (.aload_n 0, 0, 0, 0) := by decide +kernel
theorem gz_139_61 : mz_pg 139 61 = some (.invokevirtual 330, 1, 140, 1121) := by decide +kernel
theorem gz_139_64 : mz_pg 139 64 = some (.ireturn, 0, 0, 0) := by decide +kernel
theorem gz_139_65 : mz_pg 139 65 = some (.aload_n 0, 0, 0, 0) := by decide +kernel
theorem gz_139_66 : mz_pg 139 66 = some (.getfield 46, 9, 7, 535) := by decide +kernel
theorem gz_139_69 : mz_pg 139 69 = some (.getfield 146, 5, 4, 286) := by decide +kernel
theorem gz_139_72 : mz_pg 139 72 = some (.ireturn, 0, 0, 0) := by decide +kernel
theorem gz_139_73 : mz_pg 139 73 = some (.aload_n 0, 0, 0, 0) := by decide +kernel
theorem gz_139_74 : mz_pg 139 74 = some (.getfield 19, 9, 1, 529) := by decide +kernel
theorem gz_139_77 : mz_pg 139 77 = some (.invokevirtual 334, 1, 141, 1124) := by decide +kernel
theorem gz_139_80 : mz_pg 139 80 = some (.ireturn, 0, 0, 0) := by decide +kernel
theorem gz_139_81 : mz_pg 139 81 = some (.iconst (-1), 0, 0, 0) := by decide +kernel
theorem gz_139_82 : mz_pg 139 82 = some (.ireturn, 0, 0, 0) := by decide +kernel
theorem gm_139 : my_mm 139 2 (some .int) 1 9 := by unfold my_mm; decide +kernel
theorem c66_ThroughWindow_count {l : Launch} {rho : Nat → Int32} {d : Nat} {h : my_H} {Q : my_H → my_V → Prop} {x1 : Int} (k0 : Q h (0, (-1))) (k1 : ∀ (y : Int), 0 ≤ x1 → x1 ≤ 5 → Q h (0, y)) : wp l rho (d + 1) 139 0 [(2, 0), (0, x1)] [] h Q := by
  have J34_0 : wp l rho (d + 1) 139 34 [(2, 0), (0, x1)] [] h Q := by
    refine w_iload_n gz_139_34 rfl ?_
    by_cases u1 : x1 = 3
    ·
      refine w_tswE (t := 60) gz_139_35 u1 (by decide) (by decide) rfl rfl ?_
      refine w_aload_n gz_139_60 rfl ?_
      refine w_inv (k := 2) (as := []) (r := []) (x := 0) (ls0 := [(2, 0), (9, 0), (9, 0)]) gz_139_61 gm_140 rfl is_0 rd_9 rfl rfl rfl rfl rfl (c10_ThroughWindow_countTold (d := d)   (fun v2 w3 w4 => ?_))
      show wp l rho (d + 1) 139 64 [(2, 0), (0, x1)] [(0, v2)] h Q
      exact w_iret gz_139_64 gm_139 (k1 (v2) (by omega) (by omega))
    ·
      by_cases u5 : x1 = 4
      ·
        refine w_tswE (t := 65) gz_139_35 u5 (by decide) (by decide) rfl rfl ?_
        refine w_aload_n gz_139_65 rfl ?_
        refine w_getX (v := 82) gz_139_66 is_0 rd_9 rfl (by decide) rfl ?_
        refine v_getI (j := 4) gz_139_69 rfl is_82 rd_5 rfl (fun v7 ev7 pv7 qv7 => ?_)
        exact w_iret gz_139_72 gm_139 (k1 (v7) (by omega) (by omega))
      ·
        by_cases u8 : x1 = 5
        ·
          refine w_tswE (t := 73) gz_139_35 u8 (by decide) (by decide) rfl rfl ?_
          refine w_aload_n gz_139_73 rfl ?_
          refine w_getX (v := 7) gz_139_74 is_0 rd_9 rfl (by decide) rfl ?_
          refine w_inv (k := 2) (as := []) (r := []) (x := 7) (ls0 := [(2, 7), (9, 0), (9, 0)]) gz_139_77 gm_141 rfl is_7 rd_6 rfl rfl rfl rfl rfl (c11_Rows_sumOfValues (d := d) (x0 := 7) is_7 (fun v10 => ?_))
          show wp l rho (d + 1) 139 80 [(2, 0), (0, x1)] [(0, v10)] h Q
          exact w_iret gz_139_80 gm_139 (k1 (v10) (by omega) (by omega))
        ·
          refine w_tswD (t := 81) gz_139_35 (by omega) rfl ?_
          refine w_iconst gz_139_81 (by decide) ?_
          exact w_iret gz_139_82 gm_139 (k0 )
  refine w_iload_n gz_139_0 rfl ?_
  refine w_iflt (t := 34) gz_139_1 rfl (fun u11 => ?_) (fun u11 => ?_)
  ·
    exact J34_0 
  ·
    refine w_iload_n gz_139_4 rfl ?_
    refine w_iconst gz_139_5 (by decide) ?_
    refine w_icge (t := 34) gz_139_6 rfl (fun u12 => ?_) (fun u12 => ?_)
    ·
      exact J34_0 
    ·
      refine w_aload_n gz_139_9 rfl ?_
      refine w_getX (v := 1) gz_139_10 is_0 rd_9 rfl (by decide) rfl ?_
      refine w_iload_n gz_139_13 rfl ?_
      refine w_inv (k := 0) (as := [(0, x1)]) (r := []) (x := 1) (ls0 := [(2, 1), (0, x1)]) gz_139_14 gm_13 rfl is_1 rd_3 rfl rfl rfl rfl rfl ?_
      refine w_iload_n gz_13_0 rfl ?_
      refine w_iflt (t := 22) gz_13_1 rfl (fun u14 => by exfalso; omega) (fun u14 => ?_)
      refine w_iload_n gz_13_4 rfl ?_
      refine w_iconst gz_13_5 (by decide) ?_
      refine w_icge (t := 22) gz_13_6 rfl (fun u15 => by exfalso; omega) (fun u15 => ?_)
      refine w_aload_n gz_13_9 rfl ?_
      refine w_getX (v := 2) gz_13_10 is_1 rd_3 rfl (by decide) rfl ?_
      refine w_iload_n gz_13_13 rfl ?_
      refine w_iald gz_13_14 is_2 rd_25 (by omega) (by omega) (fun v17 ev17 pv17 qv17 => ?_)
      refine w_ifle (t := 22) gz_13_15 rfl (fun u18 => ?_) (fun u18 => ?_)
      ·
        refine w_iconst gz_13_22 (by decide) ?_
        refine w_bret gz_13_23 gm_13 (by omega) (by omega) ?_
        show wp l rho (d + 1) 139 17 [(2, 0), (0, x1)] [(0, 0)] h Q
        refine w_ifeq (t := 32) gz_139_17 rfl (fun u19 => ?_) (fun u19 => by exfalso; omega)
        refine w_iconst gz_139_32 (by decide) ?_
        exact w_iret gz_139_33 gm_139 (k0 )
      ·
        refine w_iconst gz_13_18 (by decide) ?_
        refine w_goto (t := 23) gz_13_19 rfl ?_
        refine w_bret gz_13_23 gm_13 (by omega) (by omega) ?_
        show wp l rho (d + 1) 139 17 [(2, 0), (0, x1)] [(0, 1)] h Q
        refine w_ifeq (t := 32) gz_139_17 rfl (fun u20 => by exfalso; omega) (fun u20 => ?_)
        refine w_aload_n gz_139_20 rfl ?_
        refine w_getX (v := 7) gz_139_21 is_0 rd_9 rfl (by decide) rfl ?_
        refine w_getX (v := 9) gz_139_24 is_7 rd_6 rfl (by decide) rfl ?_
        refine w_iload_n gz_139_27 rfl ?_
        refine w_iald gz_139_28 is_9 rd_31 (by omega) (by omega) (fun v23 ev23 pv23 qv23 => ?_)
        refine w_goto (t := 33) gz_139_29 rfl ?_
        exact w_iret gz_139_33 gm_139 (k1 (v23) (by omega) (by omega))
theorem gz_143_0 : mz_pg 143 0 = some (.aload_n 0, 0, 0, 0) := by decide +kernel
theorem gz_143_1 : mz_pg 143 1 = some (.iconst 0, 0, 0, 0) := by decide +kernel
theorem gz_143_2 : mz_pg 143 2 = some (.putfield 1, 10, 0, 1213) := by decide +kernel
theorem gz_143_5 : mz_pg 143 5 = some (.aload_n 0, 0, 0, 0) := by decide +kernel
theorem gz_143_6 : mz_pg 143 6 = some (.lload_n 1, 0, 0, 0) := by decide +kernel
theorem gz_143_7 : mz_pg 143 7 = some (.invokevirtual 7, 1, 144, 1192) := by decide +kernel
theorem gz_143_10 : mz_pg 143 10 = some (.aload_n 0, 0, 0, 0) := by decide +kernel
theorem gz_143_11 : mz_pg 143 11 = some (.lload_n 3, 0, 0, 0) := by decide +kernel
theorem gz_143_12 : mz_pg 143 12 = some (.invokevirtual 7, 1, 144, 1192) := by decide +kernel
theorem gz_143_15 : mz_pg 143 15 = some (.aload_n 0, 0, 0, 0) := by decide +kernel
theorem gz_143_16 : mz_pg 143 16 = some (.lload 5, 0, 0, 0) := by decide +kernel
theorem gz_143_18 : mz_pg 143 18 = some (.invokevirtual 7, 1, 144, 1192) := by decide +kernel
theorem gz_143_21 : mz_pg 143 21 = some (.aload_n 0, 0, 0, 0) := by decide +kernel
theorem gz_143_22 : mz_pg 143 22 = some (.getfield 11, 10, 2, 1215) := by decide +kernel
theorem gz_143_25 : mz_pg 143 25 = some (.ireturn, 0, 0, 0) := by decide +kernel
theorem gm_143 : my_mm 143 7 (some .int) 3 10 := by unfold my_mm; decide +kernel
theorem c67_Model_feed {l : Launch} {rho : Nat → Int32} {d : Nat} {h : my_H} {Q : my_H → my_V → Prop} {x1 x2 x3 : Int} (k0 : ∀ (h' : my_H) (y : Int), my_fr [(10, 0), (10, 2), (51, -1)] h h' → 0 ≤ y → y ≤ 1000 → h' 151 0 = 0 → Q h' (0, y)) : wp l rho (d + 1) 143 0 [(2, 151), (1, x1), (9, 0), (1, x2), (9, 0), (1, x3), (9, 0)] [] h Q := by
  refine w_aload_n gz_143_0 rfl ?_
  refine w_iconst gz_143_1 (by decide) ?_
  refine v_putI (j := 0) gz_143_2 rfl is_151 rd_10 rfl (by omega) (by omega) rfl (fun h1 fh1 => ?_)
  have gh1 : my_fr [(10, 0), (10, 2), (51, -1)] h h1 := my_fr.up my_fr.rf is_151 fh1 rfl
  refine w_aload_n gz_143_5 rfl ?_
  refine w_lload_n gz_143_6 rfl ?_
  refine w_inv (k := 2) (as := [(1, x1)]) (r := []) (x := 151) (ls0 := [(2, 151), (1, x1), (9, 0), (9, 0), (9, 0)]) gz_143_7 gm_144 rfl is_151 rd_10 rfl rfl rfl rfl rfl (c12_Model_lay (d := d) (x1 := x1)  (fun h2 frh2 => ?_))
  have gh2 : my_fr [(10, 0), (10, 2), (51, -1)] h h2 := my_fr.tr gh1 (frh2.mo rfl)
  show wp l rho (d + 1) 143 10 [(2, 151), (1, x1), (9, 0), (1, x2), (9, 0), (1, x3), (9, 0)] [] h2 Q
  refine w_aload_n gz_143_10 rfl ?_
  refine w_lload_n gz_143_11 rfl ?_
  refine w_inv (k := 2) (as := [(1, x2)]) (r := []) (x := 151) (ls0 := [(2, 151), (1, x2), (9, 0), (9, 0), (9, 0)]) gz_143_12 gm_144 rfl is_151 rd_10 rfl rfl rfl rfl rfl (c12_Model_lay (d := d) (x1 := x2)  (fun h3 frh3 => ?_))
  have gh3 : my_fr [(10, 0), (10, 2), (51, -1)] h h3 := my_fr.tr gh2 (frh3.mo rfl)
  show wp l rho (d + 1) 143 15 [(2, 151), (1, x1), (9, 0), (1, x2), (9, 0), (1, x3), (9, 0)] [] h3 Q
  refine w_aload_n gz_143_15 rfl ?_
  refine w_lload gz_143_16 rfl ?_
  refine w_inv (k := 2) (as := [(1, x3)]) (r := []) (x := 151) (ls0 := [(2, 151), (1, x3), (9, 0), (9, 0), (9, 0)]) gz_143_18 gm_144 rfl is_151 rd_10 rfl rfl rfl rfl rfl (c12_Model_lay (d := d) (x1 := x3)  (fun h4 frh4 => ?_))
  have gh4 : my_fr [(10, 0), (10, 2), (51, -1)] h h4 := my_fr.tr gh3 (frh4.mo rfl)
  show wp l rho (d + 1) 143 21 [(2, 151), (1, x1), (9, 0), (1, x2), (9, 0), (1, x3), (9, 0)] [] h4 Q
  refine w_aload_n gz_143_21 rfl ?_
  refine v_getI (j := 2) gz_143_22 rfl is_151 rd_10 rfl (fun v5 ev5 pv5 qv5 => ?_)
  have c6 := ((my_fr.at frh4 is_151 rfl).trans ((my_fr.at frh3 is_151 rfl).trans ((my_fr.at frh2 is_151 rfl).trans (my_up_self fh1))))
  exact w_iret gz_143_25 gm_143 (k0 h4 (v5) (gh4) (by omega) (by omega) (by omega))
theorem gz_155_0 : mz_pg 155 0 = some (.iconst 0, 0, 0, 0) := by decide +kernel
theorem gz_155_1 : mz_pg 155 1 = some (.istore_n 2, 0, 0, 0) := by decide +kernel
theorem gz_155_2 : mz_pg 155 2 = some (.iload_n 2, 0, 0, 0) := by decide +kernel
theorem gz_155_3 : mz_pg 155 3 = some (.iconst 3, 0, 0, 0) := by decide +kernel
theorem gz_155_4 : mz_pg 155 4 = some (.if_icmp .ge 49, 0, 0, 0) := by decide +kernel
theorem gz_155_7 : mz_pg 155 7 = some (.iconst 0, 0, 0, 0) := by decide +kernel
theorem gz_155_8 : mz_pg 155 8 = some (.istore_n 3, 0, 0, 0) := by decide +kernel
theorem gz_155_9 : mz_pg 155 9 = some (.iload_n 3, 0, 0, 0) := by decide +kernel
theorem gz_155_10 : mz_pg 155 10 = some (.bipush 20, 0, 0, 0) := by decide +kernel
theorem gz_155_12 : mz_pg 155 12 = some (.if_icmp .ge 35, 0, 0, 0) := by decide +kernel
theorem gz_155_15 : mz_pg 155 15 = some (.aload_n 0, 0, 0, 0) := by decide +kernel
theorem gz_155_16 : mz_pg 155 16 = some (.getfield 77, 10, 15, 1228) := by decide +kernel
theorem gz_155_19 : mz_pg 155 19 = some (.iload_n 1, 0, 0, 0) := by decide +kernel
theorem gz_155_20 : mz_pg 155 20 = some (.iload_n 2, 0, 0, 0) := by decide +kernel
theorem gz_155_21 : mz_pg 155 21 = some (.iload_n 3, 0, 0, 0) := by decide +kernel
theorem gz_155_22 : mz_pg 155 22 = some (.invokestatic 242, 1, 150, 1429) := by decide +kernel
theorem gz_155_25 : mz_pg 155 25 = some (.baload, 0, 0, 0) := by decide +kernel
theorem gz_155_26 : mz_pg 155 26 = some (.ifCond .eq 15, 0, 0, 0) := by decide +kernel
theorem gz_155_29 : mz_pg 155 29 = some (.aload_n 0, 0, 0, 0) := by decide +kernel
theorem gz_155_30 : mz_pg 155 30 = some (.iload_n 1, 0, 0, 0) := by decide +kernel
theorem gz_155_31 : mz_pg 155 31 = some (.iload_n 2, 0, 0, 0) := by decide +kernel
theorem gz_155_32 : mz_pg 155 32 = some (.iload_n 3, 0, 0, 0) := by decide +kernel
theorem gz_155_33 : mz_pg 155 33 = some (.invokevirtual 254, 1, 156, 1447) := by decide +kernel
theorem gz_155_36 : mz_pg 155 36 = some (.ifCond .ne 5, 0, 0, 0) := by decide +kernel
theorem gz_155_39 : mz_pg 155 39 = some (.iconst 0, 0, 0, 0) := by decide +kernel
theorem gz_155_40 : mz_pg 155 40 = some (.ireturn, 0, 0, 0) := by decide +kernel
theorem gz_155_41 : mz_pg 155 41 = some (.iinc 3 1, 0, 0, 0) := by decide +kernel
theorem gz_155_44 : mz_pg 155 44 = some (.goto (-35), 0, 0, 0) := by decide +kernel
theorem gz_155_47 : mz_pg 155 47 = some (.iinc 2 1, 0, 0, 0) := by decide +kernel
theorem gz_155_50 : mz_pg 155 50 = some (.goto (-48), 0, 0, 0) := by decide +kernel
theorem gz_155_53 : mz_pg 155 53 = some (.iconst 1, 0, 0, 0) := by decide +kernel
theorem gz_155_54 : mz_pg 155 54 = some (.ireturn, 0, 0, 0) := by decide +kernel
theorem gm_155 : my_mm 155 4 (some .boolean) 1 10 := by unfold my_mm; decide +kernel
theorem c68_Model_isLawful {l : Launch} {rho : Nat → Int32} {d : Nat} {h : my_H} {Q : my_H → my_V → Prop} {x1 : Int} (a1 : 0 ≤ x1) (b1 : x1 ≤ 15) (k0 : Q h (0, 0)) (k1 : Q h (0, 1)) : wp l rho (d + 3) 155 0 [(2, 151), (0, x1), (9, 0), (9, 0)] [] h Q := by
  have J2_0 : ∀ (n : Nat) (p2_0 : Int), 0 ≤ p2_0 → p2_0 ≤ 3 → 4 - p2_0 ≤ (n : Int) → wp l rho (d + 3) 155 2 [(2, 151), (0, x1), (0, p2_0), (9, 0)] [] h Q := by
    intro n
    induction n with
    | zero => intro p2_0 q0_2_0 q1_2_0 hm_2_0; exfalso; omega
    | succ n ih_2_0 =>
      intro p2_0 q0_2_0 q1_2_0 hm_2_0
      have J9_0 : ∀ (n : Nat) (p9_0 : Int), p2_0 ≤ 2 → 0 ≤ p9_0 → p9_0 ≤ 20 → 21 - p9_0 ≤ (n : Int) → wp l rho (d + 3) 155 9 [(2, 151), (0, x1), (0, p2_0), (0, p9_0)] [] h Q := by
        intro n
        induction n with
        | zero => intro p9_0 q0_9_0 q1_9_0 q2_9_0 hm_9_0; exfalso; omega
        | succ n ih_9_0 =>
          intro p9_0 q0_9_0 q1_9_0 q2_9_0 hm_9_0
          have J41_0 : p9_0 ≤ 19 → wp l rho (d + 3) 155 41 [(2, 151), (0, x1), (0, p2_0), (0, p9_0)] [] h Q := by
            intro q0_41_0
            refine w_iinc (ls' := [(2, 151), (0, x1), (0, p2_0), (0, (p9_0 + 1))]) gz_155_41 rfl gm_155 rfl rfl rfl ⟨by omega, by omega⟩ ?_
            refine w_goto (t := 9) gz_155_44 rfl ?_
            exact ih_9_0 ((p9_0 + 1)) (by omega) (by omega) (by omega) (by omega)
          refine w_iload_n gz_155_9 rfl ?_
          refine w_bipush gz_155_10 (by decide) ?_
          refine w_icge (t := 47) gz_155_12 rfl (fun u1 => ?_) (fun u1 => ?_)
          ·
            refine w_iinc (ls' := [(2, 151), (0, x1), (0, (p2_0 + 1)), (0, p9_0)]) gz_155_47 rfl gm_155 rfl rfl rfl ⟨by omega, by omega⟩ ?_
            refine w_goto (t := 2) gz_155_50 rfl ?_
            refine w_weak (ls' := [(2, 151), (0, x1), (0, (p2_0 + 1)), (9, 0)]) (wk_e (wk_e (wk_e (wk_9 wk_n)))) ?_
            exact ih_2_0 ((p2_0 + 1)) (by omega) (by omega) (by omega)
          ·
            refine w_aload_n gz_155_15 rfl ?_
            refine w_getX (v := 162) gz_155_16 is_151 rd_10 rfl (by decide) rfl ?_
            refine w_iload_n gz_155_19 rfl ?_
            refine w_iload_n gz_155_20 rfl ?_
            refine w_iload_n gz_155_21 rfl ?_
            refine w_inS (k := 0) (as := [(0, p9_0), (0, p2_0), (0, x1)]) (r := [(2, 162)]) (ls0 := [(0, x1), (0, p2_0), (0, p9_0)]) gz_155_22 gm_150 rfl rfl rfl rfl rfl rfl ?_
            refine w_bipush gz_150_0 (by decide) ?_
            refine w_iload_n gz_150_2 rfl ?_
            refine w_imul gz_150_3 ⟨by omega, by omega⟩ ?_
            refine w_bipush gz_150_4 (by decide) ?_
            refine w_iload_n gz_150_6 rfl ?_
            refine w_imul gz_150_7 ⟨by omega, by omega⟩ ?_
            refine w_iadd gz_150_8 ⟨by omega, by omega⟩ ?_
            refine w_iload_n gz_150_9 rfl ?_
            refine w_iadd gz_150_10 ⟨by omega, by omega⟩ ?_
            refine w_iret gz_150_11 gm_150 ?_
            show wp l rho (d + 3) 155 25 [(2, 151), (0, x1), (0, p2_0), (0, p9_0)] [(0, (((60 * x1) + (20 * p2_0)) + p9_0)), (2, 162)] h Q
            refine w_bald gz_155_25 is_162 rd_61 (by omega) (by omega) (fun v3 ev3 pv3 qv3 => ?_)
            refine w_ifeq (t := 41) gz_155_26 rfl (fun u4 => ?_) (fun u4 => ?_)
            ·
              exact J41_0 (by omega)
            ·
              refine w_aload_n gz_155_29 rfl ?_
              refine w_iload_n gz_155_30 rfl ?_
              refine w_iload_n gz_155_31 rfl ?_
              refine w_iload_n gz_155_32 rfl ?_
              refine w_inv (k := 4) (as := [(0, p9_0), (0, p2_0), (0, x1)]) (r := []) (x := 151) (ls0 := [(2, 151), (0, x1), (0, p2_0), (0, p9_0), (9, 0), (9, 0), (9, 0), (9, 0)]) gz_155_33 gm_156 rfl is_151 rd_10 rfl rfl rfl rfl rfl (c17_Model_isLawfulRow (d := d) (x1 := x1) (x2 := p2_0) (x3 := p9_0) (by omega) (by omega) (by omega) (by omega) (by omega) (by omega) ?_ ?_)
              ·
                show wp l rho (d + 3) 155 36 [(2, 151), (0, x1), (0, p2_0), (0, p9_0)] [(0, 0)] h Q
                refine w_ifne (t := 41) gz_155_36 rfl (fun u5 => by exfalso; omega) (fun u5 => ?_)
                refine w_iconst gz_155_39 (by decide) ?_
                exact w_bret gz_155_40 gm_155 (by omega) (by omega) (k0 )
              ·
                show wp l rho (d + 3) 155 36 [(2, 151), (0, x1), (0, p2_0), (0, p9_0)] [(0, 1)] h Q
                refine w_ifne (t := 41) gz_155_36 rfl (fun u6 => ?_) (fun u6 => by exfalso; omega)
                exact J41_0 (by omega)
      refine w_iload_n gz_155_2 rfl ?_
      refine w_iconst gz_155_3 (by decide) ?_
      refine w_icge (t := 53) gz_155_4 rfl (fun u7 => ?_) (fun u7 => ?_)
      ·
        refine w_iconst gz_155_53 (by decide) ?_
        exact w_bret gz_155_54 gm_155 (by omega) (by omega) (k1 )
      ·
        refine w_iconst gz_155_7 (by decide) ?_
        refine w_istore_n (ls' := [(2, 151), (0, x1), (0, p2_0), (0, 0)]) gz_155_8 gm_155 rfl rfl rfl ?_
        exact J9_0 21 (0) (by omega) (by omega) (by omega) (by omega)
  refine w_iconst gz_155_0 (by decide) ?_
  refine w_istore_n (ls' := [(2, 151), (0, x1), (0, 0), (9, 0)]) gz_155_1 gm_155 rfl rfl rfl ?_
  exact J2_0 4 (0) (by omega) (by omega) (by omega)
theorem gz_160_0 : mz_pg 160 0 = some (.aload_n 0, 0, 0, 0) := by decide +kernel
theorem gz_160_1 : mz_pg 160 1 = some (.iconst 0, 0, 0, 0) := by decide +kernel
theorem gz_160_2 : mz_pg 160 2 = some (.putfield 1, 10, 0, 1213) := by decide +kernel
theorem gz_160_5 : mz_pg 160 5 = some (.aload_n 0, 0, 0, 0) := by decide +kernel
theorem gz_160_6 : mz_pg 160 6 = some (.iload_n 1, 0, 0, 0) := by decide +kernel
theorem gz_160_7 : mz_pg 160 7 = some (.iload_n 2, 0, 0, 0) := by decide +kernel
theorem gz_160_8 : mz_pg 160 8 = some (.iload_n 3, 0, 0, 0) := by decide +kernel
theorem gz_160_9 : mz_pg 160 9 = some (.iload 4, 0, 0, 0) := by decide +kernel
theorem gz_160_11 : mz_pg 160 11 = some (.invokevirtual 286, 1, 161, 1464) := by decide +kernel
theorem gz_160_14 : mz_pg 160 14 = some (.ifCond .eq 15, 0, 0, 0) := by decide +kernel
theorem gz_160_17 : mz_pg 160 17 = some (.aload_n 0, 0, 0, 0) := by decide +kernel
theorem gz_160_18 : mz_pg 160 18 = some (.iload_n 1, 0, 0, 0) := by decide +kernel
theorem gz_160_19 : mz_pg 160 19 = some (.iload_n 2, 0, 0, 0) := by decide +kernel
theorem gz_160_20 : mz_pg 160 20 = some (.iload_n 3, 0, 0, 0) := by decide +kernel
theorem gz_160_21 : mz_pg 160 21 = some (.iload 4, 0, 0, 0) := by decide +kernel
theorem gz_160_23 : mz_pg 160 23 = some (.invokevirtual 290, 1, 163, 1470) := by decide +kernel
theorem gz_160_26 : mz_pg 160 26 = some (.ifCond .le 5, 0, 0, 0) := by decide +kernel
theorem gz_160_29 : mz_pg 160 29 = some (.iconst 0, 0, 0, 0) := by decide +kernel
theorem gz_160_30 : mz_pg 160 30 = some (.ireturn, 0, 0, 0) := by decide +kernel
theorem gz_160_31 : mz_pg 160 31 = some (.aload_n 0, 0, 0, 0) := by decide +kernel
theorem gz_160_32 : mz_pg 160 32 = some (.getfield 64, 10, 11, 1224) := by decide +kernel
theorem gz_160_35 : mz_pg 160 35 = some (.iconst 4, 0, 0, 0) := by decide +kernel
theorem gz_160_36 : mz_pg 160 36 = some (.iload_n 1, 0, 0, 0) := by decide +kernel
theorem gz_160_37 : mz_pg 160 37 = some (.imul, 0, 0, 0) := by decide +kernel
theorem gz_160_38 : mz_pg 160 38 = some (.iload_n 2, 0, 0, 0) := by decide +kernel
theorem gz_160_39 : mz_pg 160 39 = some (.iadd, 0, 0, 0) := by decide +kernel
theorem gz_160_40 : mz_pg 160 40 = some (.iload_n 3, 0, 0, 0) := by decide +kernel
theorem gz_160_41 : mz_pg 160 41 = some (.iastore, 0, 0, 0) := by decide +kernel
theorem gz_160_42 : mz_pg 160 42 = some (.aload_n 0, 0, 0, 0) := by decide +kernel
theorem gz_160_43 : mz_pg 160 43 = some (.getfield 67, 10, 12, 1225) := by decide +kernel
theorem gz_160_46 : mz_pg 160 46 = some (.iconst 4, 0, 0, 0) := by decide +kernel
theorem gz_160_47 : mz_pg 160 47 = some (.iload_n 1, 0, 0, 0) := by decide +kernel
theorem gz_160_48 : mz_pg 160 48 = some (.imul, 0, 0, 0) := by decide +kernel
theorem gz_160_49 : mz_pg 160 49 = some (.iload_n 2, 0, 0, 0) := by decide +kernel
theorem gz_160_50 : mz_pg 160 50 = some (.iadd, 0, 0, 0) := by decide +kernel
theorem gz_160_51 : mz_pg 160 51 = some (.iload 4, 0, 0, 0) := by decide +kernel
theorem gz_160_53 : mz_pg 160 53 = some (.iastore, 0, 0, 0) := by decide +kernel
theorem gz_160_54 : mz_pg 160 54 = some (.iconst 1, 0, 0, 0) := by decide +kernel
theorem gz_160_55 : mz_pg 160 55 = some (.ireturn, 0, 0, 0) := by decide +kernel
theorem gm_160 : my_mm 160 5 (some .boolean) 4 10 := by unfold my_mm; decide +kernel
theorem c69_Model_span {l : Launch} {rho : Nat → Int32} {d : Nat} {h : my_H} {Q : my_H → my_V → Prop} {x1 x2 x3 x4 : Int} (k0 : ∀ (h' : my_H), my_fr [(10, 0), (57, -1), (58, -1)] h h' → h' 151 0 = 0 → Q h' (0, 0)) (k1 : ∀ (h' : my_H), my_fr [(10, 0), (57, -1), (58, -1)] h h' → 0 ≤ x1 → x1 ≤ 2 → 0 ≤ x2 → x2 ≤ 3 → 0 ≤ x3 → x3 ≤ 19 → 0 ≤ x4 → x4 ≤ 19 → h' 151 0 = 0 → Q h' (0, 1)) : wp l rho (d + 3) 160 0 [(2, 151), (0, x1), (0, x2), (0, x3), (0, x4)] [] h Q := by
  refine w_aload_n gz_160_0 rfl ?_
  refine w_iconst gz_160_1 (by decide) ?_
  refine v_putI (j := 0) gz_160_2 rfl is_151 rd_10 rfl (by omega) (by omega) rfl (fun h1 fh1 => ?_)
  have gh1 : my_fr [(10, 0), (57, -1), (58, -1)] h h1 := my_fr.up my_fr.rf is_151 fh1 rfl
  refine w_aload_n gz_160_5 rfl ?_
  refine w_iload_n gz_160_6 rfl ?_
  refine w_iload_n gz_160_7 rfl ?_
  refine w_iload_n gz_160_8 rfl ?_
  refine w_iload gz_160_9 rfl ?_
  refine w_inv (k := 0) (as := [(0, x4), (0, x3), (0, x2), (0, x1)]) (r := []) (x := 151) (ls0 := [(2, 151), (0, x1), (0, x2), (0, x3), (0, x4)]) gz_160_11 gm_161 rfl is_151 rd_10 rfl rfl rfl rfl rfl (c19_Model_isSpan (d := d) (x1 := x1) (x2 := x2) (x3 := x3) (x4 := x4)  ?_ (fun w2 w3 w4 w5 w6 w7 w8 w9 => ?_))
  ·
    show wp l rho (d + 3) 160 14 [(2, 151), (0, x1), (0, x2), (0, x3), (0, x4)] [(0, 0)] h1 Q
    refine w_ifeq (t := 29) gz_160_14 rfl (fun u10 => ?_) (fun u10 => by exfalso; omega)
    refine w_iconst gz_160_29 (by decide) ?_
    have c11 := (my_up_self fh1)
    exact w_bret gz_160_30 gm_160 (by omega) (by omega) (k0 h1 (gh1) (by omega))
  ·
    show wp l rho (d + 3) 160 14 [(2, 151), (0, x1), (0, x2), (0, x3), (0, x4)] [(0, 1)] h1 Q
    refine w_ifeq (t := 29) gz_160_14 rfl (fun u12 => by exfalso; omega) (fun u12 => ?_)
    refine w_aload_n gz_160_17 rfl ?_
    refine w_iload_n gz_160_18 rfl ?_
    refine w_iload_n gz_160_19 rfl ?_
    refine w_iload_n gz_160_20 rfl ?_
    refine w_iload gz_160_21 rfl ?_
    refine w_inv (k := 2) (as := [(0, x4), (0, x3), (0, x2), (0, x1)]) (r := []) (x := 151) (ls0 := [(2, 151), (0, x1), (0, x2), (0, x3), (0, x4), (9, 0), (9, 0)]) gz_160_23 gm_163 rfl is_151 rd_10 rfl rfl rfl rfl rfl (c20_Model_outside (d := d) (x1 := x1) (x2 := x2) (x3 := x3) (x4 := x4) (by omega) (by omega) (by omega) (by omega) (by omega) (by omega) (by omega) (by omega) (fun v13 w14 w15 => ?_))
    show wp l rho (d + 3) 160 26 [(2, 151), (0, x1), (0, x2), (0, x3), (0, x4)] [(0, v13)] h1 Q
    refine w_ifle (t := 31) gz_160_26 rfl (fun u16 => ?_) (fun u16 => ?_)
    ·
      refine w_aload_n gz_160_31 rfl ?_
      refine w_getX (v := 158) gz_160_32 is_151 rd_10 rfl (by decide) rfl ?_
      refine w_iconst gz_160_35 (by decide) ?_
      refine w_iload_n gz_160_36 rfl ?_
      refine w_imul gz_160_37 ⟨by omega, by omega⟩ ?_
      refine w_iload_n gz_160_38 rfl ?_
      refine w_iadd gz_160_39 ⟨by omega, by omega⟩ ?_
      refine w_iload_n gz_160_40 rfl ?_
      refine w_iast gz_160_41 is_158 rd_57 (by omega) (by omega) (by omega) (by omega) (fun h18 fh18 => ?_)
      have gh18 : my_fr [(10, 0), (57, -1), (58, -1)] h h18 := my_fr.up gh1 is_158 fh18 rfl
      refine w_aload_n gz_160_42 rfl ?_
      refine w_getX (v := 159) gz_160_43 is_151 rd_10 rfl (by decide) rfl ?_
      refine w_iconst gz_160_46 (by decide) ?_
      refine w_iload_n gz_160_47 rfl ?_
      refine w_imul gz_160_48 ⟨by omega, by omega⟩ ?_
      refine w_iload_n gz_160_49 rfl ?_
      refine w_iadd gz_160_50 ⟨by omega, by omega⟩ ?_
      refine w_iload gz_160_51 rfl ?_
      refine w_iast gz_160_53 is_159 rd_58 (by omega) (by omega) (by omega) (by omega) (fun h20 fh20 => ?_)
      have gh20 : my_fr [(10, 0), (57, -1), (58, -1)] h h20 := my_fr.up gh18 is_159 fh20 rfl
      refine w_iconst gz_160_54 (by decide) ?_
      have c21 := ((my_up_role fh20 is_151 is_159 rfl).trans ((my_up_role fh18 is_151 is_158 rfl).trans (my_up_self fh1)))
      exact w_bret gz_160_55 gm_160 (by omega) (by omega) (k1 h20 (gh20) (by omega) (by omega) (by omega) (by omega) (by omega) (by omega) (by omega) (by omega) (by omega))
    ·
      refine w_iconst gz_160_29 (by decide) ?_
      have c22 := (my_up_self fh1)
      exact w_bret gz_160_30 gm_160 (by omega) (by omega) (k0 h1 (gh1) (by omega))
theorem gz_165_0 : mz_pg 165 0 = some (.aload_n 0, 0, 0, 0) := by decide +kernel
theorem gz_165_1 : mz_pg 165 1 = some (.iconst 0, 0, 0, 0) := by decide +kernel
theorem gz_165_2 : mz_pg 165 2 = some (.putfield 1, 10, 0, 1213) := by decide +kernel
theorem gz_165_5 : mz_pg 165 5 = some (.aload_n 0, 0, 0, 0) := by decide +kernel
theorem gz_165_6 : mz_pg 165 6 = some (.iload_n 1, 0, 0, 0) := by decide +kernel
theorem gz_165_7 : mz_pg 165 7 = some (.iload_n 2, 0, 0, 0) := by decide +kernel
theorem gz_165_8 : mz_pg 165 8 = some (.invokevirtual 283, 1, 162, 1467) := by decide +kernel
theorem gz_165_11 : mz_pg 165 11 = some (.ifCond .eq 25, 0, 0, 0) := by decide +kernel
theorem gz_165_14 : mz_pg 165 14 = some (.iload_n 2, 0, 0, 0) := by decide +kernel
theorem gz_165_15 : mz_pg 165 15 = some (.ifCond .eq 21, 0, 0, 0) := by decide +kernel
theorem gz_165_18 : mz_pg 165 18 = some (.iload_n 3, 0, 0, 0) := by decide +kernel
theorem gz_165_19 : mz_pg 165 19 = some (.iconst (-1), 0, 0, 0) := by decide +kernel
theorem gz_165_20 : mz_pg 165 20 = some (.if_icmp .eq 18, 0, 0, 0) := by decide +kernel
theorem gz_165_23 : mz_pg 165 23 = some (.aload_n 0, 0, 0, 0) := by decide +kernel
theorem gz_165_24 : mz_pg 165 24 = some (.iload_n 3, 0, 0, 0) := by decide +kernel
theorem gz_165_25 : mz_pg 165 25 = some (.invokevirtual 257, 1, 149, 1426) := by decide +kernel
theorem gz_165_28 : mz_pg 165 28 = some (.ifCond .eq 8, 0, 0, 0) := by decide +kernel
theorem gz_165_31 : mz_pg 165 31 = some (.iload_n 3, 0, 0, 0) := by decide +kernel
theorem gz_165_32 : mz_pg 165 32 = some (.iload_n 1, 0, 0, 0) := by decide +kernel
theorem gz_165_33 : mz_pg 165 33 = some (.if_icmp .ne 5, 0, 0, 0) := by decide +kernel
theorem gz_165_36 : mz_pg 165 36 = some (.iconst 0, 0, 0, 0) := by decide +kernel
theorem gz_165_37 : mz_pg 165 37 = some (.ireturn, 0, 0, 0) := by decide +kernel
theorem gz_165_38 : mz_pg 165 38 = some (.aload_n 0, 0, 0, 0) := by decide +kernel
theorem gz_165_39 : mz_pg 165 39 = some (.getfield 70, 10, 13, 1226) := by decide +kernel
theorem gz_165_42 : mz_pg 165 42 = some (.iconst 4, 0, 0, 0) := by decide +kernel
theorem gz_165_43 : mz_pg 165 43 = some (.iload_n 1, 0, 0, 0) := by decide +kernel
theorem gz_165_44 : mz_pg 165 44 = some (.imul, 0, 0, 0) := by decide +kernel
theorem gz_165_45 : mz_pg 165 45 = some (.iload_n 2, 0, 0, 0) := by decide +kernel
theorem gz_165_46 : mz_pg 165 46 = some (.iadd, 0, 0, 0) := by decide +kernel
theorem gz_165_47 : mz_pg 165 47 = some (.iaload, 0, 0, 0) := by decide +kernel
theorem gz_165_48 : mz_pg 165 48 = some (.istore 4, 0, 0, 0) := by decide +kernel
theorem gz_165_50 : mz_pg 165 50 = some (.aload_n 0, 0, 0, 0) := by decide +kernel
theorem gz_165_51 : mz_pg 165 51 = some (.getfield 70, 10, 13, 1226) := by decide +kernel
theorem gz_165_54 : mz_pg 165 54 = some (.iconst 4, 0, 0, 0) := by decide +kernel
theorem gz_165_55 : mz_pg 165 55 = some (.iload_n 1, 0, 0, 0) := by decide +kernel
theorem gz_165_56 : mz_pg 165 56 = some (.imul, 0, 0, 0) := by decide +kernel
theorem gz_165_57 : mz_pg 165 57 = some (.iload_n 2, 0, 0, 0) := by decide +kernel
theorem gz_165_58 : mz_pg 165 58 = some (.iadd, 0, 0, 0) := by decide +kernel
theorem gz_165_59 : mz_pg 165 59 = some (.iload_n 3, 0, 0, 0) := by decide +kernel
theorem gz_165_60 : mz_pg 165 60 = some (.iastore, 0, 0, 0) := by decide +kernel
theorem gz_165_61 : mz_pg 165 61 = some (.aload_n 0, 0, 0, 0) := by decide +kernel
theorem gz_165_62 : mz_pg 165 62 = some (.iconst 0, 0, 0, 0) := by decide +kernel
theorem gz_165_63 : mz_pg 165 63 = some (.invokevirtual 260, 1, 155, 1444) := by decide +kernel
theorem gz_165_66 : mz_pg 165 66 = some (.ifCond .ne 17, 0, 0, 0) := by decide +kernel
theorem gz_165_69 : mz_pg 165 69 = some (.aload_n 0, 0, 0, 0) := by decide +kernel
theorem gz_165_70 : mz_pg 165 70 = some (.getfield 70, 10, 13, 1226) := by decide +kernel
theorem gz_165_73 : mz_pg 165 73 = some (.iconst 4, 0, 0, 0) := by decide +kernel
theorem gz_165_74 : mz_pg 165 74 = some (.iload_n 1, 0, 0, 0) := by decide +kernel
theorem gz_165_75 : mz_pg 165 75 = some (.imul, 0, 0, 0) := by decide +kernel
theorem gz_165_76 : mz_pg 165 76 = some (.iload_n 2, 0, 0, 0) := by decide +kernel
theorem gz_165_77 : mz_pg 165 77 = some (.iadd, 0, 0, 0) := by decide +kernel
theorem gz_165_78 : mz_pg 165 78 = some (.iload 4, 0, 0, 0) := by decide +kernel
theorem gz_165_80 : mz_pg 165 80 = some (.iastore, 0, 0, 0) := by decide +kernel
theorem gz_165_81 : mz_pg 165 81 = some (.iconst 0, 0, 0, 0) := by decide +kernel
theorem gz_165_82 : mz_pg 165 82 = some (.ireturn, 0, 0, 0) := by decide +kernel
theorem gz_165_83 : mz_pg 165 83 = some (.iconst 1, 0, 0, 0) := by decide +kernel
theorem gz_165_84 : mz_pg 165 84 = some (.ireturn, 0, 0, 0) := by decide +kernel
theorem gm_165 : my_mm 165 5 (some .boolean) 3 10 := by unfold my_mm; decide +kernel
theorem c70_Model_names {l : Launch} {rho : Nat → Int32} {d : Nat} {h : my_H} {Q : my_H → my_V → Prop} {x1 x2 x3 : Int} (k0 : ∀ (h' : my_H), my_fr [(10, 0), (59, -1)] h h' → h' 151 0 = 0 → Q h' (0, 0)) (k1 : ∀ (h' : my_H), my_fr [(10, 0), (59, -1)] h h' → 0 ≤ x1 → x1 ≤ 2 → 1 ≤ x2 → x2 ≤ 3 → (-1) ≤ x3 → x3 ≤ 2 → h' 151 0 = 0 → Q h' (0, 1)) : wp l rho (d + 4) 165 0 [(2, 151), (0, x1), (0, x2), (0, x3), (9, 0)] [] h Q := by
  have J38_0 : ∀ (h38_0 : my_H), my_fr [(10, 0), (59, -1)] h h38_0 → 0 ≤ x1 → x1 ≤ 2 → 1 ≤ x2 → x2 ≤ 3 → (-1) ≤ x3 → x3 ≤ 2 → h38_0 151 0 = 0 → wp l rho (d + 4) 165 38 [(2, 151), (0, x1), (0, x2), (0, x3), (9, 0)] [] h38_0 Q := by
    intro h38_0 gh_38_0 q0_38_0 q1_38_0 q2_38_0 q3_38_0 q4_38_0 q5_38_0 c151_0_38_0
    refine w_aload_n gz_165_38 rfl ?_
    refine w_getX (v := 160) gz_165_39 is_151 rd_10 rfl (by decide) rfl ?_
    refine w_iconst gz_165_42 (by decide) ?_
    refine w_iload_n gz_165_43 rfl ?_
    refine w_imul gz_165_44 ⟨by omega, by omega⟩ ?_
    refine w_iload_n gz_165_45 rfl ?_
    refine w_iadd gz_165_46 ⟨by omega, by omega⟩ ?_
    refine w_iald gz_165_47 is_160 rd_59 (by omega) (by omega) (fun v2 ev2 pv2 qv2 => ?_)
    refine w_istore (ls' := [(2, 151), (0, x1), (0, x2), (0, x3), (0, v2)]) gz_165_48 gm_165 rfl rfl rfl ?_
    refine w_aload_n gz_165_50 rfl ?_
    refine w_getX (v := 160) gz_165_51 is_151 rd_10 rfl (by decide) rfl ?_
    refine w_iconst gz_165_54 (by decide) ?_
    refine w_iload_n gz_165_55 rfl ?_
    refine w_imul gz_165_56 ⟨by omega, by omega⟩ ?_
    refine w_iload_n gz_165_57 rfl ?_
    refine w_iadd gz_165_58 ⟨by omega, by omega⟩ ?_
    refine w_iload_n gz_165_59 rfl ?_
    refine w_iast gz_165_60 is_160 rd_59 (by omega) (by omega) (by omega) (by omega) (fun h4 fh4 => ?_)
    have gh4 : my_fr [(10, 0), (59, -1)] h h4 := my_fr.up gh_38_0 is_160 fh4 rfl
    refine w_aload_n gz_165_61 rfl ?_
    refine w_iconst gz_165_62 (by decide) ?_
    refine w_inv (k := 2) (as := [(0, 0)]) (r := []) (x := 151) (ls0 := [(2, 151), (0, 0), (9, 0), (9, 0)]) gz_165_63 gm_155 rfl is_151 rd_10 rfl rfl rfl rfl rfl (c68_Model_isLawful (d := d) (x1 := 0) (by omega) (by omega) ?_ ?_)
    ·
      show wp l rho (d + 4) 165 66 [(2, 151), (0, x1), (0, x2), (0, x3), (0, v2)] [(0, 0)] h4 Q
      refine w_ifne (t := 83) gz_165_66 rfl (fun u5 => by exfalso; omega) (fun u5 => ?_)
      refine w_aload_n gz_165_69 rfl ?_
      refine w_getX (v := 160) gz_165_70 is_151 rd_10 rfl (by decide) rfl ?_
      refine w_iconst gz_165_73 (by decide) ?_
      refine w_iload_n gz_165_74 rfl ?_
      refine w_imul gz_165_75 ⟨by omega, by omega⟩ ?_
      refine w_iload_n gz_165_76 rfl ?_
      refine w_iadd gz_165_77 ⟨by omega, by omega⟩ ?_
      refine w_iload gz_165_78 rfl ?_
      refine w_iast gz_165_80 is_160 rd_59 (by omega) (by omega) (by omega) (by omega) (fun h7 fh7 => ?_)
      have gh7 : my_fr [(10, 0), (59, -1)] h h7 := my_fr.up gh4 is_160 fh7 rfl
      refine w_iconst gz_165_81 (by decide) ?_
      have c8 := ((my_up_role fh7 is_151 is_160 rfl).trans ((my_up_role fh4 is_151 is_160 rfl).trans c151_0_38_0))
      exact w_bret gz_165_82 gm_165 (by omega) (by omega) (k0 h7 (gh7) (by omega))
    ·
      show wp l rho (d + 4) 165 66 [(2, 151), (0, x1), (0, x2), (0, x3), (0, v2)] [(0, 1)] h4 Q
      refine w_ifne (t := 83) gz_165_66 rfl (fun u9 => ?_) (fun u9 => by exfalso; omega)
      refine w_iconst gz_165_83 (by decide) ?_
      have c10 := ((my_up_role fh4 is_151 is_160 rfl).trans c151_0_38_0)
      exact w_bret gz_165_84 gm_165 (by omega) (by omega) (k1 h4 (gh4) (by omega) (by omega) (by omega) (by omega) (by omega) (by omega) (by omega))
  refine w_aload_n gz_165_0 rfl ?_
  refine w_iconst gz_165_1 (by decide) ?_
  refine v_putI (j := 0) gz_165_2 rfl is_151 rd_10 rfl (by omega) (by omega) rfl (fun h11 fh11 => ?_)
  have gh11 : my_fr [(10, 0), (59, -1)] h h11 := my_fr.up my_fr.rf is_151 fh11 rfl
  refine w_aload_n gz_165_5 rfl ?_
  refine w_iload_n gz_165_6 rfl ?_
  refine w_iload_n gz_165_7 rfl ?_
  refine w_inv (k := 0) (as := [(0, x2), (0, x1)]) (r := []) (x := 151) (ls0 := [(2, 151), (0, x1), (0, x2)]) gz_165_8 gm_162 rfl is_151 rd_10 rfl rfl rfl rfl rfl ?_
  refine w_aload_n gz_162_0 rfl ?_
  refine w_iload_n gz_162_1 rfl ?_
  refine w_inv (k := 0) (as := [(0, x1)]) (r := []) (x := 151) (ls0 := [(2, 151), (0, x1)]) gz_162_2 gm_149 rfl is_151 rd_10 rfl rfl rfl rfl rfl ?_
  refine w_iload_n gz_149_0 rfl ?_
  refine w_iflt (t := 22) gz_149_1 rfl (fun u12 => ?_) (fun u12 => ?_)
  ·
    refine w_iconst gz_149_22 (by decide) ?_
    refine w_bret gz_149_23 gm_149 (by omega) (by omega) ?_
    show wp l rho (d + 3) 162 5 [(2, 151), (0, x1), (0, x2)] [(0, 0)] h11 _
    refine w_ifeq (t := 26) gz_162_5 rfl (fun u13 => ?_) (fun u13 => by exfalso; omega)
    refine w_iconst gz_162_26 (by decide) ?_
    refine w_bret gz_162_27 gm_162 (by omega) (by omega) ?_
    show wp l rho (d + 4) 165 11 [(2, 151), (0, x1), (0, x2), (0, x3), (9, 0)] [(0, 0)] h11 Q
    refine w_ifeq (t := 36) gz_165_11 rfl (fun u14 => ?_) (fun u14 => by exfalso; omega)
    refine w_iconst gz_165_36 (by decide) ?_
    have c15 := (my_up_self fh11)
    exact w_bret gz_165_37 gm_165 (by omega) (by omega) (k0 h11 (gh11) (by omega))
  ·
    refine w_iload_n gz_149_4 rfl ?_
    refine w_iconst gz_149_5 (by decide) ?_
    refine w_icge (t := 22) gz_149_6 rfl (fun u16 => ?_) (fun u16 => ?_)
    ·
      refine w_iconst gz_149_22 (by decide) ?_
      refine w_bret gz_149_23 gm_149 (by omega) (by omega) ?_
      show wp l rho (d + 3) 162 5 [(2, 151), (0, x1), (0, x2)] [(0, 0)] h11 _
      refine w_ifeq (t := 26) gz_162_5 rfl (fun u17 => ?_) (fun u17 => by exfalso; omega)
      refine w_iconst gz_162_26 (by decide) ?_
      refine w_bret gz_162_27 gm_162 (by omega) (by omega) ?_
      show wp l rho (d + 4) 165 11 [(2, 151), (0, x1), (0, x2), (0, x3), (9, 0)] [(0, 0)] h11 Q
      refine w_ifeq (t := 36) gz_165_11 rfl (fun u18 => ?_) (fun u18 => by exfalso; omega)
      refine w_iconst gz_165_36 (by decide) ?_
      have c19 := (my_up_self fh11)
      exact w_bret gz_165_37 gm_165 (by omega) (by omega) (k0 h11 (gh11) (by omega))
    ·
      refine w_aload_n gz_149_9 rfl ?_
      refine w_getX (v := 157) gz_149_10 is_151 rd_10 rfl (by decide) rfl ?_
      refine w_iload_n gz_149_13 rfl ?_
      refine w_iald gz_149_14 is_157 rd_56 (by omega) (by omega) (fun v21 ev21 pv21 qv21 => ?_)
      refine w_ifle (t := 22) gz_149_15 rfl (fun u22 => ?_) (fun u22 => ?_)
      ·
        refine w_iconst gz_149_22 (by decide) ?_
        refine w_bret gz_149_23 gm_149 (by omega) (by omega) ?_
        show wp l rho (d + 3) 162 5 [(2, 151), (0, x1), (0, x2)] [(0, 0)] h11 _
        refine w_ifeq (t := 26) gz_162_5 rfl (fun u23 => ?_) (fun u23 => by exfalso; omega)
        refine w_iconst gz_162_26 (by decide) ?_
        refine w_bret gz_162_27 gm_162 (by omega) (by omega) ?_
        show wp l rho (d + 4) 165 11 [(2, 151), (0, x1), (0, x2), (0, x3), (9, 0)] [(0, 0)] h11 Q
        refine w_ifeq (t := 36) gz_165_11 rfl (fun u24 => ?_) (fun u24 => by exfalso; omega)
        refine w_iconst gz_165_36 (by decide) ?_
        have c25 := (my_up_self fh11)
        exact w_bret gz_165_37 gm_165 (by omega) (by omega) (k0 h11 (gh11) (by omega))
      ·
        refine w_iconst gz_149_18 (by decide) ?_
        refine w_goto (t := 23) gz_149_19 rfl ?_
        refine w_bret gz_149_23 gm_149 (by omega) (by omega) ?_
        show wp l rho (d + 3) 162 5 [(2, 151), (0, x1), (0, x2)] [(0, 1)] h11 _
        refine w_ifeq (t := 26) gz_162_5 rfl (fun u26 => by exfalso; omega) (fun u26 => ?_)
        refine w_iload_n gz_162_8 rfl ?_
        refine w_iflt (t := 26) gz_162_9 rfl (fun u27 => ?_) (fun u27 => ?_)
        ·
          refine w_iconst gz_162_26 (by decide) ?_
          refine w_bret gz_162_27 gm_162 (by omega) (by omega) ?_
          show wp l rho (d + 4) 165 11 [(2, 151), (0, x1), (0, x2), (0, x3), (9, 0)] [(0, 0)] h11 Q
          refine w_ifeq (t := 36) gz_165_11 rfl (fun u28 => ?_) (fun u28 => by exfalso; omega)
          refine w_iconst gz_165_36 (by decide) ?_
          have c29 := (my_up_self fh11)
          exact w_bret gz_165_37 gm_165 (by omega) (by omega) (k0 h11 (gh11) (by omega))
        ·
          refine w_iload_n gz_162_12 rfl ?_
          refine w_aload_n gz_162_13 rfl ?_
          refine w_getX (v := 157) gz_162_14 is_151 rd_10 rfl (by decide) rfl ?_
          refine w_iload_n gz_162_17 rfl ?_
          refine w_iald gz_162_18 is_157 rd_56 (by omega) (by omega) (fun v31 ev31 pv31 qv31 => ?_)
          have zv31 := ev31.trans ev21.symm
          refine w_icge (t := 26) gz_162_19 rfl (fun u32 => ?_) (fun u32 => ?_)
          ·
            refine w_iconst gz_162_26 (by decide) ?_
            refine w_bret gz_162_27 gm_162 (by omega) (by omega) ?_
            show wp l rho (d + 4) 165 11 [(2, 151), (0, x1), (0, x2), (0, x3), (9, 0)] [(0, 0)] h11 Q
            refine w_ifeq (t := 36) gz_165_11 rfl (fun u33 => ?_) (fun u33 => by exfalso; omega)
            refine w_iconst gz_165_36 (by decide) ?_
            have c34 := (my_up_self fh11)
            exact w_bret gz_165_37 gm_165 (by omega) (by omega) (k0 h11 (gh11) (by omega))
          ·
            refine w_iconst gz_162_22 (by decide) ?_
            refine w_goto (t := 27) gz_162_23 rfl ?_
            refine w_bret gz_162_27 gm_162 (by omega) (by omega) ?_
            show wp l rho (d + 4) 165 11 [(2, 151), (0, x1), (0, x2), (0, x3), (9, 0)] [(0, 1)] h11 Q
            refine w_ifeq (t := 36) gz_165_11 rfl (fun u35 => by exfalso; omega) (fun u35 => ?_)
            refine w_iload_n gz_165_14 rfl ?_
            refine w_ifeq (t := 36) gz_165_15 rfl (fun u36 => ?_) (fun u36 => ?_)
            ·
              refine w_iconst gz_165_36 (by decide) ?_
              have c37 := (my_up_self fh11)
              exact w_bret gz_165_37 gm_165 (by omega) (by omega) (k0 h11 (gh11) (by omega))
            ·
              refine w_iload_n gz_165_18 rfl ?_
              refine w_iconst gz_165_19 (by decide) ?_
              refine w_iceq (t := 38) gz_165_20 rfl (fun u38 => ?_) (fun u38 => ?_)
              ·
                exact J38_0 h11 (gh11) (by omega) (by omega) (by omega) (by omega) (by omega) (by omega) ((my_up_self fh11).trans (by omega))
              ·
                refine w_aload_n gz_165_23 rfl ?_
                refine w_iload_n gz_165_24 rfl ?_
                refine w_inv (k := 0) (as := [(0, x3)]) (r := []) (x := 151) (ls0 := [(2, 151), (0, x3)]) gz_165_25 gm_149 rfl is_151 rd_10 rfl rfl rfl rfl rfl ?_
                refine w_iload_n gz_149_0 rfl ?_
                refine w_iflt (t := 22) gz_149_1 rfl (fun u39 => ?_) (fun u39 => ?_)
                ·
                  refine w_iconst gz_149_22 (by decide) ?_
                  refine w_bret gz_149_23 gm_149 (by omega) (by omega) ?_
                  show wp l rho (d + 4) 165 28 [(2, 151), (0, x1), (0, x2), (0, x3), (9, 0)] [(0, 0)] h11 Q
                  refine w_ifeq (t := 36) gz_165_28 rfl (fun u40 => ?_) (fun u40 => by exfalso; omega)
                  refine w_iconst gz_165_36 (by decide) ?_
                  have c41 := (my_up_self fh11)
                  exact w_bret gz_165_37 gm_165 (by omega) (by omega) (k0 h11 (gh11) (by omega))
                ·
                  refine w_iload_n gz_149_4 rfl ?_
                  refine w_iconst gz_149_5 (by decide) ?_
                  refine w_icge (t := 22) gz_149_6 rfl (fun u42 => ?_) (fun u42 => ?_)
                  ·
                    refine w_iconst gz_149_22 (by decide) ?_
                    refine w_bret gz_149_23 gm_149 (by omega) (by omega) ?_
                    show wp l rho (d + 4) 165 28 [(2, 151), (0, x1), (0, x2), (0, x3), (9, 0)] [(0, 0)] h11 Q
                    refine w_ifeq (t := 36) gz_165_28 rfl (fun u43 => ?_) (fun u43 => by exfalso; omega)
                    refine w_iconst gz_165_36 (by decide) ?_
                    have c44 := (my_up_self fh11)
                    exact w_bret gz_165_37 gm_165 (by omega) (by omega) (k0 h11 (gh11) (by omega))
                  ·
                    refine w_aload_n gz_149_9 rfl ?_
                    refine w_getX (v := 157) gz_149_10 is_151 rd_10 rfl (by decide) rfl ?_
                    refine w_iload_n gz_149_13 rfl ?_
                    refine w_iald gz_149_14 is_157 rd_56 (by omega) (by omega) (fun v46 ev46 pv46 qv46 => ?_)
                    refine w_ifle (t := 22) gz_149_15 rfl (fun u47 => ?_) (fun u47 => ?_)
                    ·
                      refine w_iconst gz_149_22 (by decide) ?_
                      refine w_bret gz_149_23 gm_149 (by omega) (by omega) ?_
                      show wp l rho (d + 4) 165 28 [(2, 151), (0, x1), (0, x2), (0, x3), (9, 0)] [(0, 0)] h11 Q
                      refine w_ifeq (t := 36) gz_165_28 rfl (fun u48 => ?_) (fun u48 => by exfalso; omega)
                      refine w_iconst gz_165_36 (by decide) ?_
                      have c49 := (my_up_self fh11)
                      exact w_bret gz_165_37 gm_165 (by omega) (by omega) (k0 h11 (gh11) (by omega))
                    ·
                      refine w_iconst gz_149_18 (by decide) ?_
                      refine w_goto (t := 23) gz_149_19 rfl ?_
                      refine w_bret gz_149_23 gm_149 (by omega) (by omega) ?_
                      show wp l rho (d + 4) 165 28 [(2, 151), (0, x1), (0, x2), (0, x3), (9, 0)] [(0, 1)] h11 Q
                      refine w_ifeq (t := 36) gz_165_28 rfl (fun u50 => by exfalso; omega) (fun u50 => ?_)
                      refine w_iload_n gz_165_31 rfl ?_
                      refine w_iload_n gz_165_32 rfl ?_
                      refine w_icne (t := 38) gz_165_33 rfl (fun u51 => ?_) (fun u51 => ?_)
                      ·
                        exact J38_0 h11 (gh11) (by omega) (by omega) (by omega) (by omega) (by omega) (by omega) ((my_up_self fh11).trans (by omega))
                      ·
                        refine w_iconst gz_165_36 (by decide) ?_
                        have c52 := (my_up_self fh11)
                        exact w_bret gz_165_37 gm_165 (by omega) (by omega) (k0 h11 (gh11) (by omega))
theorem gz_166_0 : mz_pg 166 0 = some (.aload_n 0, 0, 0, 0) := by decide +kernel
theorem gz_166_1 : mz_pg 166 1 = some (.iconst 0, 0, 0, 0) := by decide +kernel
theorem gz_166_2 : mz_pg 166 2 = some (.putfield 1, 10, 0, 1213) := by decide +kernel
theorem gz_166_5 : mz_pg 166 5 = some (.aload_n 0, 0, 0, 0) := by decide +kernel
theorem gz_166_6 : mz_pg 166 6 = some (.iload_n 1, 0, 0, 0) := by decide +kernel
theorem gz_166_7 : mz_pg 166 7 = some (.iload_n 2, 0, 0, 0) := by decide +kernel
theorem gz_166_8 : mz_pg 166 8 = some (.invokevirtual 283, 1, 162, 1467) := by decide +kernel
theorem gz_166_11 : mz_pg 166 11 = some (.ifCond .eq 7, 0, 0, 0) := by decide +kernel
theorem gz_166_14 : mz_pg 166 14 = some (.iload_n 2, 0, 0, 0) := by decide +kernel
theorem gz_166_15 : mz_pg 166 15 = some (.ifCond .ne 5, 0, 0, 0) := by decide +kernel
theorem gz_166_18 : mz_pg 166 18 = some (.iconst 0, 0, 0, 0) := by decide +kernel
theorem gz_166_19 : mz_pg 166 19 = some (.ireturn, 0, 0, 0) := by decide +kernel
theorem gz_166_20 : mz_pg 166 20 = some (.aload_n 0, 0, 0, 0) := by decide +kernel
theorem gz_166_21 : mz_pg 166 21 = some (.getfield 73, 10, 14, 1227) := by decide +kernel
theorem gz_166_24 : mz_pg 166 24 = some (.iconst 4, 0, 0, 0) := by decide +kernel
theorem gz_166_25 : mz_pg 166 25 = some (.iload_n 1, 0, 0, 0) := by decide +kernel
theorem gz_166_26 : mz_pg 166 26 = some (.imul, 0, 0, 0) := by decide +kernel
theorem gz_166_27 : mz_pg 166 27 = some (.iload_n 2, 0, 0, 0) := by decide +kernel
theorem gz_166_28 : mz_pg 166 28 = some (.iadd, 0, 0, 0) := by decide +kernel
theorem gz_166_29 : mz_pg 166 29 = some (.baload, 0, 0, 0) := by decide +kernel
theorem gz_166_30 : mz_pg 166 30 = some (.istore 4, 0, 0, 0) := by decide +kernel
theorem gz_166_32 : mz_pg 166 32 = some (.aload_n 0, 0, 0, 0) := by decide +kernel
theorem gz_166_33 : mz_pg 166 33 = some (.getfield 73, 10, 14, 1227) := by decide +kernel
theorem gz_166_36 : mz_pg 166 36 = some (.iconst 4, 0, 0, 0) := by decide +kernel
theorem gz_166_37 : mz_pg 166 37 = some (.iload_n 1, 0, 0, 0) := by decide +kernel
theorem gz_166_38 : mz_pg 166 38 = some (.imul, 0, 0, 0) := by decide +kernel
theorem gz_166_39 : mz_pg 166 39 = some (.iload_n 2, 0, 0, 0) := by decide +kernel
theorem gz_166_40 : mz_pg 166 40 = some (.iadd, 0, 0, 0) := by decide +kernel
theorem gz_166_41 : mz_pg 166 41 = some (.iload_n 3, 0, 0, 0) := by decide +kernel
theorem gz_166_42 : mz_pg 166 42 = some (.bastore, 0, 0, 0) := by decide +kernel
theorem gz_166_43 : mz_pg 166 43 = some (.aload_n 0, 0, 0, 0) := by decide +kernel
theorem gz_166_44 : mz_pg 166 44 = some (.iconst 0, 0, 0, 0) := by decide +kernel
theorem gz_166_45 : mz_pg 166 45 = some (.invokevirtual 260, 1, 155, 1444) := by decide +kernel
theorem gz_166_48 : mz_pg 166 48 = some (.ifCond .ne 17, 0, 0, 0) := by decide +kernel
theorem gz_166_51 : mz_pg 166 51 = some (.aload_n 0, 0, 0, 0) := by decide +kernel
theorem gz_166_52 : mz_pg 166 52 = some (.getfield 73, 10, 14, 1227) := by decide +kernel
theorem gz_166_55 : mz_pg 166 55 = some (.iconst 4, 0, 0, 0) := by decide +kernel
theorem gz_166_56 : mz_pg 166 56 = some (.iload_n 1, 0, 0, 0) := by decide +kernel
theorem gz_166_57 : mz_pg 166 57 = some (.imul, 0, 0, 0) := by decide +kernel
theorem gz_166_58 : mz_pg 166 58 = some (.iload_n 2, 0, 0, 0) := by decide +kernel
theorem gz_166_59 : mz_pg 166 59 = some (.iadd, 0, 0, 0) := by decide +kernel
theorem gz_166_60 : mz_pg 166 60 = some (.iload 4, 0, 0, 0) := by decide +kernel
theorem gz_166_62 : mz_pg 166 62 = some (.bastore, 0, 0, 0) := by decide +kernel
theorem gz_166_63 : mz_pg 166 63 = some (.iconst 0, 0, 0, 0) := by decide +kernel
theorem gz_166_64 : mz_pg 166 64 = some (.ireturn, 0, 0, 0) := by decide +kernel
theorem gz_166_65 : mz_pg 166 65 = some (.iconst 1, 0, 0, 0) := by decide +kernel
theorem gz_166_66 : mz_pg 166 66 = some (.ireturn, 0, 0, 0) := by decide +kernel
theorem gm_166 : my_mm 166 5 (some .boolean) 3 10 := by unfold my_mm; decide +kernel
theorem c71_Model_once {l : Launch} {rho : Nat → Int32} {d : Nat} {h : my_H} {Q : my_H → my_V → Prop} {x1 x2 x3 : Int} (a3 : 0 ≤ x3) (b3 : x3 ≤ 1) (k0 : ∀ (h' : my_H), my_fr [(10, 0), (60, -1)] h h' → h' 151 0 = 0 → Q h' (0, 0)) (k1 : ∀ (h' : my_H), my_fr [(10, 0), (60, -1)] h h' → 0 ≤ x1 → x1 ≤ 2 → 1 ≤ x2 → x2 ≤ 3 → h' 151 0 = 0 → Q h' (0, 1)) : wp l rho (d + 4) 166 0 [(2, 151), (0, x1), (0, x2), (0, x3), (9, 0)] [] h Q := by
  refine w_aload_n gz_166_0 rfl ?_
  refine w_iconst gz_166_1 (by decide) ?_
  refine v_putI (j := 0) gz_166_2 rfl is_151 rd_10 rfl (by omega) (by omega) rfl (fun h1 fh1 => ?_)
  have gh1 : my_fr [(10, 0), (60, -1)] h h1 := my_fr.up my_fr.rf is_151 fh1 rfl
  refine w_aload_n gz_166_5 rfl ?_
  refine w_iload_n gz_166_6 rfl ?_
  refine w_iload_n gz_166_7 rfl ?_
  refine w_inv (k := 0) (as := [(0, x2), (0, x1)]) (r := []) (x := 151) (ls0 := [(2, 151), (0, x1), (0, x2)]) gz_166_8 gm_162 rfl is_151 rd_10 rfl rfl rfl rfl rfl ?_
  refine w_aload_n gz_162_0 rfl ?_
  refine w_iload_n gz_162_1 rfl ?_
  refine w_inv (k := 0) (as := [(0, x1)]) (r := []) (x := 151) (ls0 := [(2, 151), (0, x1)]) gz_162_2 gm_149 rfl is_151 rd_10 rfl rfl rfl rfl rfl ?_
  refine w_iload_n gz_149_0 rfl ?_
  refine w_iflt (t := 22) gz_149_1 rfl (fun u2 => ?_) (fun u2 => ?_)
  ·
    refine w_iconst gz_149_22 (by decide) ?_
    refine w_bret gz_149_23 gm_149 (by omega) (by omega) ?_
    show wp l rho (d + 3) 162 5 [(2, 151), (0, x1), (0, x2)] [(0, 0)] h1 _
    refine w_ifeq (t := 26) gz_162_5 rfl (fun u3 => ?_) (fun u3 => by exfalso; omega)
    refine w_iconst gz_162_26 (by decide) ?_
    refine w_bret gz_162_27 gm_162 (by omega) (by omega) ?_
    show wp l rho (d + 4) 166 11 [(2, 151), (0, x1), (0, x2), (0, x3), (9, 0)] [(0, 0)] h1 Q
    refine w_ifeq (t := 18) gz_166_11 rfl (fun u4 => ?_) (fun u4 => by exfalso; omega)
    refine w_iconst gz_166_18 (by decide) ?_
    have c5 := (my_up_self fh1)
    exact w_bret gz_166_19 gm_166 (by omega) (by omega) (k0 h1 (gh1) (by omega))
  ·
    refine w_iload_n gz_149_4 rfl ?_
    refine w_iconst gz_149_5 (by decide) ?_
    refine w_icge (t := 22) gz_149_6 rfl (fun u6 => ?_) (fun u6 => ?_)
    ·
      refine w_iconst gz_149_22 (by decide) ?_
      refine w_bret gz_149_23 gm_149 (by omega) (by omega) ?_
      show wp l rho (d + 3) 162 5 [(2, 151), (0, x1), (0, x2)] [(0, 0)] h1 _
      refine w_ifeq (t := 26) gz_162_5 rfl (fun u7 => ?_) (fun u7 => by exfalso; omega)
      refine w_iconst gz_162_26 (by decide) ?_
      refine w_bret gz_162_27 gm_162 (by omega) (by omega) ?_
      show wp l rho (d + 4) 166 11 [(2, 151), (0, x1), (0, x2), (0, x3), (9, 0)] [(0, 0)] h1 Q
      refine w_ifeq (t := 18) gz_166_11 rfl (fun u8 => ?_) (fun u8 => by exfalso; omega)
      refine w_iconst gz_166_18 (by decide) ?_
      have c9 := (my_up_self fh1)
      exact w_bret gz_166_19 gm_166 (by omega) (by omega) (k0 h1 (gh1) (by omega))
    ·
      refine w_aload_n gz_149_9 rfl ?_
      refine w_getX (v := 157) gz_149_10 is_151 rd_10 rfl (by decide) rfl ?_
      refine w_iload_n gz_149_13 rfl ?_
      refine w_iald gz_149_14 is_157 rd_56 (by omega) (by omega) (fun v11 ev11 pv11 qv11 => ?_)
      refine w_ifle (t := 22) gz_149_15 rfl (fun u12 => ?_) (fun u12 => ?_)
      ·
        refine w_iconst gz_149_22 (by decide) ?_
        refine w_bret gz_149_23 gm_149 (by omega) (by omega) ?_
        show wp l rho (d + 3) 162 5 [(2, 151), (0, x1), (0, x2)] [(0, 0)] h1 _
        refine w_ifeq (t := 26) gz_162_5 rfl (fun u13 => ?_) (fun u13 => by exfalso; omega)
        refine w_iconst gz_162_26 (by decide) ?_
        refine w_bret gz_162_27 gm_162 (by omega) (by omega) ?_
        show wp l rho (d + 4) 166 11 [(2, 151), (0, x1), (0, x2), (0, x3), (9, 0)] [(0, 0)] h1 Q
        refine w_ifeq (t := 18) gz_166_11 rfl (fun u14 => ?_) (fun u14 => by exfalso; omega)
        refine w_iconst gz_166_18 (by decide) ?_
        have c15 := (my_up_self fh1)
        exact w_bret gz_166_19 gm_166 (by omega) (by omega) (k0 h1 (gh1) (by omega))
      ·
        refine w_iconst gz_149_18 (by decide) ?_
        refine w_goto (t := 23) gz_149_19 rfl ?_
        refine w_bret gz_149_23 gm_149 (by omega) (by omega) ?_
        show wp l rho (d + 3) 162 5 [(2, 151), (0, x1), (0, x2)] [(0, 1)] h1 _
        refine w_ifeq (t := 26) gz_162_5 rfl (fun u16 => by exfalso; omega) (fun u16 => ?_)
        refine w_iload_n gz_162_8 rfl ?_
        refine w_iflt (t := 26) gz_162_9 rfl (fun u17 => ?_) (fun u17 => ?_)
        ·
          refine w_iconst gz_162_26 (by decide) ?_
          refine w_bret gz_162_27 gm_162 (by omega) (by omega) ?_
          show wp l rho (d + 4) 166 11 [(2, 151), (0, x1), (0, x2), (0, x3), (9, 0)] [(0, 0)] h1 Q
          refine w_ifeq (t := 18) gz_166_11 rfl (fun u18 => ?_) (fun u18 => by exfalso; omega)
          refine w_iconst gz_166_18 (by decide) ?_
          have c19 := (my_up_self fh1)
          exact w_bret gz_166_19 gm_166 (by omega) (by omega) (k0 h1 (gh1) (by omega))
        ·
          refine w_iload_n gz_162_12 rfl ?_
          refine w_aload_n gz_162_13 rfl ?_
          refine w_getX (v := 157) gz_162_14 is_151 rd_10 rfl (by decide) rfl ?_
          refine w_iload_n gz_162_17 rfl ?_
          refine w_iald gz_162_18 is_157 rd_56 (by omega) (by omega) (fun v21 ev21 pv21 qv21 => ?_)
          have zv21 := ev21.trans ev11.symm
          refine w_icge (t := 26) gz_162_19 rfl (fun u22 => ?_) (fun u22 => ?_)
          ·
            refine w_iconst gz_162_26 (by decide) ?_
            refine w_bret gz_162_27 gm_162 (by omega) (by omega) ?_
            show wp l rho (d + 4) 166 11 [(2, 151), (0, x1), (0, x2), (0, x3), (9, 0)] [(0, 0)] h1 Q
            refine w_ifeq (t := 18) gz_166_11 rfl (fun u23 => ?_) (fun u23 => by exfalso; omega)
            refine w_iconst gz_166_18 (by decide) ?_
            have c24 := (my_up_self fh1)
            exact w_bret gz_166_19 gm_166 (by omega) (by omega) (k0 h1 (gh1) (by omega))
          ·
            refine w_iconst gz_162_22 (by decide) ?_
            refine w_goto (t := 27) gz_162_23 rfl ?_
            refine w_bret gz_162_27 gm_162 (by omega) (by omega) ?_
            show wp l rho (d + 4) 166 11 [(2, 151), (0, x1), (0, x2), (0, x3), (9, 0)] [(0, 1)] h1 Q
            refine w_ifeq (t := 18) gz_166_11 rfl (fun u25 => by exfalso; omega) (fun u25 => ?_)
            refine w_iload_n gz_166_14 rfl ?_
            refine w_ifne (t := 20) gz_166_15 rfl (fun u26 => ?_) (fun u26 => ?_)
            ·
              refine w_aload_n gz_166_20 rfl ?_
              refine w_getX (v := 161) gz_166_21 is_151 rd_10 rfl (by decide) rfl ?_
              refine w_iconst gz_166_24 (by decide) ?_
              refine w_iload_n gz_166_25 rfl ?_
              refine w_imul gz_166_26 ⟨by omega, by omega⟩ ?_
              refine w_iload_n gz_166_27 rfl ?_
              refine w_iadd gz_166_28 ⟨by omega, by omega⟩ ?_
              refine w_bald gz_166_29 is_161 rd_60 (by omega) (by omega) (fun v28 ev28 pv28 qv28 => ?_)
              refine w_istore (ls' := [(2, 151), (0, x1), (0, x2), (0, x3), (0, v28)]) gz_166_30 gm_166 rfl rfl rfl ?_
              refine w_aload_n gz_166_32 rfl ?_
              refine w_getX (v := 161) gz_166_33 is_151 rd_10 rfl (by decide) rfl ?_
              refine w_iconst gz_166_36 (by decide) ?_
              refine w_iload_n gz_166_37 rfl ?_
              refine w_imul gz_166_38 ⟨by omega, by omega⟩ ?_
              refine w_iload_n gz_166_39 rfl ?_
              refine w_iadd gz_166_40 ⟨by omega, by omega⟩ ?_
              refine w_iload_n gz_166_41 rfl ?_
              refine w_bast gz_166_42 is_161 rd_60 (by omega) (by omega) (by omega) (by omega) (fun h30 fh30 => ?_)
              have gh30 : my_fr [(10, 0), (60, -1)] h h30 := my_fr.up gh1 is_161 fh30 rfl
              refine w_aload_n gz_166_43 rfl ?_
              refine w_iconst gz_166_44 (by decide) ?_
              refine w_inv (k := 2) (as := [(0, 0)]) (r := []) (x := 151) (ls0 := [(2, 151), (0, 0), (9, 0), (9, 0)]) gz_166_45 gm_155 rfl is_151 rd_10 rfl rfl rfl rfl rfl (c68_Model_isLawful (d := d) (x1 := 0) (by omega) (by omega) ?_ ?_)
              ·
                show wp l rho (d + 4) 166 48 [(2, 151), (0, x1), (0, x2), (0, x3), (0, v28)] [(0, 0)] h30 Q
                refine w_ifne (t := 65) gz_166_48 rfl (fun u31 => by exfalso; omega) (fun u31 => ?_)
                refine w_aload_n gz_166_51 rfl ?_
                refine w_getX (v := 161) gz_166_52 is_151 rd_10 rfl (by decide) rfl ?_
                refine w_iconst gz_166_55 (by decide) ?_
                refine w_iload_n gz_166_56 rfl ?_
                refine w_imul gz_166_57 ⟨by omega, by omega⟩ ?_
                refine w_iload_n gz_166_58 rfl ?_
                refine w_iadd gz_166_59 ⟨by omega, by omega⟩ ?_
                refine w_iload gz_166_60 rfl ?_
                refine w_bast gz_166_62 is_161 rd_60 (by omega) (by omega) (by omega) (by omega) (fun h33 fh33 => ?_)
                have gh33 : my_fr [(10, 0), (60, -1)] h h33 := my_fr.up gh30 is_161 fh33 rfl
                refine w_iconst gz_166_63 (by decide) ?_
                have c34 := ((my_up_role fh33 is_151 is_161 rfl).trans ((my_up_role fh30 is_151 is_161 rfl).trans (my_up_self fh1)))
                exact w_bret gz_166_64 gm_166 (by omega) (by omega) (k0 h33 (gh33) (by omega))
              ·
                show wp l rho (d + 4) 166 48 [(2, 151), (0, x1), (0, x2), (0, x3), (0, v28)] [(0, 1)] h30 Q
                refine w_ifne (t := 65) gz_166_48 rfl (fun u35 => ?_) (fun u35 => by exfalso; omega)
                refine w_iconst gz_166_65 (by decide) ?_
                have c36 := ((my_up_role fh30 is_151 is_161 rfl).trans (my_up_self fh1))
                exact w_bret gz_166_66 gm_166 (by omega) (by omega) (k1 h30 (gh30) (by omega) (by omega) (by omega) (by omega) (by omega))
            ·
              refine w_iconst gz_166_18 (by decide) ?_
              have c37 := (my_up_self fh1)
              exact w_bret gz_166_19 gm_166 (by omega) (by omega) (k0 h1 (gh1) (by omega))
theorem gz_19_0 : mz_pg 19 0 = some (.iconst 0, 0, 0, 0) := by decide +kernel
theorem gz_19_1 : mz_pg 19 1 = some (.istore_n 2, 0, 0, 0) := by decide +kernel
theorem gz_19_2 : mz_pg 19 2 = some (.iload_n 2, 0, 0, 0) := by decide +kernel
theorem gz_19_3 : mz_pg 19 3 = some (.aload_n 0, 0, 0, 0) := by decide +kernel
theorem gz_19_4 : mz_pg 19 4 = some (.getfield 21, 3, 3, 153) := by decide +kernel
theorem gz_19_7 : mz_pg 19 7 = some (.arraylength, 0, 0, 0) := by decide +kernel
theorem gz_19_8 : mz_pg 19 8 = some (.if_icmp .ge 115, 0, 0, 0) := by decide +kernel
theorem gz_19_11 : mz_pg 19 11 = some (.iload_n 2, 0, 0, 0) := by decide +kernel
theorem gz_19_12 : mz_pg 19 12 = some (.iconst 4, 0, 0, 0) := by decide +kernel
theorem gz_19_13 : mz_pg 19 13 = some (.idiv, 0, 0, 0) := by decide +kernel
theorem gz_19_14 : mz_pg 19 14 = some (.istore_n 3, 0, 0, 0) := by decide +kernel
theorem gz_19_15 : mz_pg 19 15 = some (.iload_n 2, 0, 0, 0) := by decide +kernel
theorem gz_19_16 : mz_pg 19 16 = some (.iconst 4, 0, 0, 0) := by decide +kernel
theorem gz_19_17 : mz_pg 19 17 = some (.irem, 0, 0, 0) := by decide +kernel
theorem gz_19_18 : mz_pg 19 18 = some (.istore 4, 0, 0, 0) := by decide +kernel
theorem gz_19_20 : mz_pg 19 20 = some (.iconst 0, 0, 0, 0) := by decide +kernel
theorem gz_19_21 : mz_pg 19 21 = some (.istore 5, 0, 0, 0) := by decide +kernel
theorem gz_19_23 : mz_pg 19 23 = some (.aload_n 1, 0, 0, 0) := by decide +kernel
theorem gz_19_24 : mz_pg 19 24 = some (.iload_n 3, 0, 0, 0) := by decide +kernel
theorem gz_19_25 : mz_pg 19 25 = some (.iload 4, 0, 0, 0) := by decide +kernel
theorem gz_19_27 : mz_pg 19 27 = some (.aload_n 0, 0, 0, 0) := by decide +kernel
theorem gz_19_28 : mz_pg 19 28 = some (.getfield 15, 3, 1, 149) := by decide +kernel
theorem gz_19_31 : mz_pg 19 31 = some (.iload_n 2, 0, 0, 0) := by decide +kernel
theorem gz_19_32 : mz_pg 19 32 = some (.iaload, 0, 0, 0) := by decide +kernel
theorem gz_19_33 : mz_pg 19 33 = some (.aload_n 0, 0, 0, 0) := by decide +kernel
theorem gz_19_34 : mz_pg 19 34 = some (.getfield 18, 3, 2, 151) := by decide +kernel
theorem gz_19_37 : mz_pg 19 37 = some (.iload_n 2, 0, 0, 0) := by decide +kernel
theorem gz_19_38 : mz_pg 19 38 = some (.iaload, 0, 0, 0) := by decide +kernel
theorem gz_19_39 : mz_pg 19 39 = some (.invokevirtual 36, 1, 20, 607) := by decide +kernel
theorem gz_19_42 : mz_pg 19 42 = some (.ifCond .le 9, 0, 0, 0) := by decide +kernel
theorem gz_19_45 : mz_pg 19 45 = some (.iconst 1, 0, 0, 0) := by decide +kernel
theorem gz_19_46 : mz_pg 19 46 = some (.istore 5, 0, 0, 0) := by decide +kernel
theorem gz_19_48 : mz_pg 19 48 = some (.goto 57, 0, 0, 0) := by decide +kernel
theorem gz_19_51 : mz_pg 19 51 = some (.aload_n 0, 0, 0, 0) := by decide +kernel
theorem gz_19_52 : mz_pg 19 52 = some (.getfield 21, 3, 3, 153) := by decide +kernel
theorem gz_19_55 : mz_pg 19 55 = some (.iload_n 2, 0, 0, 0) := by decide +kernel
theorem gz_19_56 : mz_pg 19 56 = some (.iaload, 0, 0, 0) := by decide +kernel
theorem gz_19_57 : mz_pg 19 57 = some (.iconst (-1), 0, 0, 0) := by decide +kernel
theorem gz_19_58 : mz_pg 19 58 = some (.if_icmp .eq 25, 0, 0, 0) := by decide +kernel
theorem gz_19_61 : mz_pg 19 61 = some (.aload_n 1, 0, 0, 0) := by decide +kernel
theorem gz_19_62 : mz_pg 19 62 = some (.iload_n 3, 0, 0, 0) := by decide +kernel
theorem gz_19_63 : mz_pg 19 63 = some (.iload 4, 0, 0, 0) := by decide +kernel
theorem gz_19_65 : mz_pg 19 65 = some (.aload_n 0, 0, 0, 0) := by decide +kernel
theorem gz_19_66 : mz_pg 19 66 = some (.getfield 21, 3, 3, 153) := by decide +kernel
theorem gz_19_69 : mz_pg 19 69 = some (.iload_n 2, 0, 0, 0) := by decide +kernel
theorem gz_19_70 : mz_pg 19 70 = some (.iaload, 0, 0, 0) := by decide +kernel
theorem gz_19_71 : mz_pg 19 71 = some (.invokestatic 42, 1, 21, 611) := by decide +kernel
theorem gz_19_74 : mz_pg 19 74 = some (.ifCond .ne 9, 0, 0, 0) := by decide +kernel
theorem gz_19_77 : mz_pg 19 77 = some (.iconst 2, 0, 0, 0) := by decide +kernel
theorem gz_19_78 : mz_pg 19 78 = some (.istore 5, 0, 0, 0) := by decide +kernel
theorem gz_19_80 : mz_pg 19 80 = some (.goto 25, 0, 0, 0) := by decide +kernel
theorem gz_19_83 : mz_pg 19 83 = some (.aload_n 0, 0, 0, 0) := by decide +kernel
theorem gz_19_84 : mz_pg 19 84 = some (.getfield 24, 3, 4, 155) := by decide +kernel
theorem gz_19_87 : mz_pg 19 87 = some (.iload_n 2, 0, 0, 0) := by decide +kernel
theorem gz_19_88 : mz_pg 19 88 = some (.baload, 0, 0, 0) := by decide +kernel
theorem gz_19_89 : mz_pg 19 89 = some (.ifCond .eq 16, 0, 0, 0) := by decide +kernel
theorem gz_19_92 : mz_pg 19 92 = some (.aload_n 1, 0, 0, 0) := by decide +kernel
theorem gz_19_93 : mz_pg 19 93 = some (.iload_n 3, 0, 0, 0) := by decide +kernel
theorem gz_19_94 : mz_pg 19 94 = some (.iload 4, 0, 0, 0) := by decide +kernel
theorem gz_19_96 : mz_pg 19 96 = some (.invokestatic 46, 1, 22, 615) := by decide +kernel
theorem gz_19_99 : mz_pg 19 99 = some (.ifCond .ne 6, 0, 0, 0) := by decide +kernel
theorem gz_19_102 : mz_pg 19 102 = some (.iconst 3, 0, 0, 0) := by decide +kernel
theorem gz_19_103 : mz_pg 19 103 = some (.istore 5, 0, 0, 0) := by decide +kernel
theorem gz_19_105 : mz_pg 19 105 = some (.iload 5, 0, 0, 0) := by decide +kernel
theorem gz_19_107 : mz_pg 19 107 = some (.ifCond .eq 10, 0, 0, 0) := by decide +kernel
theorem gz_19_110 : mz_pg 19 110 = some (.iconst 4, 0, 0, 0) := by decide +kernel
theorem gz_19_111 : mz_pg 19 111 = some (.iload_n 2, 0, 0, 0) := by decide +kernel
theorem gz_19_112 : mz_pg 19 112 = some (.imul, 0, 0, 0) := by decide +kernel
theorem gz_19_113 : mz_pg 19 113 = some (.iload 5, 0, 0, 0) := by decide +kernel
theorem gz_19_115 : mz_pg 19 115 = some (.iadd, 0, 0, 0) := by decide +kernel
theorem gz_19_116 : mz_pg 19 116 = some (.ireturn, 0, 0, 0) := by decide +kernel
theorem gz_19_117 : mz_pg 19 117 = some (.iinc 2 1, 0, 0, 0) := by decide +kernel
theorem gz_19_120 : mz_pg 19 120 = some (.goto (-118), 0, 0, 0) := by decide +kernel
theorem gz_19_123 : mz_pg 19 123 = some (.iconst (-1), 0, 0, 0) := by decide +kernel
theorem gz_19_124 : mz_pg 19 124 = some (.ireturn, 0, 0, 0) := by decide +kernel
theorem gm_19 : my_mm 19 6 (some .int) 1 3 := by unfold my_mm; decide +kernel
theorem c72_Laws_firstBroken {l : Launch} {rho : Nat → Int32} {d : Nat} {h : my_H} {Q : my_H → my_V → Prop} {x1 : Int} (t1 : my_is 6 x1) (k0 : Q h (0, (-1))) (k1 : ∀ (y : Int), 1 ≤ y → y ≤ 47 → Q h (0, y)) : wp l rho (d + 2) 19 0 [(2, 1), (2, x1), (9, 0), (9, 0), (9, 0), (9, 0)] [] h Q := by
  have J2_0 : ∀ (n : Nat) (p2_0 : Int), 0 ≤ p2_0 → p2_0 ≤ 12 → 13 - p2_0 ≤ (n : Int) → wp l rho (d + 2) 19 2 [(2, 1), (2, x1), (0, p2_0), (9, 0), (9, 0), (9, 0)] [] h Q := by
    intro n
    induction n with
    | zero => intro p2_0 q0_2_0 q1_2_0 hm_2_0; exfalso; omega
    | succ n ih_2_0 =>
      intro p2_0 q0_2_0 q1_2_0 hm_2_0
      have J105_2 : ∀ (p105_0 p105_1 p105_2 : Int), p2_0 ≤ 11 → 0 ≤ p105_0 → p105_0 ≤ 2 → 0 ≤ p105_1 → p105_1 ≤ 3 → 2 ≤ p105_2 → p105_2 ≤ 3 → wp l rho (d + 2) 19 105 [(2, 1), (2, x1), (0, p2_0), (0, p105_0), (0, p105_1), (0, p105_2)] [] h Q := by
        intro p105_0 p105_1 p105_2 q0_105_2 q1_105_2 q2_105_2 q3_105_2 q4_105_2 q5_105_2 q6_105_2
        refine w_iload gz_19_105 rfl ?_
        refine w_ifeq (t := 117) gz_19_107 rfl (fun u1 => by exfalso; omega) (fun u1 => ?_)
        refine w_iconst gz_19_110 (by decide) ?_
        refine w_iload_n gz_19_111 rfl ?_
        refine w_imul gz_19_112 ⟨by omega, by omega⟩ ?_
        refine w_iload gz_19_113 rfl ?_
        refine w_iadd gz_19_115 ⟨by omega, by omega⟩ ?_
        exact w_iret gz_19_116 gm_19 (k1 (((4 * p2_0) + p105_2)) (by omega) (by omega))
      have J105_0 : ∀ (p105_0 p105_1 : Int), p2_0 ≤ 11 → 0 ≤ p105_0 → p105_0 ≤ 2 → 0 ≤ p105_1 → p105_1 ≤ 3 → wp l rho (d + 2) 19 105 [(2, 1), (2, x1), (0, p2_0), (0, p105_0), (0, p105_1), (0, 0)] [] h Q := by
        intro p105_0 p105_1 q0_105_0 q1_105_0 q2_105_0 q3_105_0 q4_105_0
        refine w_iload gz_19_105 rfl ?_
        refine w_ifeq (t := 117) gz_19_107 rfl (fun u2 => ?_) (fun u2 => by exfalso; omega)
        refine w_iinc (ls' := [(2, 1), (2, x1), (0, (p2_0 + 1)), (0, p105_0), (0, p105_1), (0, 0)]) gz_19_117 rfl gm_19 rfl rfl rfl ⟨by omega, by omega⟩ ?_
        refine w_goto (t := 2) gz_19_120 rfl ?_
        refine w_weak (ls' := [(2, 1), (2, x1), (0, (p2_0 + 1)), (9, 0), (9, 0), (9, 0)]) (wk_e (wk_e (wk_e (wk_9 (wk_9 (wk_9 wk_n)))))) ?_
        exact ih_2_0 ((p2_0 + 1)) (by omega) (by omega) (by omega)
      have J83_0 : ∀ (p83_0 p83_1 : Int), p2_0 ≤ 11 → 0 ≤ p83_0 → p83_0 ≤ 2 → 0 ≤ p83_1 → p83_1 ≤ 3 → wp l rho (d + 2) 19 83 [(2, 1), (2, x1), (0, p2_0), (0, p83_0), (0, p83_1), (0, 0)] [] h Q := by
        intro p83_0 p83_1 q0_83_0 q1_83_0 q2_83_0 q3_83_0 q4_83_0
        refine w_aload_n gz_19_83 rfl ?_
        refine w_getX (v := 6) gz_19_84 is_1 rd_3 rfl (by decide) rfl ?_
        refine w_iload_n gz_19_87 rfl ?_
        refine w_bald gz_19_88 is_6 rd_29 (by omega) (by omega) (fun v4 ev4 pv4 qv4 => ?_)
        refine w_ifeq (t := 105) gz_19_89 rfl (fun u5 => ?_) (fun u5 => ?_)
        ·
          exact J105_0 (p83_0) (p83_1) (by omega) (by omega) (by omega) (by omega) (by omega)
        ·
          refine w_aload_n gz_19_92 rfl ?_
          refine w_iload_n gz_19_93 rfl ?_
          refine w_iload gz_19_94 rfl ?_
          refine w_inS (k := 4) (as := [(0, p83_1), (0, p83_0), (2, x1)]) (r := []) (ls0 := [(2, x1), (0, p83_0), (0, p83_1), (9, 0), (9, 0), (9, 0), (9, 0)]) gz_19_96 gm_22 rfl rfl rfl rfl rfl rfl (c38_Laws_isSingle (d := d) (x0 := x1) (x1 := p83_0) (x2 := p83_1) t1 (by omega) (by omega) (by omega) (by omega) ?_ ?_)
          ·
            show wp l rho (d + 2) 19 99 [(2, 1), (2, x1), (0, p2_0), (0, p83_0), (0, p83_1), (0, 0)] [(0, 0)] h Q
            refine w_ifne (t := 105) gz_19_99 rfl (fun u6 => by exfalso; omega) (fun u6 => ?_)
            refine w_iconst gz_19_102 (by decide) ?_
            refine w_istore (ls' := [(2, 1), (2, x1), (0, p2_0), (0, p83_0), (0, p83_1), (0, 3)]) gz_19_103 gm_19 rfl rfl rfl ?_
            exact J105_2 (p83_0) (p83_1) (3) (by omega) (by omega) (by omega) (by omega) (by omega) (by omega) (by omega)
          ·
            show wp l rho (d + 2) 19 99 [(2, 1), (2, x1), (0, p2_0), (0, p83_0), (0, p83_1), (0, 0)] [(0, 1)] h Q
            refine w_ifne (t := 105) gz_19_99 rfl (fun u7 => ?_) (fun u7 => by exfalso; omega)
            exact J105_0 (p83_0) (p83_1) (by omega) (by omega) (by omega) (by omega) (by omega)
      refine w_iload_n gz_19_2 rfl ?_
      refine w_aload_n gz_19_3 rfl ?_
      refine w_getX (v := 5) gz_19_4 is_1 rd_3 rfl (by decide) rfl ?_
      refine v_alen (j := 12) gz_19_7 rfl is_5 rd_28 (by decide) ?_
      refine w_icge (t := 123) gz_19_8 rfl (fun u9 => ?_) (fun u9 => ?_)
      ·
        refine w_iconst gz_19_123 (by decide) ?_
        exact w_iret gz_19_124 gm_19 (k0 )
      ·
        refine w_iload_n gz_19_11 rfl ?_
        refine w_iconst gz_19_12 (by decide) ?_
        refine w_idiv gz_19_13 (by omega) (by decide) ?_
        refine w_istore_n (ls' := [(2, 1), (2, x1), (0, p2_0), (0, (p2_0 / 4)), (9, 0), (9, 0)]) gz_19_14 gm_19 rfl rfl rfl ?_
        refine w_iload_n gz_19_15 rfl ?_
        refine w_iconst gz_19_16 (by decide) ?_
        refine w_irem gz_19_17 (by omega) (by decide) ?_
        refine w_istore (ls' := [(2, 1), (2, x1), (0, p2_0), (0, (p2_0 / 4)), (0, (p2_0 % 4)), (9, 0)]) gz_19_18 gm_19 rfl rfl rfl ?_
        refine w_iconst gz_19_20 (by decide) ?_
        refine w_istore (ls' := [(2, 1), (2, x1), (0, p2_0), (0, (p2_0 / 4)), (0, (p2_0 % 4)), (0, 0)]) gz_19_21 gm_19 rfl rfl rfl ?_
        refine w_aload_n gz_19_23 rfl ?_
        refine w_iload_n gz_19_24 rfl ?_
        refine w_iload gz_19_25 rfl ?_
        refine w_aload_n gz_19_27 rfl ?_
        refine w_getX (v := 3) gz_19_28 is_1 rd_3 rfl (by decide) rfl ?_
        refine w_iload_n gz_19_31 rfl ?_
        refine w_iald gz_19_32 is_3 rd_26 (by omega) (by omega) (fun v11 ev11 pv11 qv11 => ?_)
        refine w_aload_n gz_19_33 rfl ?_
        refine w_getX (v := 4) gz_19_34 is_1 rd_3 rfl (by decide) rfl ?_
        refine w_iload_n gz_19_37 rfl ?_
        refine w_iald gz_19_38 is_4 rd_27 (by omega) (by omega) (fun v13 ev13 pv13 qv13 => ?_)
        refine w_inv (k := 3) (as := [(0, v13), (0, v11), (0, (p2_0 % 4)), (0, (p2_0 / 4))]) (r := []) (x := x1) (ls0 := [(2, x1), (0, (p2_0 / 4)), (0, (p2_0 % 4)), (0, v11), (0, v13), (9, 0), (9, 0), (9, 0)]) gz_19_39 gm_20 rfl t1 rd_6 rfl rfl rfl rfl rfl (c30_Rows_outside (d := d) (x0 := x1) (x1 := (p2_0 / 4)) (x2 := (p2_0 % 4)) (x3 := v11) (x4 := v13) t1 (by omega) (by omega) (by omega) (by omega) (by omega) (by omega) (by omega) (by omega) (fun v14 w15 w16 => ?_))
        show wp l rho (d + 2) 19 42 [(2, 1), (2, x1), (0, p2_0), (0, (p2_0 / 4)), (0, (p2_0 % 4)), (0, 0)] [(0, v14)] h Q
        refine w_ifle (t := 51) gz_19_42 rfl (fun u17 => ?_) (fun u17 => ?_)
        ·
          refine w_aload_n gz_19_51 rfl ?_
          refine w_getX (v := 5) gz_19_52 is_1 rd_3 rfl (by decide) rfl ?_
          refine w_iload_n gz_19_55 rfl ?_
          refine w_iald gz_19_56 is_5 rd_28 (by omega) (by omega) (fun v19 ev19 pv19 qv19 => ?_)
          refine w_iconst gz_19_57 (by decide) ?_
          refine w_iceq (t := 83) gz_19_58 rfl (fun u20 => ?_) (fun u20 => ?_)
          ·
            exact J83_0 ((p2_0 / 4)) ((p2_0 % 4)) (by omega) (by omega) (by omega) (by omega) (by omega)
          ·
            refine w_aload_n gz_19_61 rfl ?_
            refine w_iload_n gz_19_62 rfl ?_
            refine w_iload gz_19_63 rfl ?_
            refine w_aload_n gz_19_65 rfl ?_
            refine w_getX (v := 5) gz_19_66 is_1 rd_3 rfl (by decide) rfl ?_
            refine w_iload_n gz_19_69 rfl ?_
            refine w_iald gz_19_70 is_5 rd_28 (by omega) (by omega) (fun v22 ev22 pv22 qv22 => ?_)
            have zv22 := ev22.trans ev19.symm
            refine w_inS (k := 2) (as := [(0, v22), (0, (p2_0 % 4)), (0, (p2_0 / 4)), (2, x1)]) (r := []) (ls0 := [(2, x1), (0, (p2_0 / 4)), (0, (p2_0 % 4)), (0, v22), (9, 0), (9, 0)]) gz_19_71 gm_21 rfl rfl rfl rfl rfl rfl (c34_Laws_namesKeys (d := d) (x0 := x1) (x1 := (p2_0 / 4)) (x2 := (p2_0 % 4)) (x3 := v22) t1 (by omega) (by omega) (by omega) (by omega) (by omega) (by omega) ?_ ?_)
            ·
              show wp l rho (d + 2) 19 74 [(2, 1), (2, x1), (0, p2_0), (0, (p2_0 / 4)), (0, (p2_0 % 4)), (0, 0)] [(0, 0)] h Q
              refine w_ifne (t := 83) gz_19_74 rfl (fun u23 => by exfalso; omega) (fun u23 => ?_)
              refine w_iconst gz_19_77 (by decide) ?_
              refine w_istore (ls' := [(2, 1), (2, x1), (0, p2_0), (0, (p2_0 / 4)), (0, (p2_0 % 4)), (0, 2)]) gz_19_78 gm_19 rfl rfl rfl ?_
              refine w_goto (t := 105) gz_19_80 rfl ?_
              exact J105_2 ((p2_0 / 4)) ((p2_0 % 4)) (2) (by omega) (by omega) (by omega) (by omega) (by omega) (by omega) (by omega)
            ·
              show wp l rho (d + 2) 19 74 [(2, 1), (2, x1), (0, p2_0), (0, (p2_0 / 4)), (0, (p2_0 % 4)), (0, 0)] [(0, 1)] h Q
              refine w_ifne (t := 83) gz_19_74 rfl (fun u24 => ?_) (fun u24 => by exfalso; omega)
              exact J83_0 ((p2_0 / 4)) ((p2_0 % 4)) (by omega) (by omega) (by omega) (by omega) (by omega)
        ·
          refine w_iconst gz_19_45 (by decide) ?_
          refine w_istore (ls' := [(2, 1), (2, x1), (0, p2_0), (0, (p2_0 / 4)), (0, (p2_0 % 4)), (0, 1)]) gz_19_46 gm_19 rfl rfl rfl ?_
          refine w_goto (t := 105) gz_19_48 rfl ?_
          refine w_iload gz_19_105 rfl ?_
          refine w_ifeq (t := 117) gz_19_107 rfl (fun u25 => by exfalso; omega) (fun u25 => ?_)
          refine w_iconst gz_19_110 (by decide) ?_
          refine w_iload_n gz_19_111 rfl ?_
          refine w_imul gz_19_112 ⟨by omega, by omega⟩ ?_
          refine w_iload gz_19_113 rfl ?_
          refine w_iadd gz_19_115 ⟨by omega, by omega⟩ ?_
          exact w_iret gz_19_116 gm_19 (k1 (((4 * p2_0) + 1)) (by omega) (by omega))
  refine w_iconst gz_19_0 (by decide) ?_
  refine w_istore_n (ls' := [(2, 1), (2, x1), (0, 0), (9, 0), (9, 0), (9, 0)]) gz_19_1 gm_19 rfl rfl rfl ?_
  exact J2_0 13 (0) (by omega) (by omega) (by omega)
theorem gz_234_0 : mz_pg 234 0 = some (.aload_n 0, 0, 0, 0) := by decide +kernel
theorem gz_234_1 : mz_pg 234 1 = some (.iconst 0, 0, 0, 0) := by decide +kernel
theorem gz_234_2 : mz_pg 234 2 = some (.putfield 1, 10, 0, 1213) := by decide +kernel
theorem gz_234_5 : mz_pg 234 5 = some (.aload_n 0, 0, 0, 0) := by decide +kernel
theorem gz_234_6 : mz_pg 234 6 = some (.iload_n 1, 0, 0, 0) := by decide +kernel
theorem gz_234_7 : mz_pg 234 7 = some (.invokevirtual 257, 1, 149, 1426) := by decide +kernel
theorem gz_234_10 : mz_pg 234 10 = some (.ifCond .eq 28, 0, 0, 0) := by decide +kernel
theorem gz_234_13 : mz_pg 234 13 = some (.iload_n 2, 0, 0, 0) := by decide +kernel
theorem gz_234_14 : mz_pg 234 14 = some (.ifCond .lt 24, 0, 0, 0) := by decide +kernel
theorem gz_234_17 : mz_pg 234 17 = some (.iload_n 2, 0, 0, 0) := by decide +kernel
theorem gz_234_18 : mz_pg 234 18 = some (.iconst 1, 0, 0, 0) := by decide +kernel
theorem gz_234_19 : mz_pg 234 19 = some (.aload_n 0, 0, 0, 0) := by decide +kernel
theorem gz_234_20 : mz_pg 234 20 = some (.iconst 0, 0, 0, 0) := by decide +kernel
theorem gz_234_21 : mz_pg 234 21 = some (.iload_n 1, 0, 0, 0) := by decide +kernel
theorem gz_234_22 : mz_pg 234 22 = some (.invokevirtual 267, 1, 151, 1432) := by decide +kernel
theorem gz_234_25 : mz_pg 234 25 = some (.ishl, 0, 0, 0) := by decide +kernel
theorem gz_234_26 : mz_pg 234 26 = some (.if_icmp .ge 12, 0, 0, 0) := by decide +kernel
theorem gz_234_29 : mz_pg 234 29 = some (.iload_n 3, 0, 0, 0) := by decide +kernel
theorem gz_234_30 : mz_pg 234 30 = some (.iconst 0, 0, 0, 0) := by decide +kernel
theorem gz_234_31 : mz_pg 234 31 = some (.iconst 3, 0, 0, 0) := by decide +kernel
theorem gz_234_32 : mz_pg 234 32 = some (.invokestatic 250, 1, 147, 1419) := by decide +kernel
theorem gz_234_35 : mz_pg 234 35 = some (.ifCond .ne 5, 0, 0, 0) := by decide +kernel
theorem gz_234_38 : mz_pg 234 38 = some (.iconst (-1), 0, 0, 0) := by decide +kernel
theorem gz_234_39 : mz_pg 234 39 = some (.ireturn, 0, 0, 0) := by decide +kernel
theorem gz_234_40 : mz_pg 234 40 = some (.iconst 0, 0, 0, 0) := by decide +kernel
theorem gz_234_41 : mz_pg 234 41 = some (.istore 4, 0, 0, 0) := by decide +kernel
theorem gz_234_43 : mz_pg 234 43 = some (.iconst (-1), 0, 0, 0) := by decide +kernel
theorem gz_234_44 : mz_pg 234 44 = some (.istore 5, 0, 0, 0) := by decide +kernel
theorem gz_234_46 : mz_pg 234 46 = some (.iconst 0, 0, 0, 0) := by decide +kernel
theorem gz_234_47 : mz_pg 234 47 = some (.istore 6, 0, 0, 0) := by decide +kernel
theorem gz_234_49 : mz_pg 234 49 = some (.iload 6, 0, 0, 0) := by decide +kernel
theorem gz_234_51 : mz_pg 234 51 = some (.sipush 600, 0, 0, 0) := by decide +kernel
theorem gz_234_54 : mz_pg 234 54 = some (.aload_n 0, 0, 0, 0) := by decide +kernel
theorem gz_234_55 : mz_pg 234 55 = some (.getfield 61, 10, 10, 1223) := by decide +kernel
theorem gz_234_58 : mz_pg 234 58 = some (.iload_n 1, 0, 0, 0) := by decide +kernel
theorem gz_234_59 : mz_pg 234 59 = some (.iaload, 0, 0, 0) := by decide +kernel
theorem gz_234_60 : mz_pg 234 60 = some (.imul, 0, 0, 0) := by decide +kernel
theorem gz_234_61 : mz_pg 234 61 = some (.if_icmp .ge 55, 0, 0, 0) := by decide +kernel
theorem gz_234_64 : mz_pg 234 64 = some (.aload_n 0, 0, 0, 0) := by decide +kernel
theorem gz_234_65 : mz_pg 234 65 = some (.iload_n 1, 0, 0, 0) := by decide +kernel
theorem gz_234_66 : mz_pg 234 66 = some (.iload_n 2, 0, 0, 0) := by decide +kernel
theorem gz_234_67 : mz_pg 234 67 = some (.iload 6, 0, 0, 0) := by decide +kernel
theorem gz_234_69 : mz_pg 234 69 = some (.sipush 600, 0, 0, 0) := by decide +kernel
theorem gz_234_72 : mz_pg 234 72 = some (.idiv, 0, 0, 0) := by decide +kernel
theorem gz_234_73 : mz_pg 234 73 = some (.iload 6, 0, 0, 0) := by decide +kernel
theorem gz_234_75 : mz_pg 234 75 = some (.sipush 200, 0, 0, 0) := by decide +kernel
theorem gz_234_78 : mz_pg 234 78 = some (.idiv, 0, 0, 0) := by decide +kernel
theorem gz_234_79 : mz_pg 234 79 = some (.iconst 3, 0, 0, 0) := by decide +kernel
theorem gz_234_80 : mz_pg 234 80 = some (.irem, 0, 0, 0) := by decide +kernel
theorem gz_234_81 : mz_pg 234 81 = some (.iload 6, 0, 0, 0) := by decide +kernel
theorem gz_234_83 : mz_pg 234 83 = some (.sipush 200, 0, 0, 0) := by decide +kernel
theorem gz_234_86 : mz_pg 234 86 = some (.irem, 0, 0, 0) := by decide +kernel
theorem gz_234_87 : mz_pg 234 87 = some (.invokevirtual 460, 1, 235, 1708) := by decide +kernel
theorem gz_234_90 : mz_pg 234 90 = some (.ifCond .eq 20, 0, 0, 0) := by decide +kernel
theorem gz_234_93 : mz_pg 234 93 = some (.iload 4, 0, 0, 0) := by decide +kernel
theorem gz_234_95 : mz_pg 234 95 = some (.ifCond .ne 8, 0, 0, 0) := by decide +kernel
theorem gz_234_98 : mz_pg 234 98 = some (.iload 6, 0, 0, 0) := by decide +kernel
theorem gz_234_100 : mz_pg 234 100 = some (.goto 5, 0, 0, 0) := by decide +kernel
theorem gz_234_103 : mz_pg 234 103 = some (.iload 5, 0, 0, 0) := by decide +kernel
theorem gz_234_105 : mz_pg 234 105 = some (.istore 5, 0, 0, 0) := by decide +kernel
theorem gz_234_107 : mz_pg 234 107 = some (.iinc 4 1, 0, 0, 0) := by decide +kernel
theorem gz_234_110 : mz_pg 234 110 = some (.iinc 6 1, 0, 0, 0) := by decide +kernel
theorem gz_234_113 : mz_pg 234 113 = some (.goto (-64), 0, 0, 0) := by decide +kernel
theorem gz_234_116 : mz_pg 234 116 = some (.iload_n 3, 0, 0, 0) := by decide +kernel
theorem gz_234_117 : mz_pg 234 117 = some (.ifCond .ne 8, 0, 0, 0) := by decide +kernel
theorem gz_234_120 : mz_pg 234 120 = some (.iload 4, 0, 0, 0) := by decide +kernel
theorem gz_234_122 : mz_pg 234 122 = some (.goto 48, 0, 0, 0) := by decide +kernel
theorem gz_234_125 : mz_pg 234 125 = some (.iload 4, 0, 0, 0) := by decide +kernel
theorem gz_234_127 : mz_pg 234 127 = some (.ifCond .ne 7, 0, 0, 0) := by decide +kernel
theorem gz_234_130 : mz_pg 234 130 = some (.iconst (-1), 0, 0, 0) := by decide +kernel
theorem gz_234_131 : mz_pg 234 131 = some (.goto 39, 0, 0, 0) := by decide +kernel
theorem gz_234_134 : mz_pg 234 134 = some (.iload_n 3, 0, 0, 0) := by decide +kernel
theorem gz_234_135 : mz_pg 234 135 = some (.iconst 1, 0, 0, 0) := by decide +kernel
theorem gz_234_136 : mz_pg 234 136 = some (.if_icmp .ne 12, 0, 0, 0) := by decide +kernel
theorem gz_234_139 : mz_pg 234 139 = some (.iload 5, 0, 0, 0) := by decide +kernel
theorem gz_234_141 : mz_pg 234 141 = some (.sipush 600, 0, 0, 0) := by decide +kernel
theorem gz_234_144 : mz_pg 234 144 = some (.idiv, 0, 0, 0) := by decide +kernel
theorem gz_234_145 : mz_pg 234 145 = some (.goto 25, 0, 0, 0) := by decide +kernel
theorem gz_234_148 : mz_pg 234 148 = some (.iload_n 3, 0, 0, 0) := by decide +kernel
theorem gz_234_149 : mz_pg 234 149 = some (.iconst 2, 0, 0, 0) := by decide +kernel
theorem gz_234_150 : mz_pg 234 150 = some (.if_icmp .ne 14, 0, 0, 0) := by decide +kernel
theorem gz_234_153 : mz_pg 234 153 = some (.iload 5, 0, 0, 0) := by decide +kernel
theorem gz_234_155 : mz_pg 234 155 = some (.sipush 200, 0, 0, 0) := by decide +kernel
theorem gz_234_158 : mz_pg 234 158 = some (.idiv, 0, 0, 0) := by decide +kernel
theorem gz_234_159 : mz_pg 234 159 = some (.iconst 3, 0, 0, 0) := by decide +kernel
theorem gz_234_160 : mz_pg 234 160 = some (.irem, 0, 0, 0) := by decide +kernel
theorem gz_234_161 : mz_pg 234 161 = some (.goto 9, 0, 0, 0) := by decide +kernel
theorem gz_234_164 : mz_pg 234 164 = some (.iload 5, 0, 0, 0) := by decide +kernel
theorem gz_234_166 : mz_pg 234 166 = some (.sipush 200, 0, 0, 0) := by decide +kernel
theorem gz_234_169 : mz_pg 234 169 = some (.irem, 0, 0, 0) := by decide +kernel
theorem gz_234_170 : mz_pg 234 170 = some (.ireturn, 0, 0, 0) := by decide +kernel
theorem gm_234 : my_mm 234 7 (some .int) 3 10 := by unfold my_mm; decide +kernel
theorem c73_Model_cuts {l : Launch} {rho : Nat → Int32} {d : Nat} {h : my_H} {Q : my_H → my_V → Prop} {x1 x2 x3 : Int} (k0 : ∀ (h' : my_H), my_fr [(10, 0)] h h' → h' 151 0 = 0 → Q h' (0, (-1))) (k1 : ∀ (h' : my_H), my_fr [(10, 0)] h h' → 0 ≤ x1 → x1 ≤ 2 → 0 ≤ x2 → x2 ≤ 2147483646 → 0 ≤ x3 → x3 ≤ 0 → h' 151 0 = 0 → Q h' (0, 0)) (k2 : ∀ (h' : my_H) (y : Int), my_fr [(10, 0)] h h' → 0 ≤ x1 → x1 ≤ 2 → 0 ≤ x2 → x2 ≤ 2147483646 → 0 ≤ x3 → x3 ≤ 3 → h' 151 0 = 0 → Q h' (0, y)) : wp l rho (d + 3) 234 0 [(2, 151), (0, x1), (0, x2), (0, x3), (9, 0), (9, 0), (9, 0)] [] h Q := by
  have J49_0 : ∀ (n : Nat) (p49_0 p49_1 p49_2 : Int) (h49_0 : my_H), my_fr [(10, 0)] h h49_0 → 0 ≤ x1 → x1 ≤ 2 → 0 ≤ x2 → x2 ≤ 2147483646 → 0 ≤ x3 → x3 ≤ 3 → 0 ≤ p49_0 → p49_0 ≤ 16005 → (-1) ≤ p49_1 → p49_1 ≤ 16005 → 0 ≤ p49_2 → p49_2 ≤ 16005 → p49_0 ≤ p49_2 → p49_1 ≤ (p49_2 - 1) → h49_0 151 0 = 0 → 16006 - p49_2 ≤ (n : Int) → wp l rho (d + 3) 234 49 [(2, 151), (0, x1), (0, x2), (0, x3), (0, p49_0), (0, p49_1), (0, p49_2)] [] h49_0 Q := by
    intro n
    induction n with
    | zero => intro p49_0 p49_1 p49_2 h49_0 gh_49_0 q0_49_0 q1_49_0 q2_49_0 q3_49_0 q4_49_0 q5_49_0 q6_49_0 q7_49_0 q8_49_0 q9_49_0 q10_49_0 q11_49_0 q12_49_0 q13_49_0 c151_0_49_0 hm_49_0; exfalso; omega
    | succ n ih_49_0 =>
      intro p49_0 p49_1 p49_2 h49_0 gh_49_0 q0_49_0 q1_49_0 q2_49_0 q3_49_0 q4_49_0 q5_49_0 q6_49_0 q7_49_0 q8_49_0 q9_49_0 q10_49_0 q11_49_0 q12_49_0 q13_49_0 c151_0_49_0 hm_49_0
      have J110_0 : ∀ (p110_0 p110_1 : Int) (h110_0 : my_H), my_fr [(10, 0)] h h110_0 → 0 ≤ p110_0 → p110_0 ≤ 2400 → (-1) ≤ p110_1 → p110_1 ≤ 2399 → p49_2 ≤ 2399 → p49_1 ≤ 2398 → p49_0 ≤ 2399 → p110_0 ≤ (p49_2 + 1) → p110_0 ≤ (p49_0 + 1) → p110_1 ≤ p49_2 → p49_1 ≤ p110_1 → p49_1 ≤ (p49_2 - 1) → p49_0 ≤ p110_0 → p49_0 ≤ p49_2 → h110_0 151 0 = 0 → wp l rho (d + 3) 234 110 [(2, 151), (0, x1), (0, x2), (0, x3), (0, p110_0), (0, p110_1), (0, p49_2)] [] h110_0 Q := by
        intro p110_0 p110_1 h110_0 gh_110_0 q0_110_0 q1_110_0 q2_110_0 q3_110_0 q4_110_0 q5_110_0 q6_110_0 q7_110_0 q8_110_0 q9_110_0 q10_110_0 q11_110_0 q12_110_0 q13_110_0 c151_0_110_0
        refine w_iinc (ls' := [(2, 151), (0, x1), (0, x2), (0, x3), (0, p110_0), (0, p110_1), (0, (p49_2 + 1))]) gz_234_110 rfl gm_234 rfl rfl rfl ⟨by omega, by omega⟩ ?_
        refine w_goto (t := 49) gz_234_113 rfl ?_
        exact ih_49_0 (p110_0) (p110_1) ((p49_2 + 1)) h110_0 (gh_110_0) (by omega) (by omega) (by omega) (by omega) (by omega) (by omega) (by omega) (by omega) (by omega) (by omega) (by omega) (by omega) (by omega) (by omega) (c151_0_110_0.trans (by omega)) (by omega)
      have J105_0 : ∀ (p105_0 p105_1 : Int) (h105_0 : my_H), my_fr [(10, 0)] h h105_0 → 0 ≤ p105_0 → p105_0 ≤ 2399 → p49_1 ≤ 2398 → p49_2 ≤ 2399 → (-1) ≤ p105_1 → p105_1 ≤ 2399 → p49_0 ≤ 2399 → p105_0 ≤ p49_2 → p105_0 ≤ p49_0 → p105_1 ≤ p49_2 → p49_1 ≤ p105_1 → p49_1 ≤ (p49_2 - 1) → p49_0 ≤ p105_0 → p49_0 ≤ p49_2 → h105_0 151 0 = 0 → wp l rho (d + 3) 234 105 [(2, 151), (0, x1), (0, x2), (0, x3), (0, p105_0), (0, p49_1), (0, p49_2)] [(0, p105_1)] h105_0 Q := by
        intro p105_0 p105_1 h105_0 gh_105_0 q0_105_0 q1_105_0 q2_105_0 q3_105_0 q4_105_0 q5_105_0 q6_105_0 q7_105_0 q8_105_0 q9_105_0 q10_105_0 q11_105_0 q12_105_0 q13_105_0 c151_0_105_0
        refine w_istore (ls' := [(2, 151), (0, x1), (0, x2), (0, x3), (0, p105_0), (0, p105_1), (0, p49_2)]) gz_234_105 gm_234 rfl rfl rfl ?_
        refine w_iinc (ls' := [(2, 151), (0, x1), (0, x2), (0, x3), (0, (p105_0 + 1)), (0, p105_1), (0, p49_2)]) gz_234_107 rfl gm_234 rfl rfl rfl ⟨by omega, by omega⟩ ?_
        exact J110_0 ((p105_0 + 1)) (p105_1) h105_0 (gh_105_0) (by omega) (by omega) (by omega) (by omega) (by omega) (by omega) (by omega) (by omega) (by omega) (by omega) (by omega) (by omega) (by omega) (by omega) (c151_0_105_0.trans (by omega))
      refine w_iload gz_234_49 rfl ?_
      refine w_sipush gz_234_51 (by decide) ?_
      refine w_aload_n gz_234_54 rfl ?_
      refine w_getX (v := 157) gz_234_55 is_151 rd_10 rfl (by decide) rfl ?_
      refine w_iload_n gz_234_58 rfl ?_
      refine w_iald gz_234_59 is_157 rd_56 (by omega) (by omega) (fun v2 ev2 pv2 qv2 => ?_)
      refine w_imul gz_234_60 ⟨by omega, by omega⟩ ?_
      refine w_icge (t := 116) gz_234_61 rfl (fun u3 => ?_) (fun u3 => ?_)
      ·
        refine w_iload_n gz_234_116 rfl ?_
        refine w_ifne (t := 125) gz_234_117 rfl (fun u4 => ?_) (fun u4 => ?_)
        ·
          refine w_iload gz_234_125 rfl ?_
          refine w_ifne (t := 134) gz_234_127 rfl (fun u5 => ?_) (fun u5 => ?_)
          ·
            refine w_iload_n gz_234_134 rfl ?_
            refine w_iconst gz_234_135 (by decide) ?_
            refine w_icne (t := 148) gz_234_136 rfl (fun u6 => ?_) (fun u6 => ?_)
            ·
              refine w_iload_n gz_234_148 rfl ?_
              refine w_iconst gz_234_149 (by decide) ?_
              refine w_icne (t := 164) gz_234_150 rfl (fun u7 => ?_) (fun u7 => ?_)
              ·
                refine w_iload gz_234_164 rfl ?_
                refine w_sipush gz_234_166 (by decide) ?_
                refine w_ianyQ gz_234_169 (by decide) (fun v8 pv8 qv8 => ?_)
                have c9 := c151_0_49_0
                exact w_iret gz_234_170 gm_234 (k2 h49_0 (v8) (gh_49_0) (by omega) (by omega) (by omega) (by omega) (by omega) (by omega) (by omega))
              ·
                refine w_iload gz_234_153 rfl ?_
                refine w_sipush gz_234_155 (by decide) ?_
                refine w_ianyD gz_234_158 (by decide) (fun v10 pv10 qv10 => ?_)
                refine w_iconst gz_234_159 (by decide) ?_
                refine w_ianyQ gz_234_160 (by decide) (fun v11 pv11 qv11 => ?_)
                refine w_goto (t := 170) gz_234_161 rfl ?_
                have c12 := c151_0_49_0
                exact w_iret gz_234_170 gm_234 (k2 h49_0 (v11) (gh_49_0) (by omega) (by omega) (by omega) (by omega) (by omega) (by omega) (by omega))
            ·
              refine w_iload gz_234_139 rfl ?_
              refine w_sipush gz_234_141 (by decide) ?_
              refine w_ianyD gz_234_144 (by decide) (fun v13 pv13 qv13 => ?_)
              refine w_goto (t := 170) gz_234_145 rfl ?_
              have c14 := c151_0_49_0
              exact w_iret gz_234_170 gm_234 (k2 h49_0 (v13) (gh_49_0) (by omega) (by omega) (by omega) (by omega) (by omega) (by omega) (by omega))
          ·
            refine w_iconst gz_234_130 (by decide) ?_
            refine w_goto (t := 170) gz_234_131 rfl ?_
            have c15 := c151_0_49_0
            exact w_iret gz_234_170 gm_234 (k0 h49_0 (gh_49_0) (by omega))
        ·
          refine w_iload gz_234_120 rfl ?_
          refine w_goto (t := 170) gz_234_122 rfl ?_
          have c16 := c151_0_49_0
          exact w_iret gz_234_170 gm_234 (k2 h49_0 (p49_0) (gh_49_0) (by omega) (by omega) (by omega) (by omega) (by omega) (by omega) (by omega))
      ·
        refine w_aload_n gz_234_64 rfl ?_
        refine w_iload_n gz_234_65 rfl ?_
        refine w_iload_n gz_234_66 rfl ?_
        refine w_iload gz_234_67 rfl ?_
        refine w_sipush gz_234_69 (by decide) ?_
        refine w_idiv gz_234_72 (by omega) (by decide) ?_
        refine w_iload gz_234_73 rfl ?_
        refine w_sipush gz_234_75 (by decide) ?_
        refine w_idiv gz_234_78 (by omega) (by decide) ?_
        refine w_iconst gz_234_79 (by decide) ?_
        refine w_irem gz_234_80 (by omega) (by decide) ?_
        refine w_iload gz_234_81 rfl ?_
        refine w_sipush gz_234_83 (by decide) ?_
        refine w_irem gz_234_86 (by omega) (by decide) ?_
        refine w_inv (k := 4) (as := [(0, (p49_2 % 200)), (0, ((p49_2 / 200) % 3)), (0, (p49_2 / 600)), (0, x2), (0, x1)]) (r := []) (x := 151) (ls0 := [(2, 151), (0, x1), (0, x2), (0, (p49_2 / 600)), (0, ((p49_2 / 200) % 3)), (0, (p49_2 % 200)), (9, 0), (9, 0), (9, 0), (9, 0)]) gz_234_87 gm_235 rfl is_151 rd_10 rfl rfl rfl rfl rfl (c42_Model_isCut (d := d) (x1 := x1) (x2 := x2) (x3 := (p49_2 / 600)) (x4 := ((p49_2 / 200) % 3)) (x5 := (p49_2 % 200)) (by omega) (by omega) (by omega) (by omega) (by omega) (by omega) (by omega) (by omega) (by omega) (by omega) ?_ ?_)
        ·
          show wp l rho (d + 3) 234 90 [(2, 151), (0, x1), (0, x2), (0, x3), (0, p49_0), (0, p49_1), (0, p49_2)] [(0, 0)] h49_0 Q
          refine w_ifeq (t := 110) gz_234_90 rfl (fun u17 => ?_) (fun u17 => by exfalso; omega)
          exact J110_0 (p49_0) (p49_1) h49_0 (gh_49_0) (by omega) (by omega) (by omega) (by omega) (by omega) (by omega) (by omega) (by omega) (by omega) (by omega) (by omega) (by omega) (by omega) (by omega) (c151_0_49_0.trans (by omega))
        ·
          show wp l rho (d + 3) 234 90 [(2, 151), (0, x1), (0, x2), (0, x3), (0, p49_0), (0, p49_1), (0, p49_2)] [(0, 1)] h49_0 Q
          refine w_ifeq (t := 110) gz_234_90 rfl (fun u18 => by exfalso; omega) (fun u18 => ?_)
          refine w_iload gz_234_93 rfl ?_
          refine w_ifne (t := 103) gz_234_95 rfl (fun u19 => ?_) (fun u19 => ?_)
          ·
            refine w_iload gz_234_103 rfl ?_
            exact J105_0 (p49_0) (p49_1) h49_0 (gh_49_0) (by omega) (by omega) (by omega) (by omega) (by omega) (by omega) (by omega) (by omega) (by omega) (by omega) (by omega) (by omega) (by omega) (by omega) (c151_0_49_0.trans (by omega))
          ·
            refine w_iload gz_234_98 rfl ?_
            refine w_goto (t := 105) gz_234_100 rfl ?_
            exact J105_0 (p49_0) (p49_2) h49_0 (gh_49_0) (by omega) (by omega) (by omega) (by omega) (by omega) (by omega) (by omega) (by omega) (by omega) (by omega) (by omega) (by omega) (by omega) (by omega) (c151_0_49_0.trans (by omega))
  refine w_aload_n gz_234_0 rfl ?_
  refine w_iconst gz_234_1 (by decide) ?_
  refine v_putI (j := 0) gz_234_2 rfl is_151 rd_10 rfl (by omega) (by omega) rfl (fun h20 fh20 => ?_)
  have gh20 : my_fr [(10, 0)] h h20 := my_fr.up my_fr.rf is_151 fh20 rfl
  refine w_aload_n gz_234_5 rfl ?_
  refine w_iload_n gz_234_6 rfl ?_
  refine w_inv (k := 0) (as := [(0, x1)]) (r := []) (x := 151) (ls0 := [(2, 151), (0, x1)]) gz_234_7 gm_149 rfl is_151 rd_10 rfl rfl rfl rfl rfl ?_
  refine w_iload_n gz_149_0 rfl ?_
  refine w_iflt (t := 22) gz_149_1 rfl (fun u21 => ?_) (fun u21 => ?_)
  ·
    refine w_iconst gz_149_22 (by decide) ?_
    refine w_bret gz_149_23 gm_149 (by omega) (by omega) ?_
    show wp l rho (d + 3) 234 10 [(2, 151), (0, x1), (0, x2), (0, x3), (9, 0), (9, 0), (9, 0)] [(0, 0)] h20 Q
    refine w_ifeq (t := 38) gz_234_10 rfl (fun u22 => ?_) (fun u22 => by exfalso; omega)
    refine w_iconst gz_234_38 (by decide) ?_
    have c23 := (my_up_self fh20)
    exact w_iret gz_234_39 gm_234 (k0 h20 (gh20) (by omega))
  ·
    refine w_iload_n gz_149_4 rfl ?_
    refine w_iconst gz_149_5 (by decide) ?_
    refine w_icge (t := 22) gz_149_6 rfl (fun u24 => ?_) (fun u24 => ?_)
    ·
      refine w_iconst gz_149_22 (by decide) ?_
      refine w_bret gz_149_23 gm_149 (by omega) (by omega) ?_
      show wp l rho (d + 3) 234 10 [(2, 151), (0, x1), (0, x2), (0, x3), (9, 0), (9, 0), (9, 0)] [(0, 0)] h20 Q
      refine w_ifeq (t := 38) gz_234_10 rfl (fun u25 => ?_) (fun u25 => by exfalso; omega)
      refine w_iconst gz_234_38 (by decide) ?_
      have c26 := (my_up_self fh20)
      exact w_iret gz_234_39 gm_234 (k0 h20 (gh20) (by omega))
    ·
      refine w_aload_n gz_149_9 rfl ?_
      refine w_getX (v := 157) gz_149_10 is_151 rd_10 rfl (by decide) rfl ?_
      refine w_iload_n gz_149_13 rfl ?_
      refine w_iald gz_149_14 is_157 rd_56 (by omega) (by omega) (fun v28 ev28 pv28 qv28 => ?_)
      refine w_ifle (t := 22) gz_149_15 rfl (fun u29 => ?_) (fun u29 => ?_)
      ·
        refine w_iconst gz_149_22 (by decide) ?_
        refine w_bret gz_149_23 gm_149 (by omega) (by omega) ?_
        show wp l rho (d + 3) 234 10 [(2, 151), (0, x1), (0, x2), (0, x3), (9, 0), (9, 0), (9, 0)] [(0, 0)] h20 Q
        refine w_ifeq (t := 38) gz_234_10 rfl (fun u30 => ?_) (fun u30 => by exfalso; omega)
        refine w_iconst gz_234_38 (by decide) ?_
        have c31 := (my_up_self fh20)
        exact w_iret gz_234_39 gm_234 (k0 h20 (gh20) (by omega))
      ·
        refine w_iconst gz_149_18 (by decide) ?_
        refine w_goto (t := 23) gz_149_19 rfl ?_
        refine w_bret gz_149_23 gm_149 (by omega) (by omega) ?_
        show wp l rho (d + 3) 234 10 [(2, 151), (0, x1), (0, x2), (0, x3), (9, 0), (9, 0), (9, 0)] [(0, 1)] h20 Q
        refine w_ifeq (t := 38) gz_234_10 rfl (fun u32 => by exfalso; omega) (fun u32 => ?_)
        refine w_iload_n gz_234_13 rfl ?_
        refine w_iflt (t := 38) gz_234_14 rfl (fun u33 => ?_) (fun u33 => ?_)
        ·
          refine w_iconst gz_234_38 (by decide) ?_
          have c34 := (my_up_self fh20)
          exact w_iret gz_234_39 gm_234 (k0 h20 (gh20) (by omega))
        ·
          refine w_iload_n gz_234_17 rfl ?_
          refine w_iconst gz_234_18 (by decide) ?_
          refine w_aload_n gz_234_19 rfl ?_
          refine w_iconst gz_234_20 (by decide) ?_
          refine w_iload_n gz_234_21 rfl ?_
          refine w_inv (k := 2) (as := [(0, x1), (0, 0)]) (r := [(0, 1), (0, x2)]) (x := 151) (ls0 := [(2, 151), (0, 0), (0, x1), (9, 0), (9, 0)]) gz_234_22 gm_151 rfl is_151 rd_10 rfl rfl rfl rfl rfl (c14_Model_rowsOf (d := (d + 1)) (x1 := 0) (x2 := x1) (by omega) (by omega) (by omega) (by omega) (fun v35 w36 w37 => ?_))
          show wp l rho (d + 3) 234 25 [(2, 151), (0, x1), (0, x2), (0, x3), (9, 0), (9, 0), (9, 0)] [(0, v35), (0, 1), (0, x2)] h20 Q
          refine w_ianyL gz_234_25 (fun v38 pv38 qv38 => ?_)
          refine w_icge (t := 38) gz_234_26 rfl (fun u39 => ?_) (fun u39 => ?_)
          ·
            refine w_iconst gz_234_38 (by decide) ?_
            have c40 := (my_up_self fh20)
            exact w_iret gz_234_39 gm_234 (k0 h20 (gh20) (by omega))
          ·
            refine w_iload_n gz_234_29 rfl ?_
            refine w_iconst gz_234_30 (by decide) ?_
            refine w_iconst gz_234_31 (by decide) ?_
            refine w_inS (k := 0) (as := [(0, 3), (0, 0), (0, x3)]) (r := []) (ls0 := [(0, x3), (0, 0), (0, 3)]) gz_234_32 gm_147 rfl rfl rfl rfl rfl rfl ?_
            refine w_iload_n gz_147_0 rfl ?_
            refine w_iload_n gz_147_1 rfl ?_
            refine w_iclt (t := 14) gz_147_2 rfl (fun u41 => ?_) (fun u41 => ?_)
            ·
              refine w_iconst gz_147_14 (by decide) ?_
              refine w_bret gz_147_15 gm_147 (by omega) (by omega) ?_
              show wp l rho (d + 3) 234 35 [(2, 151), (0, x1), (0, x2), (0, x3), (9, 0), (9, 0), (9, 0)] [(0, 0)] h20 Q
              refine w_ifne (t := 40) gz_234_35 rfl (fun u42 => by exfalso; omega) (fun u42 => ?_)
              refine w_iconst gz_234_38 (by decide) ?_
              have c43 := (my_up_self fh20)
              exact w_iret gz_234_39 gm_234 (k0 h20 (gh20) (by omega))
            ·
              refine w_iload_n gz_147_5 rfl ?_
              refine w_iload_n gz_147_6 rfl ?_
              refine w_icgt (t := 14) gz_147_7 rfl (fun u44 => ?_) (fun u44 => ?_)
              ·
                refine w_iconst gz_147_14 (by decide) ?_
                refine w_bret gz_147_15 gm_147 (by omega) (by omega) ?_
                show wp l rho (d + 3) 234 35 [(2, 151), (0, x1), (0, x2), (0, x3), (9, 0), (9, 0), (9, 0)] [(0, 0)] h20 Q
                refine w_ifne (t := 40) gz_234_35 rfl (fun u45 => by exfalso; omega) (fun u45 => ?_)
                refine w_iconst gz_234_38 (by decide) ?_
                have c46 := (my_up_self fh20)
                exact w_iret gz_234_39 gm_234 (k0 h20 (gh20) (by omega))
              ·
                refine w_iconst gz_147_10 (by decide) ?_
                refine w_goto (t := 15) gz_147_11 rfl ?_
                refine w_bret gz_147_15 gm_147 (by omega) (by omega) ?_
                show wp l rho (d + 3) 234 35 [(2, 151), (0, x1), (0, x2), (0, x3), (9, 0), (9, 0), (9, 0)] [(0, 1)] h20 Q
                refine w_ifne (t := 40) gz_234_35 rfl (fun u47 => ?_) (fun u47 => by exfalso; omega)
                refine w_iconst gz_234_40 (by decide) ?_
                refine w_istore (ls' := [(2, 151), (0, x1), (0, x2), (0, x3), (0, 0), (9, 0), (9, 0)]) gz_234_41 gm_234 rfl rfl rfl ?_
                refine w_iconst gz_234_43 (by decide) ?_
                refine w_istore (ls' := [(2, 151), (0, x1), (0, x2), (0, x3), (0, 0), (0, (-1)), (9, 0)]) gz_234_44 gm_234 rfl rfl rfl ?_
                refine w_iconst gz_234_46 (by decide) ?_
                refine w_istore (ls' := [(2, 151), (0, x1), (0, x2), (0, x3), (0, 0), (0, (-1)), (0, 0)]) gz_234_47 gm_234 rfl rfl rfl ?_
                exact J49_0 16006 (0) ((-1)) (0) h20 (gh20) (by omega) (by omega) (by omega) (by omega) (by omega) (by omega) (by omega) (by omega) (by omega) (by omega) (by omega) (by omega) (by omega) (by omega) ((my_up_self fh20).trans (by omega)) (by omega)
end MYG3
