/-! contracts, printed by wip/gen/gy.py -/
section MYG1
theorem gz_163_0 : mz_pg 163 0 = some (.iconst 0, 0, 0, 0) := by decide +kernel
theorem gz_163_1 : mz_pg 163 1 = some (.istore 5, 0, 0, 0) := by decide +kernel
theorem gz_163_3 : mz_pg 163 3 = some (.iconst 0, 0, 0, 0) := by decide +kernel
theorem gz_163_4 : mz_pg 163 4 = some (.istore 6, 0, 0, 0) := by decide +kernel
theorem gz_163_6 : mz_pg 163 6 = some (.iload 6, 0, 0, 0) := by decide +kernel
theorem gz_163_8 : mz_pg 163 8 = some (.bipush 20, 0, 0, 0) := by decide +kernel
theorem gz_163_10 : mz_pg 163 10 = some (.if_icmp .ge 52, 0, 0, 0) := by decide +kernel
theorem gz_163_13 : mz_pg 163 13 = some (.iload 5, 0, 0, 0) := by decide +kernel
theorem gz_163_15 : mz_pg 163 15 = some (.aload_n 0, 0, 0, 0) := by decide +kernel
theorem gz_163_16 : mz_pg 163 16 = some (.getfield 77, 10, 15, 1228) := by decide +kernel
theorem gz_163_19 : mz_pg 163 19 = some (.iconst 0, 0, 0, 0) := by decide +kernel
theorem gz_163_20 : mz_pg 163 20 = some (.iload_n 1, 0, 0, 0) := by decide +kernel
theorem gz_163_21 : mz_pg 163 21 = some (.iload 6, 0, 0, 0) := by decide +kernel
theorem gz_163_23 : mz_pg 163 23 = some (.invokestatic 242, 1, 150, 1429) := by decide +kernel
theorem gz_163_26 : mz_pg 163 26 = some (.baload, 0, 0, 0) := by decide +kernel
theorem gz_163_27 : mz_pg 163 27 = some (.ifCond .eq 25, 0, 0, 0) := by decide +kernel
theorem gz_163_30 : mz_pg 163 30 = some (.aload_n 0, 0, 0, 0) := by decide +kernel
theorem gz_163_31 : mz_pg 163 31 = some (.iconst 0, 0, 0, 0) := by decide +kernel
theorem gz_163_32 : mz_pg 163 32 = some (.iload_n 1, 0, 0, 0) := by decide +kernel
theorem gz_163_33 : mz_pg 163 33 = some (.iload 6, 0, 0, 0) := by decide +kernel
theorem gz_163_35 : mz_pg 163 35 = some (.iload_n 2, 0, 0, 0) := by decide +kernel
theorem gz_163_36 : mz_pg 163 36 = some (.invokevirtual 246, 1, 157, 1450) := by decide +kernel
theorem gz_163_39 : mz_pg 163 39 = some (.iload_n 3, 0, 0, 0) := by decide +kernel
theorem gz_163_40 : mz_pg 163 40 = some (.iload 4, 0, 0, 0) := by decide +kernel
theorem gz_163_42 : mz_pg 163 42 = some (.invokestatic 250, 1, 147, 1419) := by decide +kernel
theorem gz_163_45 : mz_pg 163 45 = some (.ifCond .ne 7, 0, 0, 0) := by decide +kernel
theorem gz_163_48 : mz_pg 163 48 = some (.iconst 1, 0, 0, 0) := by decide +kernel
theorem gz_163_49 : mz_pg 163 49 = some (.goto 4, 0, 0, 0) := by decide +kernel
theorem gz_163_52 : mz_pg 163 52 = some (.iconst 0, 0, 0, 0) := by decide +kernel
theorem gz_163_53 : mz_pg 163 53 = some (.iadd, 0, 0, 0) := by decide +kernel
theorem gz_163_54 : mz_pg 163 54 = some (.istore 5, 0, 0, 0) := by decide +kernel
theorem gz_163_56 : mz_pg 163 56 = some (.iinc 6 1, 0, 0, 0) := by decide +kernel
theorem gz_163_59 : mz_pg 163 59 = some (.goto (-53), 0, 0, 0) := by decide +kernel
theorem gz_163_62 : mz_pg 163 62 = some (.iload 5, 0, 0, 0) := by decide +kernel
theorem gz_163_64 : mz_pg 163 64 = some (.ireturn, 0, 0, 0) := by decide +kernel
theorem gm_163 : my_mm 163 7 (some .int) 4 10 := by unfold my_mm; decide +kernel
theorem c20_Model_outside {l : Launch} {rho : Nat → Int32} {d : Nat} {h : my_H} {Q : my_H → my_V → Prop} {x1 x2 x3 x4 : Int} (a1 : 0 ≤ x1) (b1 : x1 ≤ 2) (a2 : 0 ≤ x2) (b2 : x2 ≤ 3) (a3 : 0 ≤ x3) (b3 : x3 ≤ 19) (a4 : 0 ≤ x4) (b4 : x4 ≤ 19) (k0 : ∀ (y : Int), 0 ≤ y → y ≤ 20 → Q h (0, y)) : wp l rho (d + 2) 163 0 [(2, 151), (0, x1), (0, x2), (0, x3), (0, x4), (9, 0), (9, 0)] [] h Q := by
  have J6_0 : ∀ (n : Nat) (p6_0 p6_1 : Int), 0 ≤ p6_0 → p6_0 ≤ 20 → 0 ≤ p6_1 → p6_1 ≤ 20 → p6_0 ≤ p6_1 → 21 - p6_1 ≤ (n : Int) → wp l rho (d + 2) 163 6 [(2, 151), (0, x1), (0, x2), (0, x3), (0, x4), (0, p6_0), (0, p6_1)] [] h Q := by
    intro n
    induction n with
    | zero => intro p6_0 p6_1 q0_6_0 q1_6_0 q2_6_0 q3_6_0 q4_6_0 hm_6_0; exfalso; omega
    | succ n ih_6_0 =>
      intro p6_0 p6_1 q0_6_0 q1_6_0 q2_6_0 q3_6_0 q4_6_0 hm_6_0
      have J53_1 : p6_0 ≤ 19 → p6_1 ≤ 19 → p6_0 ≤ p6_1 → wp l rho (d + 2) 163 53 [(2, 151), (0, x1), (0, x2), (0, x3), (0, x4), (0, p6_0), (0, p6_1)] [(0, 1), (0, p6_0)] h Q := by
        intro q0_53_1 q1_53_1 q2_53_1
        refine w_iadd gz_163_53 ⟨by omega, by omega⟩ ?_
        refine w_istore (ls' := [(2, 151), (0, x1), (0, x2), (0, x3), (0, x4), (0, (p6_0 + 1)), (0, p6_1)]) gz_163_54 gm_163 rfl rfl rfl ?_
        refine w_iinc (ls' := [(2, 151), (0, x1), (0, x2), (0, x3), (0, x4), (0, (p6_0 + 1)), (0, (p6_1 + 1))]) gz_163_56 rfl gm_163 rfl rfl rfl ⟨by omega, by omega⟩ ?_
        refine w_goto (t := 6) gz_163_59 rfl ?_
        exact ih_6_0 ((p6_0 + 1)) ((p6_1 + 1)) (by omega) (by omega) (by omega) (by omega) (by omega) (by omega)
      have J52_0 : p6_0 ≤ 19 → p6_1 ≤ 19 → p6_0 ≤ p6_1 → wp l rho (d + 2) 163 52 [(2, 151), (0, x1), (0, x2), (0, x3), (0, x4), (0, p6_0), (0, p6_1)] [(0, p6_0)] h Q := by
        intro q0_52_0 q1_52_0 q2_52_0
        refine w_iconst gz_163_52 (by decide) ?_
        refine w_iadd gz_163_53 ⟨by omega, by omega⟩ ?_
        refine w_istore (ls' := [(2, 151), (0, x1), (0, x2), (0, x3), (0, x4), (0, (p6_0 + 0)), (0, p6_1)]) gz_163_54 gm_163 rfl rfl rfl ?_
        refine w_iinc (ls' := [(2, 151), (0, x1), (0, x2), (0, x3), (0, x4), (0, (p6_0 + 0)), (0, (p6_1 + 1))]) gz_163_56 rfl gm_163 rfl rfl rfl ⟨by omega, by omega⟩ ?_
        refine w_goto (t := 6) gz_163_59 rfl ?_
        exact ih_6_0 ((p6_0 + 0)) ((p6_1 + 1)) (by omega) (by omega) (by omega) (by omega) (by omega) (by omega)
      refine w_iload gz_163_6 rfl ?_
      refine w_bipush gz_163_8 (by decide) ?_
      refine w_icge (t := 62) gz_163_10 rfl (fun u1 => ?_) (fun u1 => ?_)
      ·
        refine w_iload gz_163_62 rfl ?_
        exact w_iret gz_163_64 gm_163 (k0 (p6_0) (by omega) (by omega))
      ·
        refine w_iload gz_163_13 rfl ?_
        refine w_aload_n gz_163_15 rfl ?_
        refine w_getX (v := 162) gz_163_16 is_151 rd_10 rfl (by decide) rfl ?_
        refine w_iconst gz_163_19 (by decide) ?_
        refine w_iload_n gz_163_20 rfl ?_
        refine w_iload gz_163_21 rfl ?_
        refine w_inS (k := 0) (as := [(0, p6_1), (0, x1), (0, 0)]) (r := [(2, 162), (0, p6_0)]) (ls0 := [(0, 0), (0, x1), (0, p6_1)]) gz_163_23 gm_150 rfl rfl rfl rfl rfl rfl ?_
        refine w_bipush gz_150_0 (by decide) ?_
        refine w_iload_n gz_150_2 rfl ?_
        refine w_imul gz_150_3 ⟨by omega, by omega⟩ ?_
        refine w_bipush gz_150_4 (by decide) ?_
        refine w_iload_n gz_150_6 rfl ?_
        refine w_imul gz_150_7 ⟨by omega, by omega⟩ ?_
        refine w_iadd gz_150_8 ⟨by omega, by omega⟩ ?_
        refine w_iload_n gz_150_9 rfl ?_
        refine w_iadd gz_150_10 ⟨by omega, by omega⟩ ?_
        refine w_iret gz_150_11 gm_150 ?_
        show wp l rho (d + 2) 163 26 [(2, 151), (0, x1), (0, x2), (0, x3), (0, x4), (0, p6_0), (0, p6_1)] [(0, (((60 * 0) + (20 * x1)) + p6_1)), (2, 162), (0, p6_0)] h Q
        refine w_bald gz_163_26 is_162 rd_61 (by omega) (by omega) (fun v3 ev3 pv3 qv3 => ?_)
        refine w_ifeq (t := 52) gz_163_27 rfl (fun u4 => ?_) (fun u4 => ?_)
        ·
          exact J52_0 (by omega) (by omega) (by omega)
        ·
          refine w_aload_n gz_163_30 rfl ?_
          refine w_iconst gz_163_31 (by decide) ?_
          refine w_iload_n gz_163_32 rfl ?_
          refine w_iload gz_163_33 rfl ?_
          refine w_iload_n gz_163_35 rfl ?_
          refine w_inv (k := 0) (as := [(0, x2), (0, p6_1), (0, x1), (0, 0)]) (r := [(0, p6_0)]) (x := 151) (ls0 := [(2, 151), (0, 0), (0, x1), (0, p6_1), (0, x2)]) gz_163_36 gm_157 rfl is_151 rd_10 rfl rfl rfl rfl rfl ?_
          refine w_aload_n gz_157_0 rfl ?_
          refine w_getX (v := 163) gz_157_1 is_151 rd_10 rfl (by decide) rfl ?_
          refine w_iconst gz_157_4 (by decide) ?_
          refine w_iload_n gz_157_5 rfl ?_
          refine w_iload_n gz_157_6 rfl ?_
          refine w_iload_n gz_157_7 rfl ?_
          refine w_inS (k := 0) (as := [(0, p6_1), (0, x1), (0, 0)]) (r := [(0, 4), (2, 163)]) (ls0 := [(0, 0), (0, x1), (0, p6_1)]) gz_157_8 gm_150 rfl rfl rfl rfl rfl rfl ?_
          refine w_bipush gz_150_0 (by decide) ?_
          refine w_iload_n gz_150_2 rfl ?_
          refine w_imul gz_150_3 ⟨by omega, by omega⟩ ?_
          refine w_bipush gz_150_4 (by decide) ?_
          refine w_iload_n gz_150_6 rfl ?_
          refine w_imul gz_150_7 ⟨by omega, by omega⟩ ?_
          refine w_iadd gz_150_8 ⟨by omega, by omega⟩ ?_
          refine w_iload_n gz_150_9 rfl ?_
          refine w_iadd gz_150_10 ⟨by omega, by omega⟩ ?_
          refine w_iret gz_150_11 gm_150 ?_
          show wp l rho (d + 1) 157 11 [(2, 151), (0, 0), (0, x1), (0, p6_1), (0, x2)] [(0, (((60 * 0) + (20 * x1)) + p6_1)), (0, 4), (2, 163)] h _
          refine w_imul gz_157_11 ⟨by omega, by omega⟩ ?_
          refine w_iload gz_157_12 rfl ?_
          refine w_iadd gz_157_14 ⟨by omega, by omega⟩ ?_
          refine w_iald gz_157_15 is_163 rd_62 (by omega) (by omega) (fun v6 ev6 pv6 qv6 => ?_)
          refine w_iret gz_157_16 gm_157 ?_
          show wp l rho (d + 2) 163 39 [(2, 151), (0, x1), (0, x2), (0, x3), (0, x4), (0, p6_0), (0, p6_1)] [(0, v6), (0, p6_0)] h Q
          refine w_iload_n gz_163_39 rfl ?_
          refine w_iload gz_163_40 rfl ?_
          refine w_inS (k := 0) (as := [(0, x4), (0, x3), (0, v6)]) (r := [(0, p6_0)]) (ls0 := [(0, v6), (0, x3), (0, x4)]) gz_163_42 gm_147 rfl rfl rfl rfl rfl rfl ?_
          refine w_iload_n gz_147_0 rfl ?_
          refine w_iload_n gz_147_1 rfl ?_
          refine w_iclt (t := 14) gz_147_2 rfl (fun u7 => ?_) (fun u7 => ?_)
          ·
            refine w_iconst gz_147_14 (by decide) ?_
            refine w_bret gz_147_15 gm_147 (by omega) (by omega) ?_
            show wp l rho (d + 2) 163 45 [(2, 151), (0, x1), (0, x2), (0, x3), (0, x4), (0, p6_0), (0, p6_1)] [(0, 0), (0, p6_0)] h Q
            refine w_ifne (t := 52) gz_163_45 rfl (fun u8 => by exfalso; omega) (fun u8 => ?_)
            refine w_iconst gz_163_48 (by decide) ?_
            refine w_goto (t := 53) gz_163_49 rfl ?_
            exact J53_1 (by omega) (by omega) (by omega)
          ·
            refine w_iload_n gz_147_5 rfl ?_
            refine w_iload_n gz_147_6 rfl ?_
            refine w_icgt (t := 14) gz_147_7 rfl (fun u9 => ?_) (fun u9 => ?_)
            ·
              refine w_iconst gz_147_14 (by decide) ?_
              refine w_bret gz_147_15 gm_147 (by omega) (by omega) ?_
              show wp l rho (d + 2) 163 45 [(2, 151), (0, x1), (0, x2), (0, x3), (0, x4), (0, p6_0), (0, p6_1)] [(0, 0), (0, p6_0)] h Q
              refine w_ifne (t := 52) gz_163_45 rfl (fun u10 => by exfalso; omega) (fun u10 => ?_)
              refine w_iconst gz_163_48 (by decide) ?_
              refine w_goto (t := 53) gz_163_49 rfl ?_
              exact J53_1 (by omega) (by omega) (by omega)
            ·
              refine w_iconst gz_147_10 (by decide) ?_
              refine w_goto (t := 15) gz_147_11 rfl ?_
              refine w_bret gz_147_15 gm_147 (by omega) (by omega) ?_
              show wp l rho (d + 2) 163 45 [(2, 151), (0, x1), (0, x2), (0, x3), (0, x4), (0, p6_0), (0, p6_1)] [(0, 1), (0, p6_0)] h Q
              refine w_ifne (t := 52) gz_163_45 rfl (fun u11 => ?_) (fun u11 => by exfalso; omega)
              exact J52_0 (by omega) (by omega) (by omega)
  refine w_iconst gz_163_0 (by decide) ?_
  refine w_istore (ls' := [(2, 151), (0, x1), (0, x2), (0, x3), (0, x4), (0, 0), (9, 0)]) gz_163_1 gm_163 rfl rfl rfl ?_
  refine w_iconst gz_163_3 (by decide) ?_
  refine w_istore (ls' := [(2, 151), (0, x1), (0, x2), (0, x3), (0, x4), (0, 0), (0, 0)]) gz_163_4 gm_163 rfl rfl rfl ?_
  exact J6_0 21 (0) (0) (by omega) (by omega) (by omega) (by omega) (by omega) (by omega)
theorem gz_164_0 : mz_pg 164 0 = some (.aload_n 0, 0, 0, 0) := by decide +kernel
theorem gz_164_1 : mz_pg 164 1 = some (.iconst 0, 0, 0, 0) := by decide +kernel
theorem gz_164_2 : mz_pg 164 2 = some (.putfield 1, 10, 0, 1213) := by decide +kernel
theorem gz_164_5 : mz_pg 164 5 = some (.aload_n 0, 0, 0, 0) := by decide +kernel
theorem gz_164_6 : mz_pg 164 6 = some (.iload_n 1, 0, 0, 0) := by decide +kernel
theorem gz_164_7 : mz_pg 164 7 = some (.iload_n 2, 0, 0, 0) := by decide +kernel
theorem gz_164_8 : mz_pg 164 8 = some (.iload_n 3, 0, 0, 0) := by decide +kernel
theorem gz_164_9 : mz_pg 164 9 = some (.iload 4, 0, 0, 0) := by decide +kernel
theorem gz_164_11 : mz_pg 164 11 = some (.invokevirtual 286, 1, 161, 1464) := by decide +kernel
theorem gz_164_14 : mz_pg 164 14 = some (.ifCond .eq 15, 0, 0, 0) := by decide +kernel
theorem gz_164_17 : mz_pg 164 17 = some (.aload_n 0, 0, 0, 0) := by decide +kernel
theorem gz_164_18 : mz_pg 164 18 = some (.iload_n 1, 0, 0, 0) := by decide +kernel
theorem gz_164_19 : mz_pg 164 19 = some (.iload_n 2, 0, 0, 0) := by decide +kernel
theorem gz_164_20 : mz_pg 164 20 = some (.iload_n 3, 0, 0, 0) := by decide +kernel
theorem gz_164_21 : mz_pg 164 21 = some (.iload 4, 0, 0, 0) := by decide +kernel
theorem gz_164_23 : mz_pg 164 23 = some (.invokevirtual 290, 1, 163, 1470) := by decide +kernel
theorem gz_164_26 : mz_pg 164 26 = some (.goto 4, 0, 0, 0) := by decide +kernel
theorem gz_164_29 : mz_pg 164 29 = some (.iconst (-1), 0, 0, 0) := by decide +kernel
theorem gz_164_30 : mz_pg 164 30 = some (.ireturn, 0, 0, 0) := by decide +kernel
theorem gm_164 : my_mm 164 5 (some .int) 4 10 := by unfold my_mm; decide +kernel
theorem c21_Model_moves {l : Launch} {rho : Nat → Int32} {d : Nat} {h : my_H} {Q : my_H → my_V → Prop} {x1 x2 x3 x4 : Int} (k0 : ∀ (h' : my_H), my_fr [(10, 0)] h h' → h' 151 0 = 0 → Q h' (0, (-1))) (k1 : ∀ (h' : my_H) (y : Int), my_fr [(10, 0)] h h' → 0 ≤ y → y ≤ 20 → 0 ≤ x1 → x1 ≤ 2 → 0 ≤ x2 → x2 ≤ 3 → 0 ≤ x3 → x3 ≤ 19 → 0 ≤ x4 → x4 ≤ 19 → h' 151 0 = 0 → Q h' (0, y)) : wp l rho (d + 3) 164 0 [(2, 151), (0, x1), (0, x2), (0, x3), (0, x4)] [] h Q := by
  refine w_aload_n gz_164_0 rfl ?_
  refine w_iconst gz_164_1 (by decide) ?_
  refine v_putI (j := 0) gz_164_2 rfl is_151 rd_10 rfl (by omega) (by omega) rfl (fun h1 fh1 => ?_)
  have gh1 : my_fr [(10, 0)] h h1 := my_fr.up my_fr.rf is_151 fh1 rfl
  refine w_aload_n gz_164_5 rfl ?_
  refine w_iload_n gz_164_6 rfl ?_
  refine w_iload_n gz_164_7 rfl ?_
  refine w_iload_n gz_164_8 rfl ?_
  refine w_iload gz_164_9 rfl ?_
  refine w_inv (k := 0) (as := [(0, x4), (0, x3), (0, x2), (0, x1)]) (r := []) (x := 151) (ls0 := [(2, 151), (0, x1), (0, x2), (0, x3), (0, x4)]) gz_164_11 gm_161 rfl is_151 rd_10 rfl rfl rfl rfl rfl (c19_Model_isSpan (d := d) (x1 := x1) (x2 := x2) (x3 := x3) (x4 := x4)  ?_ (fun w2 w3 w4 w5 w6 w7 w8 w9 => ?_))
  ·
    show wp l rho (d + 3) 164 14 [(2, 151), (0, x1), (0, x2), (0, x3), (0, x4)] [(0, 0)] h1 Q
    refine w_ifeq (t := 29) gz_164_14 rfl (fun u10 => ?_) (fun u10 => by exfalso; omega)
    refine w_iconst gz_164_29 (by decide) ?_
    have c11 := (my_up_self fh1)
    exact w_iret gz_164_30 gm_164 (k0 h1 (gh1) (by omega))
  ·
    show wp l rho (d + 3) 164 14 [(2, 151), (0, x1), (0, x2), (0, x3), (0, x4)] [(0, 1)] h1 Q
    refine w_ifeq (t := 29) gz_164_14 rfl (fun u12 => by exfalso; omega) (fun u12 => ?_)
    refine w_aload_n gz_164_17 rfl ?_
    refine w_iload_n gz_164_18 rfl ?_
    refine w_iload_n gz_164_19 rfl ?_
    refine w_iload_n gz_164_20 rfl ?_
    refine w_iload gz_164_21 rfl ?_
    refine w_inv (k := 2) (as := [(0, x4), (0, x3), (0, x2), (0, x1)]) (r := []) (x := 151) (ls0 := [(2, 151), (0, x1), (0, x2), (0, x3), (0, x4), (9, 0), (9, 0)]) gz_164_23 gm_163 rfl is_151 rd_10 rfl rfl rfl rfl rfl (c20_Model_outside (d := d) (x1 := x1) (x2 := x2) (x3 := x3) (x4 := x4) (by omega) (by omega) (by omega) (by omega) (by omega) (by omega) (by omega) (by omega) (fun v13 w14 w15 => ?_))
    show wp l rho (d + 3) 164 26 [(2, 151), (0, x1), (0, x2), (0, x3), (0, x4)] [(0, v13)] h1 Q
    refine w_goto (t := 30) gz_164_26 rfl ?_
    have c16 := (my_up_self fh1)
    exact w_iret gz_164_30 gm_164 (k1 h1 (v13) (gh1) (by omega) (by omega) (by omega) (by omega) (by omega) (by omega) (by omega) (by omega) (by omega) (by omega) (by omega))
theorem gz_167_0 : mz_pg 167 0 = some (.aload_n 0, 0, 0, 0) := by decide +kernel
theorem gz_167_1 : mz_pg 167 1 = some (.aload_n 0, 0, 0, 0) := by decide +kernel
theorem gz_167_2 : mz_pg 167 2 = some (.iload_n 1, 0, 0, 0) := by decide +kernel
theorem gz_167_3 : mz_pg 167 3 = some (.iload_n 3, 0, 0, 0) := by decide +kernel
theorem gz_167_4 : mz_pg 167 4 = some (.invokevirtual 283, 1, 162, 1467) := by decide +kernel
theorem gz_167_7 : mz_pg 167 7 = some (.ifCond .eq 16, 0, 0, 0) := by decide +kernel
theorem gz_167_10 : mz_pg 167 10 = some (.aload_n 0, 0, 0, 0) := by decide +kernel
theorem gz_167_11 : mz_pg 167 11 = some (.iload_n 1, 0, 0, 0) := by decide +kernel
theorem gz_167_12 : mz_pg 167 12 = some (.iload_n 2, 0, 0, 0) := by decide +kernel
theorem gz_167_13 : mz_pg 167 13 = some (.invokevirtual 279, 1, 159, 1457) := by decide +kernel
theorem gz_167_16 : mz_pg 167 16 = some (.ifCond .eq 7, 0, 0, 0) := by decide +kernel
theorem gz_167_19 : mz_pg 167 19 = some (.iconst 0, 0, 0, 0) := by decide +kernel
theorem gz_167_20 : mz_pg 167 20 = some (.goto 4, 0, 0, 0) := by decide +kernel
theorem gz_167_23 : mz_pg 167 23 = some (.iconst 1, 0, 0, 0) := by decide +kernel
theorem gz_167_24 : mz_pg 167 24 = some (.putfield 1, 10, 0, 1213) := by decide +kernel
theorem gz_167_27 : mz_pg 167 27 = some (.aload_n 0, 0, 0, 0) := by decide +kernel
theorem gz_167_28 : mz_pg 167 28 = some (.getfield 1, 10, 0, 1213) := by decide +kernel
theorem gz_167_31 : mz_pg 167 31 = some (.ifCond .le 7, 0, 0, 0) := by decide +kernel
theorem gz_167_34 : mz_pg 167 34 = some (.iconst 0, 0, 0, 0) := by decide +kernel
theorem gz_167_35 : mz_pg 167 35 = some (.goto 11, 0, 0, 0) := by decide +kernel
theorem gz_167_38 : mz_pg 167 38 = some (.aload_n 0, 0, 0, 0) := by decide +kernel
theorem gz_167_39 : mz_pg 167 39 = some (.iconst 0, 0, 0, 0) := by decide +kernel
theorem gz_167_40 : mz_pg 167 40 = some (.iload_n 1, 0, 0, 0) := by decide +kernel
theorem gz_167_41 : mz_pg 167 41 = some (.iload_n 2, 0, 0, 0) := by decide +kernel
theorem gz_167_42 : mz_pg 167 42 = some (.iload_n 3, 0, 0, 0) := by decide +kernel
theorem gz_167_43 : mz_pg 167 43 = some (.invokevirtual 246, 1, 157, 1450) := by decide +kernel
theorem gz_167_46 : mz_pg 167 46 = some (.ireturn, 0, 0, 0) := by decide +kernel
theorem gm_167 : my_mm 167 4 (some .int) 3 10 := by unfold my_mm; decide +kernel
theorem c22_Model_value {l : Launch} {rho : Nat → Int32} {d : Nat} {h : my_H} {Q : my_H → my_V → Prop} {x1 x2 x3 : Int} (k0 : ∀ (h' : my_H), my_fr [(10, 0)] h h' → h' 151 0 = 1 → Q h' (0, 0)) (k1 : ∀ (h' : my_H) (y : Int), my_fr [(10, 0)] h h' → 0 ≤ y → y ≤ 19 → 0 ≤ x1 → x1 ≤ 2 → 0 ≤ x2 → x2 ≤ 19 → 0 ≤ x3 → x3 ≤ 3 → h' 151 0 = 0 → Q h' (0, y)) : wp l rho (d + 2) 167 0 [(2, 151), (0, x1), (0, x2), (0, x3)] [] h Q := by
  have J23_0 : ∀ (h23_0 : my_H), my_fr [(10, 0)] h h23_0 → wp l rho (d + 2) 167 23 [(2, 151), (0, x1), (0, x2), (0, x3)] [(2, 151)] h23_0 Q := by
    intro h23_0 gh_23_0
    refine w_iconst gz_167_23 (by decide) ?_
    refine v_putI (j := 0) gz_167_24 rfl is_151 rd_10 rfl (by omega) (by omega) rfl (fun h1 fh1 => ?_)
    have gh1 : my_fr [(10, 0)] h h1 := my_fr.up gh_23_0 is_151 fh1 rfl
    refine w_aload_n gz_167_27 rfl ?_
    refine v_getI (j := 0) gz_167_28 rfl is_151 rd_10 rfl (fun v2 ev2 pv2 qv2 => ?_)
    have zv2 := ev2.trans (my_up_self fh1)
    refine w_ifle (t := 38) gz_167_31 rfl (fun u3 => by exfalso; omega) (fun u3 => ?_)
    refine w_iconst gz_167_34 (by decide) ?_
    refine w_goto (t := 46) gz_167_35 rfl ?_
    have c4 := ev2.symm
    exact w_iret gz_167_46 gm_167 (k0 h1 (gh1) (by omega))
  refine w_aload_n gz_167_0 rfl ?_
  refine w_aload_n gz_167_1 rfl ?_
  refine w_iload_n gz_167_2 rfl ?_
  refine w_iload_n gz_167_3 rfl ?_
  refine w_inv (k := 0) (as := [(0, x3), (0, x1)]) (r := [(2, 151)]) (x := 151) (ls0 := [(2, 151), (0, x1), (0, x3)]) gz_167_4 gm_162 rfl is_151 rd_10 rfl rfl rfl rfl rfl ?_
  refine w_aload_n gz_162_0 rfl ?_
  refine w_iload_n gz_162_1 rfl ?_
  refine w_inv (k := 0) (as := [(0, x1)]) (r := []) (x := 151) (ls0 := [(2, 151), (0, x1)]) gz_162_2 gm_149 rfl is_151 rd_10 rfl rfl rfl rfl rfl ?_
  refine w_iload_n gz_149_0 rfl ?_
  refine w_iflt (t := 22) gz_149_1 rfl (fun u5 => ?_) (fun u5 => ?_)
  ·
    refine w_iconst gz_149_22 (by decide) ?_
    refine w_bret gz_149_23 gm_149 (by omega) (by omega) ?_
    show wp l rho (d + 1) 162 5 [(2, 151), (0, x1), (0, x3)] [(0, 0)] h _
    refine w_ifeq (t := 26) gz_162_5 rfl (fun u6 => ?_) (fun u6 => by exfalso; omega)
    refine w_iconst gz_162_26 (by decide) ?_
    refine w_bret gz_162_27 gm_162 (by omega) (by omega) ?_
    show wp l rho (d + 2) 167 7 [(2, 151), (0, x1), (0, x2), (0, x3)] [(0, 0), (2, 151)] h Q
    refine w_ifeq (t := 23) gz_167_7 rfl (fun u7 => ?_) (fun u7 => by exfalso; omega)
    exact J23_0 h (my_fr.rf)
  ·
    refine w_iload_n gz_149_4 rfl ?_
    refine w_iconst gz_149_5 (by decide) ?_
    refine w_icge (t := 22) gz_149_6 rfl (fun u8 => ?_) (fun u8 => ?_)
    ·
      refine w_iconst gz_149_22 (by decide) ?_
      refine w_bret gz_149_23 gm_149 (by omega) (by omega) ?_
      show wp l rho (d + 1) 162 5 [(2, 151), (0, x1), (0, x3)] [(0, 0)] h _
      refine w_ifeq (t := 26) gz_162_5 rfl (fun u9 => ?_) (fun u9 => by exfalso; omega)
      refine w_iconst gz_162_26 (by decide) ?_
      refine w_bret gz_162_27 gm_162 (by omega) (by omega) ?_
      show wp l rho (d + 2) 167 7 [(2, 151), (0, x1), (0, x2), (0, x3)] [(0, 0), (2, 151)] h Q
      refine w_ifeq (t := 23) gz_167_7 rfl (fun u10 => ?_) (fun u10 => by exfalso; omega)
      exact J23_0 h (my_fr.rf)
    ·
      refine w_aload_n gz_149_9 rfl ?_
      refine w_getX (v := 157) gz_149_10 is_151 rd_10 rfl (by decide) rfl ?_
      refine w_iload_n gz_149_13 rfl ?_
      refine w_iald gz_149_14 is_157 rd_56 (by omega) (by omega) (fun v12 ev12 pv12 qv12 => ?_)
      refine w_ifle (t := 22) gz_149_15 rfl (fun u13 => ?_) (fun u13 => ?_)
      ·
        refine w_iconst gz_149_22 (by decide) ?_
        refine w_bret gz_149_23 gm_149 (by omega) (by omega) ?_
        show wp l rho (d + 1) 162 5 [(2, 151), (0, x1), (0, x3)] [(0, 0)] h _
        refine w_ifeq (t := 26) gz_162_5 rfl (fun u14 => ?_) (fun u14 => by exfalso; omega)
        refine w_iconst gz_162_26 (by decide) ?_
        refine w_bret gz_162_27 gm_162 (by omega) (by omega) ?_
        show wp l rho (d + 2) 167 7 [(2, 151), (0, x1), (0, x2), (0, x3)] [(0, 0), (2, 151)] h Q
        refine w_ifeq (t := 23) gz_167_7 rfl (fun u15 => ?_) (fun u15 => by exfalso; omega)
        exact J23_0 h (my_fr.rf)
      ·
        refine w_iconst gz_149_18 (by decide) ?_
        refine w_goto (t := 23) gz_149_19 rfl ?_
        refine w_bret gz_149_23 gm_149 (by omega) (by omega) ?_
        show wp l rho (d + 1) 162 5 [(2, 151), (0, x1), (0, x3)] [(0, 1)] h _
        refine w_ifeq (t := 26) gz_162_5 rfl (fun u16 => by exfalso; omega) (fun u16 => ?_)
        refine w_iload_n gz_162_8 rfl ?_
        refine w_iflt (t := 26) gz_162_9 rfl (fun u17 => ?_) (fun u17 => ?_)
        ·
          refine w_iconst gz_162_26 (by decide) ?_
          refine w_bret gz_162_27 gm_162 (by omega) (by omega) ?_
          show wp l rho (d + 2) 167 7 [(2, 151), (0, x1), (0, x2), (0, x3)] [(0, 0), (2, 151)] h Q
          refine w_ifeq (t := 23) gz_167_7 rfl (fun u18 => ?_) (fun u18 => by exfalso; omega)
          exact J23_0 h (my_fr.rf)
        ·
          refine w_iload_n gz_162_12 rfl ?_
          refine w_aload_n gz_162_13 rfl ?_
          refine w_getX (v := 157) gz_162_14 is_151 rd_10 rfl (by decide) rfl ?_
          refine w_iload_n gz_162_17 rfl ?_
          refine w_iald gz_162_18 is_157 rd_56 (by omega) (by omega) (fun v20 ev20 pv20 qv20 => ?_)
          have zv20 := ev20.trans ev12.symm
          refine w_icge (t := 26) gz_162_19 rfl (fun u21 => ?_) (fun u21 => ?_)
          ·
            refine w_iconst gz_162_26 (by decide) ?_
            refine w_bret gz_162_27 gm_162 (by omega) (by omega) ?_
            show wp l rho (d + 2) 167 7 [(2, 151), (0, x1), (0, x2), (0, x3)] [(0, 0), (2, 151)] h Q
            refine w_ifeq (t := 23) gz_167_7 rfl (fun u22 => ?_) (fun u22 => by exfalso; omega)
            exact J23_0 h (my_fr.rf)
          ·
            refine w_iconst gz_162_22 (by decide) ?_
            refine w_goto (t := 27) gz_162_23 rfl ?_
            refine w_bret gz_162_27 gm_162 (by omega) (by omega) ?_
            show wp l rho (d + 2) 167 7 [(2, 151), (0, x1), (0, x2), (0, x3)] [(0, 1), (2, 151)] h Q
            refine w_ifeq (t := 23) gz_167_7 rfl (fun u23 => by exfalso; omega) (fun u23 => ?_)
            refine w_aload_n gz_167_10 rfl ?_
            refine w_iload_n gz_167_11 rfl ?_
            refine w_iload_n gz_167_12 rfl ?_
            refine w_inv (k := 0) (as := [(0, x2), (0, x1)]) (r := [(2, 151)]) (x := 151) (ls0 := [(2, 151), (0, x1), (0, x2)]) gz_167_13 gm_159 rfl is_151 rd_10 rfl rfl rfl rfl rfl (c18_Model_isRow (d := d) (x1 := x1) (x2 := x2)  ?_ (fun w24 w25 w26 w27 => ?_))
            ·
              show wp l rho (d + 2) 167 16 [(2, 151), (0, x1), (0, x2), (0, x3)] [(0, 0), (2, 151)] h Q
              refine w_ifeq (t := 23) gz_167_16 rfl (fun u28 => ?_) (fun u28 => by exfalso; omega)
              exact J23_0 h (my_fr.rf)
            ·
              show wp l rho (d + 2) 167 16 [(2, 151), (0, x1), (0, x2), (0, x3)] [(0, 1), (2, 151)] h Q
              refine w_ifeq (t := 23) gz_167_16 rfl (fun u29 => by exfalso; omega) (fun u29 => ?_)
              refine w_iconst gz_167_19 (by decide) ?_
              refine w_goto (t := 24) gz_167_20 rfl ?_
              refine v_putI (j := 0) gz_167_24 rfl is_151 rd_10 rfl (by omega) (by omega) rfl (fun h30 fh30 => ?_)
              have gh30 : my_fr [(10, 0)] h h30 := my_fr.up my_fr.rf is_151 fh30 rfl
              refine w_aload_n gz_167_27 rfl ?_
              refine v_getI (j := 0) gz_167_28 rfl is_151 rd_10 rfl (fun v31 ev31 pv31 qv31 => ?_)
              have zv31 := ev31.trans (my_up_self fh30)
              refine w_ifle (t := 38) gz_167_31 rfl (fun u32 => ?_) (fun u32 => by exfalso; omega)
              refine w_aload_n gz_167_38 rfl ?_
              refine w_iconst gz_167_39 (by decide) ?_
              refine w_iload_n gz_167_40 rfl ?_
              refine w_iload_n gz_167_41 rfl ?_
              refine w_iload_n gz_167_42 rfl ?_
              refine w_inv (k := 0) (as := [(0, x3), (0, x2), (0, x1), (0, 0)]) (r := []) (x := 151) (ls0 := [(2, 151), (0, 0), (0, x1), (0, x2), (0, x3)]) gz_167_43 gm_157 rfl is_151 rd_10 rfl rfl rfl rfl rfl ?_
              refine w_aload_n gz_157_0 rfl ?_
              refine w_getX (v := 163) gz_157_1 is_151 rd_10 rfl (by decide) rfl ?_
              refine w_iconst gz_157_4 (by decide) ?_
              refine w_iload_n gz_157_5 rfl ?_
              refine w_iload_n gz_157_6 rfl ?_
              refine w_iload_n gz_157_7 rfl ?_
              refine w_inS (k := 0) (as := [(0, x2), (0, x1), (0, 0)]) (r := [(0, 4), (2, 163)]) (ls0 := [(0, 0), (0, x1), (0, x2)]) gz_157_8 gm_150 rfl rfl rfl rfl rfl rfl ?_
              refine w_bipush gz_150_0 (by decide) ?_
              refine w_iload_n gz_150_2 rfl ?_
              refine w_imul gz_150_3 ⟨by omega, by omega⟩ ?_
              refine w_bipush gz_150_4 (by decide) ?_
              refine w_iload_n gz_150_6 rfl ?_
              refine w_imul gz_150_7 ⟨by omega, by omega⟩ ?_
              refine w_iadd gz_150_8 ⟨by omega, by omega⟩ ?_
              refine w_iload_n gz_150_9 rfl ?_
              refine w_iadd gz_150_10 ⟨by omega, by omega⟩ ?_
              refine w_iret gz_150_11 gm_150 ?_
              show wp l rho (d + 1) 157 11 [(2, 151), (0, 0), (0, x1), (0, x2), (0, x3)] [(0, (((60 * 0) + (20 * x1)) + x2)), (0, 4), (2, 163)] h30 _
              refine w_imul gz_157_11 ⟨by omega, by omega⟩ ?_
              refine w_iload gz_157_12 rfl ?_
              refine w_iadd gz_157_14 ⟨by omega, by omega⟩ ?_
              refine w_iald gz_157_15 is_163 rd_62 (by omega) (by omega) (fun v34 ev34 pv34 qv34 => ?_)
              refine w_iret gz_157_16 gm_157 ?_
              show wp l rho (d + 2) 167 46 [(2, 151), (0, x1), (0, x2), (0, x3)] [(0, v34)] h30 Q
              have c35 := ev31.symm
              exact w_iret gz_167_46 gm_167 (k1 h30 (v34) (gh30) (by omega) (by omega) (by omega) (by omega) (by omega) (by omega) (by omega) (by omega) (by omega))
theorem gz_175_0 : mz_pg 175 0 = some (.aload_n 0, 0, 0, 0) := by decide +kernel
theorem gz_175_1 : mz_pg 175 1 = some (.iload_n 1, 0, 0, 0) := by decide +kernel
theorem gz_175_2 : mz_pg 175 2 = some (.invokevirtual 239, 1, 176, 1517) := by decide +kernel
theorem gz_175_5 : mz_pg 175 5 = some (.ifCond .ne 8, 0, 0, 0) := by decide +kernel
theorem gz_175_8 : mz_pg 175 8 = some (.aload_n 0, 0, 0, 0) := by decide +kernel
theorem gz_175_9 : mz_pg 175 9 = some (.iconst 1, 0, 0, 0) := by decide +kernel
theorem gz_175_10 : mz_pg 175 10 = some (.invokevirtual 232, 1, 178, 1523) := by decide +kernel
theorem gz_175_13 : mz_pg 175 13 = some (.return_, 0, 0, 0) := by decide +kernel
theorem gz_176_0 : mz_pg 176 0 = some (.aload_n 0, 0, 0, 0) := by decide +kernel
theorem gz_176_1 : mz_pg 176 1 = some (.iload_n 1, 0, 0, 0) := by decide +kernel
theorem gz_176_2 : mz_pg 176 2 = some (.invokevirtual 236, 1, 177, 1520) := by decide +kernel
theorem gz_176_5 : mz_pg 176 5 = some (.istore_n 2, 0, 0, 0) := by decide +kernel
theorem gz_176_6 : mz_pg 176 6 = some (.aload_n 0, 0, 0, 0) := by decide +kernel
theorem gz_176_7 : mz_pg 176 7 = some (.dup, 0, 0, 0) := by decide +kernel
theorem gz_176_8 : mz_pg 176 8 = some (.getfield 223, 10, 7, 1220) := by decide +kernel
theorem gz_176_11 : mz_pg 176 11 = some (.iload_n 2, 0, 0, 0) := by decide +kernel
theorem gz_176_12 : mz_pg 176 12 = some (.ifCond .eq 7, 0, 0, 0) := by decide +kernel
theorem gz_176_19 : mz_pg 176 19 = some (.iconst 0, 0, 0, 0) := by decide +kernel
theorem gz_176_20 : mz_pg 176 20 = some (.iadd, 0, 0, 0) := by decide +kernel
theorem gz_176_21 : mz_pg 176 21 = some (.putfield 223, 10, 7, 1220) := by decide +kernel
theorem gz_176_24 : mz_pg 176 24 = some (.iload_n 2, 0, 0, 0) := by decide +kernel
theorem gz_176_25 : mz_pg 176 25 = some (.ireturn, 0, 0, 0) := by decide +kernel
theorem gz_177_0 : mz_pg 177 0 = some (.aload_n 0, 0, 0, 0) := by decide +kernel
theorem gz_177_1 : mz_pg 177 1 = some (.getfield 226, 10, 8, 1221) := by decide +kernel
theorem gz_177_4 : mz_pg 177 4 = some (.ifCond .ne 39, 0, 0, 0) := by decide +kernel
theorem gz_177_43 : mz_pg 177 43 = some (.iconst 0, 0, 0, 0) := by decide +kernel
theorem gz_177_44 : mz_pg 177 44 = some (.ireturn, 0, 0, 0) := by decide +kernel
theorem gz_178_0 : mz_pg 178 0 = some (.aload_n 0, 0, 0, 0) := by decide +kernel
theorem gz_178_1 : mz_pg 178 1 = some (.getfield 226, 10, 8, 1221) := by decide +kernel
theorem gz_178_4 : mz_pg 178 4 = some (.ifCond .ne 21, 0, 0, 0) := by decide +kernel
theorem gz_178_25 : mz_pg 178 25 = some (.return_, 0, 0, 0) := by decide +kernel
theorem gm_175 : my_mm 175 2 none 1 10 := by unfold my_mm; decide +kernel
theorem gm_176 : my_mm 176 3 (some .boolean) 1 10 := by unfold my_mm; decide +kernel
theorem gm_177 : my_mm 177 2 (some .boolean) 1 10 := by unfold my_mm; decide +kernel
theorem gm_178 : my_mm 178 2 none 1 10 := by unfold my_mm; decide +kernel
theorem c23_Model_takeWord {l : Launch} {rho : Nat → Int32} {d : Nat} {h : my_H} {Q : my_H → my_V → Prop} (xf : Int) (cf : h 151 8 = xf) (cf1 : 1 ≤ xf) (cf2 : xf ≤ 16005) (k0 : ∀ (h' : my_H), my_fr [(10, 7)] h h' → 1 ≤ h' 151 8 → h' 151 8 ≤ 16005 → Q h' (9, 0)) : wp l rho (d + 2) 175 0 [(2, 151), (0, 9)] [] h Q := by
  refine w_aload_n gz_175_0 rfl ?_
  refine w_iload_n gz_175_1 rfl ?_
  refine w_inv (k := 1) (as := [(0, 9)]) (r := []) (x := 151) (ls0 := [(2, 151), (0, 9), (9, 0)]) gz_175_2 gm_176 rfl is_151 rd_10 rfl rfl rfl rfl rfl ?_
  refine w_aload_n gz_176_0 rfl ?_
  refine w_iload_n gz_176_1 rfl ?_
  refine w_inv (k := 0) (as := [(0, 9)]) (r := []) (x := 151) (ls0 := [(2, 151), (0, 9)]) gz_176_2 gm_177 rfl is_151 rd_10 rfl rfl rfl rfl rfl ?_
  refine w_aload_n gz_177_0 rfl ?_
  refine v_getI (j := 8) gz_177_1 rfl is_151 rd_10 rfl (fun v1 ev1 pv1 qv1 => ?_)
  have zv1 := ev1.trans cf
  refine w_ifne (t := 43) gz_177_4 rfl (fun u2 => ?_) (fun u2 => by exfalso; omega)
  refine w_iconst gz_177_43 (by decide) ?_
  refine w_bret gz_177_44 gm_177 (by omega) (by omega) ?_
  show wp l rho (d + 1) 176 5 [(2, 151), (0, 9), (9, 0)] [(0, 0)] h _
  refine w_istore_n (ls' := [(2, 151), (0, 9), (0, 0)]) gz_176_5 gm_176 rfl rfl rfl ?_
  refine w_aload_n gz_176_6 rfl ?_
  refine w_dup gz_176_7 rfl ?_
  refine v_getI (j := 7) gz_176_8 rfl is_151 rd_10 rfl (fun v3 ev3 pv3 qv3 => ?_)
  refine w_iload_n gz_176_11 rfl ?_
  refine w_ifeq (t := 19) gz_176_12 rfl (fun u4 => ?_) (fun u4 => by exfalso; omega)
  refine w_iconst gz_176_19 (by decide) ?_
  refine w_iadd gz_176_20 ⟨by omega, by omega⟩ ?_
  refine v_putI (j := 7) gz_176_21 rfl is_151 rd_10 rfl (by omega) (by omega) rfl (fun h5 fh5 => ?_)
  have gh5 : my_fr [(10, 7)] h h5 := my_fr.up my_fr.rf is_151 fh5 rfl
  refine w_iload_n gz_176_24 rfl ?_
  refine w_bret gz_176_25 gm_176 (by omega) (by omega) ?_
  show wp l rho (d + 2) 175 5 [(2, 151), (0, 9)] [(0, 0)] h5 Q
  refine w_ifne (t := 13) gz_175_5 rfl (fun u6 => by exfalso; omega) (fun u6 => ?_)
  refine w_aload_n gz_175_8 rfl ?_
  refine w_iconst gz_175_9 (by decide) ?_
  refine w_inv (k := 0) (as := [(0, 1)]) (r := []) (x := 151) (ls0 := [(2, 151), (0, 1)]) gz_175_10 gm_178 rfl is_151 rd_10 rfl rfl rfl rfl rfl ?_
  refine w_aload_n gz_178_0 rfl ?_
  refine v_getI (j := 8) gz_178_1 rfl is_151 rd_10 rfl (fun v7 ev7 pv7 qv7 => ?_)
  have zv7 := ev7.trans ((my_up_fld fh5 (by decide)).trans ev1.symm)
  refine w_ifne (t := 25) gz_178_4 rfl (fun u8 => ?_) (fun u8 => by exfalso; omega)
  refine w_vret gz_178_25 gm_178 ?_
  show wp l rho (d + 2) 175 13 [(2, 151), (0, 9)] [] h5 Q
  have c9 := ev7.symm
  exact w_vret gz_175_13 gm_175 (k0 h5 (gh5) (by omega) (by omega))
theorem is_174 : my_is 73 174 := by unfold my_is; decide +kernel
theorem is_175 : my_is 74 175 := by unfold my_is; decide +kernel
theorem is_176 : my_is 75 176 := by unfold my_is; decide +kernel
theorem gz_181_0 : mz_pg 181 0 = some (.aload_n 0, 0, 0, 0) := by decide +kernel
theorem gz_181_1 : mz_pg 181 1 = some (.aload_n 0, 0, 0, 0) := by decide +kernel
theorem gz_181_2 : mz_pg 181 2 = some (.getfield 61, 10, 10, 1223) := by decide +kernel
theorem gz_181_5 : mz_pg 181 5 = some (.aload_n 0, 0, 0, 0) := by decide +kernel
theorem gz_181_6 : mz_pg 181 6 = some (.getfield 296, 10, 33, 1246) := by decide +kernel
theorem gz_181_9 : mz_pg 181 9 = some (.iaload, 0, 0, 0) := by decide +kernel
theorem gz_181_10 : mz_pg 181 10 = some (.putfield 299, 10, 27, 1240) := by decide +kernel
theorem gz_181_13 : mz_pg 181 13 = some (.iconst 0, 0, 0, 0) := by decide +kernel
theorem gz_181_14 : mz_pg 181 14 = some (.istore_n 1, 0, 0, 0) := by decide +kernel
theorem gz_181_15 : mz_pg 181 15 = some (.iload_n 1, 0, 0, 0) := by decide +kernel
theorem gz_181_16 : mz_pg 181 16 = some (.aload_n 0, 0, 0, 0) := by decide +kernel
theorem gz_181_17 : mz_pg 181 17 = some (.getfield 299, 10, 27, 1240) := by decide +kernel
theorem gz_181_20 : mz_pg 181 20 = some (.if_icmp .ge 33, 0, 0, 0) := by decide +kernel
theorem gz_181_23 : mz_pg 181 23 = some (.aload_n 0, 0, 0, 0) := by decide +kernel
theorem gz_181_24 : mz_pg 181 24 = some (.getfield 113, 10, 28, 1241) := by decide +kernel
theorem gz_181_27 : mz_pg 181 27 = some (.iload_n 1, 0, 0, 0) := by decide +kernel
theorem gz_181_28 : mz_pg 181 28 = some (.aload_n 0, 0, 0, 0) := by decide +kernel
theorem gz_181_29 : mz_pg 181 29 = some (.getfield 296, 10, 33, 1246) := by decide +kernel
theorem gz_181_32 : mz_pg 181 32 = some (.iastore, 0, 0, 0) := by decide +kernel
theorem gz_181_33 : mz_pg 181 33 = some (.aload_n 0, 0, 0, 0) := by decide +kernel
theorem gz_181_34 : mz_pg 181 34 = some (.getfield 116, 10, 29, 1242) := by decide +kernel
theorem gz_181_37 : mz_pg 181 37 = some (.iload_n 1, 0, 0, 0) := by decide +kernel
theorem gz_181_38 : mz_pg 181 38 = some (.iload_n 1, 0, 0, 0) := by decide +kernel
theorem gz_181_39 : mz_pg 181 39 = some (.iastore, 0, 0, 0) := by decide +kernel
theorem gz_181_40 : mz_pg 181 40 = some (.aload_n 0, 0, 0, 0) := by decide +kernel
theorem gz_181_41 : mz_pg 181 41 = some (.getfield 119, 10, 30, 1243) := by decide +kernel
theorem gz_181_44 : mz_pg 181 44 = some (.iload_n 1, 0, 0, 0) := by decide +kernel
theorem gz_181_45 : mz_pg 181 45 = some (.iconst 1, 0, 0, 0) := by decide +kernel
theorem gz_181_46 : mz_pg 181 46 = some (.bastore, 0, 0, 0) := by decide +kernel
theorem gz_181_47 : mz_pg 181 47 = some (.iinc 1 1, 0, 0, 0) := by decide +kernel
theorem gz_181_50 : mz_pg 181 50 = some (.goto (-35), 0, 0, 0) := by decide +kernel
theorem gz_181_53 : mz_pg 181 53 = some (.return_, 0, 0, 0) := by decide +kernel
theorem gm_181 : my_mm 181 2 none 0 10 := by unfold my_mm; decide +kernel
theorem rd_73 : my_rd 73 = .inl (0, 8, [(0, -1, 2)]) := rfl
theorem rd_74 : my_rd 74 = .inl (0, 8, [(0, -1, 3)]) := rfl
theorem rd_75 : my_rd 75 = .inl (1, 8, [(0, 0, 1)]) := rfl
theorem c24_Model_beginsColumns {l : Launch} {rho : Nat → Int32} {d : Nat} {h : my_H} {Q : my_H → my_V → Prop} (cf : h 151 8 = 0) (k0 : ∀ (h' : my_H), my_fr [(10, 27), (73, -1), (74, -1), (75, -1)] h h' → h' 151 8 = 0 → 0 ≤ h' 151 27 → h' 151 27 ≤ 4 → Q h' (9, 0)) : wp l rho d 181 0 [(2, 151), (9, 0)] [] h Q := by
  have J15_0 : ∀ (n : Nat) (p15_0 p15_1 p15_2 : Int) (h15_0 : my_H), my_fr [(10, 27), (73, -1), (74, -1), (75, -1)] h h15_0 → 0 ≤ p15_0 → p15_0 ≤ 4 → 0 ≤ p15_2 → p15_2 ≤ 2 → 0 ≤ p15_1 → p15_1 ≤ 4 → p15_0 ≤ p15_1 → h15_0 151 27 = p15_1 → h15_0 151 33 = p15_2 → h15_0 151 8 = 0 → 5 - p15_0 ≤ (n : Int) → wp l rho d 181 15 [(2, 151), (0, p15_0)] [] h15_0 Q := by
    intro n
    induction n with
    | zero => intro p15_0 p15_1 p15_2 h15_0 gh_15_0 q0_15_0 q1_15_0 q2_15_0 q3_15_0 q4_15_0 q5_15_0 q6_15_0 c151_27_15_0 c151_33_15_0 c151_8_15_0 hm_15_0; exfalso; omega
    | succ n ih_15_0 =>
      intro p15_0 p15_1 p15_2 h15_0 gh_15_0 q0_15_0 q1_15_0 q2_15_0 q3_15_0 q4_15_0 q5_15_0 q6_15_0 c151_27_15_0 c151_33_15_0 c151_8_15_0 hm_15_0
      refine w_iload_n gz_181_15 rfl ?_
      refine w_aload_n gz_181_16 rfl ?_
      refine v_getI (j := 27) gz_181_17 rfl is_151 rd_10 rfl (fun v1 ev1 pv1 qv1 => ?_)
      have zv1 := ev1.trans c151_27_15_0
      refine w_icge (t := 53) gz_181_20 rfl (fun u2 => ?_) (fun u2 => ?_)
      ·
        have c3 := c151_8_15_0
        have c4 := ev1.symm
        exact w_vret gz_181_53 gm_181 (k0 h15_0 (gh_15_0) (by omega) (by omega) (by omega))
      ·
        refine w_aload_n gz_181_23 rfl ?_
        refine w_getX (v := 174) gz_181_24 is_151 rd_10 rfl (by decide) rfl ?_
        refine w_iload_n gz_181_27 rfl ?_
        refine w_aload_n gz_181_28 rfl ?_
        refine v_getI (j := 33) gz_181_29 rfl is_151 rd_10 rfl (fun v6 ev6 pv6 qv6 => ?_)
        have zv6 := ev6.trans c151_33_15_0
        refine w_iast gz_181_32 is_174 rd_73 (by omega) (by omega) (by omega) (by omega) (fun h7 fh7 => ?_)
        have gh7 : my_fr [(10, 27), (73, -1), (74, -1), (75, -1)] h h7 := my_fr.up gh_15_0 is_174 fh7 rfl
        refine w_aload_n gz_181_33 rfl ?_
        refine w_getX (v := 175) gz_181_34 is_151 rd_10 rfl (by decide) rfl ?_
        refine w_iload_n gz_181_37 rfl ?_
        refine w_iload_n gz_181_38 rfl ?_
        refine w_iast gz_181_39 is_175 rd_74 (by omega) (by omega) (by omega) (by omega) (fun h9 fh9 => ?_)
        have gh9 : my_fr [(10, 27), (73, -1), (74, -1), (75, -1)] h h9 := my_fr.up gh7 is_175 fh9 rfl
        refine w_aload_n gz_181_40 rfl ?_
        refine w_getX (v := 176) gz_181_41 is_151 rd_10 rfl (by decide) rfl ?_
        refine w_iload_n gz_181_44 rfl ?_
        refine w_iconst gz_181_45 (by decide) ?_
        refine w_bast gz_181_46 is_176 rd_75 (by omega) (by omega) (by omega) (by omega) (fun h11 fh11 => ?_)
        have gh11 : my_fr [(10, 27), (73, -1), (74, -1), (75, -1)] h h11 := my_fr.up gh9 is_176 fh11 rfl
        refine w_iinc (ls' := [(2, 151), (0, (p15_0 + 1))]) gz_181_47 rfl gm_181 rfl rfl rfl ⟨by omega, by omega⟩ ?_
        refine w_goto (t := 15) gz_181_50 rfl ?_
        exact ih_15_0 ((p15_0 + 1)) (v1) (v6) h11 (gh11) (by omega) (by omega) (by omega) (by omega) (by omega) (by omega) (by omega) (((my_up_role fh11 is_151 is_176 rfl).trans ((my_up_role fh9 is_151 is_175 rfl).trans ((my_up_role fh7 is_151 is_174 rfl).trans ev1.symm))).trans (by omega)) (((my_up_role fh11 is_151 is_176 rfl).trans ((my_up_role fh9 is_151 is_175 rfl).trans ((my_up_role fh7 is_151 is_174 rfl).trans ev6.symm))).trans (by omega)) (((my_up_role fh11 is_151 is_176 rfl).trans ((my_up_role fh9 is_151 is_175 rfl).trans ((my_up_role fh7 is_151 is_174 rfl).trans c151_8_15_0))).trans (by omega)) (by omega)
  refine w_aload_n gz_181_0 rfl ?_
  refine w_aload_n gz_181_1 rfl ?_
  refine w_getX (v := 157) gz_181_2 is_151 rd_10 rfl (by decide) rfl ?_
  refine w_aload_n gz_181_5 rfl ?_
  refine v_getI (j := 33) gz_181_6 rfl is_151 rd_10 rfl (fun v13 ev13 pv13 qv13 => ?_)
  refine w_iald gz_181_9 is_157 rd_56 (by omega) (by omega) (fun v14 ev14 pv14 qv14 => ?_)
  refine v_putI (j := 27) gz_181_10 rfl is_151 rd_10 rfl (by omega) (by omega) rfl (fun h15 fh15 => ?_)
  have gh15 : my_fr [(10, 27), (73, -1), (74, -1), (75, -1)] h h15 := my_fr.up my_fr.rf is_151 fh15 rfl
  refine w_iconst gz_181_13 (by decide) ?_
  refine w_istore_n (ls' := [(2, 151), (0, 0)]) gz_181_14 gm_181 rfl rfl rfl ?_
  exact J15_0 5 (0) (v14) (v13) h15 (gh15) (by omega) (by omega) (by omega) (by omega) (by omega) (by omega) (by omega) ((my_up_self fh15).trans (by omega)) (((my_up_fld fh15 (by decide)).trans ev13.symm).trans (by omega)) (((my_up_fld fh15 (by decide)).trans cf).trans (by omega)) (by omega)
theorem c25_Model_beginsColumns {l : Launch} {rho : Nat → Int32} {d : Nat} {h : my_H} {Q : my_H → my_V → Prop} (k0 : ∀ (h' : my_H), my_fr [(10, 27), (73, -1), (74, -1), (75, -1)] h h' → 0 ≤ h' 151 27 → h' 151 27 ≤ 4 → Q h' (9, 0)) : wp l rho d 181 0 [(2, 151), (9, 0)] [] h Q := by
  have J15_0 : ∀ (n : Nat) (p15_0 p15_1 p15_2 : Int) (h15_0 : my_H), my_fr [(10, 27), (73, -1), (74, -1), (75, -1)] h h15_0 → 0 ≤ p15_0 → p15_0 ≤ 4 → 0 ≤ p15_2 → p15_2 ≤ 2 → 0 ≤ p15_1 → p15_1 ≤ 4 → p15_0 ≤ p15_1 → h15_0 151 27 = p15_1 → h15_0 151 33 = p15_2 → 5 - p15_0 ≤ (n : Int) → wp l rho d 181 15 [(2, 151), (0, p15_0)] [] h15_0 Q := by
    intro n
    induction n with
    | zero => intro p15_0 p15_1 p15_2 h15_0 gh_15_0 q0_15_0 q1_15_0 q2_15_0 q3_15_0 q4_15_0 q5_15_0 q6_15_0 c151_27_15_0 c151_33_15_0 hm_15_0; exfalso; omega
    | succ n ih_15_0 =>
      intro p15_0 p15_1 p15_2 h15_0 gh_15_0 q0_15_0 q1_15_0 q2_15_0 q3_15_0 q4_15_0 q5_15_0 q6_15_0 c151_27_15_0 c151_33_15_0 hm_15_0
      refine w_iload_n gz_181_15 rfl ?_
      refine w_aload_n gz_181_16 rfl ?_
      refine v_getI (j := 27) gz_181_17 rfl is_151 rd_10 rfl (fun v1 ev1 pv1 qv1 => ?_)
      have zv1 := ev1.trans c151_27_15_0
      refine w_icge (t := 53) gz_181_20 rfl (fun u2 => ?_) (fun u2 => ?_)
      ·
        have c3 := ev1.symm
        exact w_vret gz_181_53 gm_181 (k0 h15_0 (gh_15_0) (by omega) (by omega))
      ·
        refine w_aload_n gz_181_23 rfl ?_
        refine w_getX (v := 174) gz_181_24 is_151 rd_10 rfl (by decide) rfl ?_
        refine w_iload_n gz_181_27 rfl ?_
        refine w_aload_n gz_181_28 rfl ?_
        refine v_getI (j := 33) gz_181_29 rfl is_151 rd_10 rfl (fun v5 ev5 pv5 qv5 => ?_)
        have zv5 := ev5.trans c151_33_15_0
        refine w_iast gz_181_32 is_174 rd_73 (by omega) (by omega) (by omega) (by omega) (fun h6 fh6 => ?_)
        have gh6 : my_fr [(10, 27), (73, -1), (74, -1), (75, -1)] h h6 := my_fr.up gh_15_0 is_174 fh6 rfl
        refine w_aload_n gz_181_33 rfl ?_
        refine w_getX (v := 175) gz_181_34 is_151 rd_10 rfl (by decide) rfl ?_
        refine w_iload_n gz_181_37 rfl ?_
        refine w_iload_n gz_181_38 rfl ?_
        refine w_iast gz_181_39 is_175 rd_74 (by omega) (by omega) (by omega) (by omega) (fun h8 fh8 => ?_)
        have gh8 : my_fr [(10, 27), (73, -1), (74, -1), (75, -1)] h h8 := my_fr.up gh6 is_175 fh8 rfl
        refine w_aload_n gz_181_40 rfl ?_
        refine w_getX (v := 176) gz_181_41 is_151 rd_10 rfl (by decide) rfl ?_
        refine w_iload_n gz_181_44 rfl ?_
        refine w_iconst gz_181_45 (by decide) ?_
        refine w_bast gz_181_46 is_176 rd_75 (by omega) (by omega) (by omega) (by omega) (fun h10 fh10 => ?_)
        have gh10 : my_fr [(10, 27), (73, -1), (74, -1), (75, -1)] h h10 := my_fr.up gh8 is_176 fh10 rfl
        refine w_iinc (ls' := [(2, 151), (0, (p15_0 + 1))]) gz_181_47 rfl gm_181 rfl rfl rfl ⟨by omega, by omega⟩ ?_
        refine w_goto (t := 15) gz_181_50 rfl ?_
        exact ih_15_0 ((p15_0 + 1)) (v1) (v5) h10 (gh10) (by omega) (by omega) (by omega) (by omega) (by omega) (by omega) (by omega) (((my_up_role fh10 is_151 is_176 rfl).trans ((my_up_role fh8 is_151 is_175 rfl).trans ((my_up_role fh6 is_151 is_174 rfl).trans ev1.symm))).trans (by omega)) (((my_up_role fh10 is_151 is_176 rfl).trans ((my_up_role fh8 is_151 is_175 rfl).trans ((my_up_role fh6 is_151 is_174 rfl).trans ev5.symm))).trans (by omega)) (by omega)
  refine w_aload_n gz_181_0 rfl ?_
  refine w_aload_n gz_181_1 rfl ?_
  refine w_getX (v := 157) gz_181_2 is_151 rd_10 rfl (by decide) rfl ?_
  refine w_aload_n gz_181_5 rfl ?_
  refine v_getI (j := 33) gz_181_6 rfl is_151 rd_10 rfl (fun v12 ev12 pv12 qv12 => ?_)
  refine w_iald gz_181_9 is_157 rd_56 (by omega) (by omega) (fun v13 ev13 pv13 qv13 => ?_)
  refine v_putI (j := 27) gz_181_10 rfl is_151 rd_10 rfl (by omega) (by omega) rfl (fun h14 fh14 => ?_)
  have gh14 : my_fr [(10, 27), (73, -1), (74, -1), (75, -1)] h h14 := my_fr.up my_fr.rf is_151 fh14 rfl
  refine w_iconst gz_181_13 (by decide) ?_
  refine w_istore_n (ls' := [(2, 151), (0, 0)]) gz_181_14 gm_181 rfl rfl rfl ?_
  exact J15_0 5 (0) (v13) (v12) h14 (gh14) (by omega) (by omega) (by omega) (by omega) (by omega) (by omega) (by omega) ((my_up_self fh14).trans (by omega)) (((my_up_fld fh14 (by decide)).trans ev12.symm).trans (by omega)) (by omega)
theorem gz_183_0 : mz_pg 183 0 = some (.aload_n 0, 0, 0, 0) := by decide +kernel
theorem gz_183_1 : mz_pg 183 1 = some (.iload_n 1, 0, 0, 0) := by decide +kernel
theorem gz_183_2 : mz_pg 183 2 = some (.invokevirtual 229, 1, 184, 1541) := by decide +kernel
theorem gz_183_5 : mz_pg 183 5 = some (.ifCond .eq 16, 0, 0, 0) := by decide +kernel
theorem gz_183_21 : mz_pg 183 21 = some (.aload_n 0, 0, 0, 0) := by decide +kernel
theorem gz_183_22 : mz_pg 183 22 = some (.iconst 1, 0, 0, 0) := by decide +kernel
theorem gz_183_23 : mz_pg 183 23 = some (.invokevirtual 232, 1, 178, 1523) := by decide +kernel
theorem gz_183_26 : mz_pg 183 26 = some (.return_, 0, 0, 0) := by decide +kernel
theorem gz_184_0 : mz_pg 184 0 = some (.aload_n 0, 0, 0, 0) := by decide +kernel
theorem gz_184_1 : mz_pg 184 1 = some (.getfield 226, 10, 8, 1221) := by decide +kernel
theorem gz_184_4 : mz_pg 184 4 = some (.ifCond .ne 35, 0, 0, 0) := by decide +kernel
theorem gz_184_39 : mz_pg 184 39 = some (.iconst 0, 0, 0, 0) := by decide +kernel
theorem gz_184_40 : mz_pg 184 40 = some (.ireturn, 0, 0, 0) := by decide +kernel
theorem gm_183 : my_mm 183 2 none 1 10 := by unfold my_mm; decide +kernel
theorem gm_184 : my_mm 184 2 (some .boolean) 1 10 := by unfold my_mm; decide +kernel
theorem c26_Model_takeSign {l : Launch} {rho : Nat → Int32} {d : Nat} {h : my_H} {Q : my_H → my_V → Prop} (xf : Int) (cf : h 151 8 = xf) (cf1 : 1 ≤ xf) (cf2 : xf ≤ 16005) (k0 : 1 ≤ h 151 8 → h 151 8 ≤ 16005 → Q h (9, 0)) : wp l rho (d + 1) 183 0 [(2, 151), (0, 59)] [] h Q := by
  refine w_aload_n gz_183_0 rfl ?_
  refine w_iload_n gz_183_1 rfl ?_
  refine w_inv (k := 0) (as := [(0, 59)]) (r := []) (x := 151) (ls0 := [(2, 151), (0, 59)]) gz_183_2 gm_184 rfl is_151 rd_10 rfl rfl rfl rfl rfl ?_
  refine w_aload_n gz_184_0 rfl ?_
  refine v_getI (j := 8) gz_184_1 rfl is_151 rd_10 rfl (fun v1 ev1 pv1 qv1 => ?_)
  have zv1 := ev1.trans cf
  refine w_ifne (t := 39) gz_184_4 rfl (fun u2 => ?_) (fun u2 => by exfalso; omega)
  refine w_iconst gz_184_39 (by decide) ?_
  refine w_bret gz_184_40 gm_184 (by omega) (by omega) ?_
  show wp l rho (d + 1) 183 5 [(2, 151), (0, 59)] [(0, 0)] h Q
  refine w_ifeq (t := 21) gz_183_5 rfl (fun u3 => ?_) (fun u3 => by exfalso; omega)
  refine w_aload_n gz_183_21 rfl ?_
  refine w_iconst gz_183_22 (by decide) ?_
  refine w_inv (k := 0) (as := [(0, 1)]) (r := []) (x := 151) (ls0 := [(2, 151), (0, 1)]) gz_183_23 gm_178 rfl is_151 rd_10 rfl rfl rfl rfl rfl ?_
  refine w_aload_n gz_178_0 rfl ?_
  refine v_getI (j := 8) gz_178_1 rfl is_151 rd_10 rfl (fun v4 ev4 pv4 qv4 => ?_)
  have zv4 := ev4.trans ev1.symm
  refine w_ifne (t := 25) gz_178_4 rfl (fun u5 => ?_) (fun u5 => by exfalso; omega)
  refine w_vret gz_178_25 gm_178 ?_
  show wp l rho (d + 1) 183 26 [(2, 151), (0, 59)] [] h Q
  have c6 := ev4.symm
  exact w_vret gz_183_26 gm_183 (k0 (by omega) (by omega))
theorem gz_187_0 : mz_pg 187 0 = some (.aload_n 0, 0, 0, 0) := by decide +kernel
theorem gz_187_1 : mz_pg 187 1 = some (.getfield 226, 10, 8, 1221) := by decide +kernel
theorem gz_187_4 : mz_pg 187 4 = some (.ifCond .ne 24, 0, 0, 0) := by decide +kernel
theorem gz_187_28 : mz_pg 187 28 = some (.aload_n 0, 0, 0, 0) := by decide +kernel
theorem gz_187_29 : mz_pg 187 29 = some (.getfield 226, 10, 8, 1221) := by decide +kernel
theorem gz_187_32 : mz_pg 187 32 = some (.ifCond .ne 23, 0, 0, 0) := by decide +kernel
theorem gz_187_55 : mz_pg 187 55 = some (.aload_n 0, 0, 0, 0) := by decide +kernel
theorem gz_187_56 : mz_pg 187 56 = some (.getfield 226, 10, 8, 1221) := by decide +kernel
theorem gz_187_59 : mz_pg 187 59 = some (.ifCond .le 5, 0, 0, 0) := by decide +kernel
theorem gz_187_62 : mz_pg 187 62 = some (.iconst 0, 0, 0, 0) := by decide +kernel
theorem gz_187_63 : mz_pg 187 63 = some (.ireturn, 0, 0, 0) := by decide +kernel
theorem gm_187 : my_mm 187 2 (some .int) 1 10 := by unfold my_mm; decide +kernel
theorem c27_Model_takeNumber {l : Launch} {rho : Nat → Int32} {d : Nat} {h : my_H} {Q : my_H → my_V → Prop} {x1 : Int} (a1 : (-1) ≤ x1) (b1 : x1 ≤ 19) (xf : Int) (cf : h 151 8 = xf) (cf1 : 1 ≤ xf) (cf2 : xf ≤ 16005) (k0 : 1 ≤ h 151 8 → h 151 8 ≤ 16005 → Q h (0, 0)) : wp l rho (d + 1) 187 0 [(2, 151), (0, x1)] [] h Q := by
  refine w_aload_n gz_187_0 rfl ?_
  refine v_getI (j := 8) gz_187_1 rfl is_151 rd_10 rfl (fun v1 ev1 pv1 qv1 => ?_)
  have zv1 := ev1.trans cf
  refine w_ifne (t := 28) gz_187_4 rfl (fun u2 => ?_) (fun u2 => by exfalso; omega)
  refine w_aload_n gz_187_28 rfl ?_
  refine v_getI (j := 8) gz_187_29 rfl is_151 rd_10 rfl (fun v3 ev3 pv3 qv3 => ?_)
  have zv3 := ev3.trans ev1.symm
  refine w_ifne (t := 55) gz_187_32 rfl (fun u4 => ?_) (fun u4 => by exfalso; omega)
  refine w_aload_n gz_187_55 rfl ?_
  refine v_getI (j := 8) gz_187_56 rfl is_151 rd_10 rfl (fun v5 ev5 pv5 qv5 => ?_)
  have zv5 := ev5.trans ev3.symm
  refine w_ifle (t := 64) gz_187_59 rfl (fun u6 => by exfalso; omega) (fun u6 => ?_)
  refine w_iconst gz_187_62 (by decide) ?_
  have c7 := ev5.symm
  exact w_iret gz_187_63 gm_187 (k0 (by omega) (by omega))
theorem is_164 : my_is 63 164 := by unfold my_is; decide +kernel
theorem is_165 : my_is 64 165 := by unfold my_is; decide +kernel
theorem is_166 : my_is 65 166 := by unfold my_is; decide +kernel
theorem is_167 : my_is 66 167 := by unfold my_is; decide +kernel
theorem is_168 : my_is 67 168 := by unfold my_is; decide +kernel
theorem is_169 : my_is 68 169 := by unfold my_is; decide +kernel
theorem is_170 : my_is 69 170 := by unfold my_is; decide +kernel
theorem is_171 : my_is 70 171 := by unfold my_is; decide +kernel
theorem is_172 : my_is 71 172 := by unfold my_is; decide +kernel
theorem is_173 : my_is 72 173 := by unfold my_is; decide +kernel
theorem gz_191_0 : mz_pg 191 0 = some (.aload_n 0, 0, 0, 0) := by decide +kernel
theorem gz_191_1 : mz_pg 191 1 = some (.getfield 83, 10, 17, 1230) := by decide +kernel
theorem gz_191_4 : mz_pg 191 4 = some (.iload_n 1, 0, 0, 0) := by decide +kernel
theorem gz_191_5 : mz_pg 191 5 = some (.iconst 1, 0, 0, 0) := by decide +kernel
theorem gz_191_6 : mz_pg 191 6 = some (.bastore, 0, 0, 0) := by decide +kernel
theorem gz_191_7 : mz_pg 191 7 = some (.aload_n 0, 0, 0, 0) := by decide +kernel
theorem gz_191_8 : mz_pg 191 8 = some (.getfield 86, 10, 18, 1231) := by decide +kernel
theorem gz_191_11 : mz_pg 191 11 = some (.iload_n 1, 0, 0, 0) := by decide +kernel
theorem gz_191_12 : mz_pg 191 12 = some (.aload_n 0, 0, 0, 0) := by decide +kernel
theorem gz_191_13 : mz_pg 191 13 = some (.getfield 86, 10, 18, 1231) := by decide +kernel
theorem gz_191_16 : mz_pg 191 16 = some (.bipush 6, 0, 0, 0) := by decide +kernel
theorem gz_191_18 : mz_pg 191 18 = some (.baload, 0, 0, 0) := by decide +kernel
theorem gz_191_19 : mz_pg 191 19 = some (.bastore, 0, 0, 0) := by decide +kernel
theorem gz_191_20 : mz_pg 191 20 = some (.aload_n 0, 0, 0, 0) := by decide +kernel
theorem gz_191_21 : mz_pg 191 21 = some (.getfield 89, 10, 19, 1232) := by decide +kernel
theorem gz_191_24 : mz_pg 191 24 = some (.iload_n 1, 0, 0, 0) := by decide +kernel
theorem gz_191_25 : mz_pg 191 25 = some (.aload_n 0, 0, 0, 0) := by decide +kernel
theorem gz_191_26 : mz_pg 191 26 = some (.getfield 89, 10, 19, 1232) := by decide +kernel
theorem gz_191_29 : mz_pg 191 29 = some (.bipush 6, 0, 0, 0) := by decide +kernel
theorem gz_191_31 : mz_pg 191 31 = some (.iaload, 0, 0, 0) := by decide +kernel
theorem gz_191_32 : mz_pg 191 32 = some (.iastore, 0, 0, 0) := by decide +kernel
theorem gz_191_33 : mz_pg 191 33 = some (.aload_n 0, 0, 0, 0) := by decide +kernel
theorem gz_191_34 : mz_pg 191 34 = some (.getfield 92, 10, 20, 1233) := by decide +kernel
theorem gz_191_37 : mz_pg 191 37 = some (.iload_n 1, 0, 0, 0) := by decide +kernel
theorem gz_191_38 : mz_pg 191 38 = some (.aload_n 0, 0, 0, 0) := by decide +kernel
theorem gz_191_39 : mz_pg 191 39 = some (.getfield 92, 10, 20, 1233) := by decide +kernel
theorem gz_191_42 : mz_pg 191 42 = some (.bipush 6, 0, 0, 0) := by decide +kernel
theorem gz_191_44 : mz_pg 191 44 = some (.iaload, 0, 0, 0) := by decide +kernel
theorem gz_191_45 : mz_pg 191 45 = some (.iastore, 0, 0, 0) := by decide +kernel
theorem gz_191_46 : mz_pg 191 46 = some (.iconst 0, 0, 0, 0) := by decide +kernel
theorem gz_191_47 : mz_pg 191 47 = some (.istore_n 2, 0, 0, 0) := by decide +kernel
theorem gz_191_48 : mz_pg 191 48 = some (.iload_n 2, 0, 0, 0) := by decide +kernel
theorem gz_191_49 : mz_pg 191 49 = some (.bipush 6, 0, 0, 0) := by decide +kernel
theorem gz_191_51 : mz_pg 191 51 = some (.if_icmp .ge 115, 0, 0, 0) := by decide +kernel
theorem gz_191_54 : mz_pg 191 54 = some (.bipush 6, 0, 0, 0) := by decide +kernel
theorem gz_191_56 : mz_pg 191 56 = some (.iload_n 1, 0, 0, 0) := by decide +kernel
theorem gz_191_57 : mz_pg 191 57 = some (.imul, 0, 0, 0) := by decide +kernel
theorem gz_191_58 : mz_pg 191 58 = some (.iload_n 2, 0, 0, 0) := by decide +kernel
theorem gz_191_59 : mz_pg 191 59 = some (.iadd, 0, 0, 0) := by decide +kernel
theorem gz_191_60 : mz_pg 191 60 = some (.istore_n 3, 0, 0, 0) := by decide +kernel
theorem gz_191_61 : mz_pg 191 61 = some (.bipush 36, 0, 0, 0) := by decide +kernel
theorem gz_191_63 : mz_pg 191 63 = some (.iload_n 2, 0, 0, 0) := by decide +kernel
theorem gz_191_64 : mz_pg 191 64 = some (.iadd, 0, 0, 0) := by decide +kernel
theorem gz_191_65 : mz_pg 191 65 = some (.istore 4, 0, 0, 0) := by decide +kernel
theorem gz_191_67 : mz_pg 191 67 = some (.aload_n 0, 0, 0, 0) := by decide +kernel
theorem gz_191_68 : mz_pg 191 68 = some (.getfield 95, 10, 21, 1234) := by decide +kernel
theorem gz_191_71 : mz_pg 191 71 = some (.iload_n 3, 0, 0, 0) := by decide +kernel
theorem gz_191_72 : mz_pg 191 72 = some (.aload_n 0, 0, 0, 0) := by decide +kernel
theorem gz_191_73 : mz_pg 191 73 = some (.getfield 95, 10, 21, 1234) := by decide +kernel
theorem gz_191_76 : mz_pg 191 76 = some (.iload 4, 0, 0, 0) := by decide +kernel
theorem gz_191_78 : mz_pg 191 78 = some (.iaload, 0, 0, 0) := by decide +kernel
theorem gz_191_79 : mz_pg 191 79 = some (.iastore, 0, 0, 0) := by decide +kernel
theorem gz_191_80 : mz_pg 191 80 = some (.aload_n 0, 0, 0, 0) := by decide +kernel
theorem gz_191_81 : mz_pg 191 81 = some (.getfield 98, 10, 22, 1235) := by decide +kernel
theorem gz_191_84 : mz_pg 191 84 = some (.iload_n 3, 0, 0, 0) := by decide +kernel
theorem gz_191_85 : mz_pg 191 85 = some (.aload_n 0, 0, 0, 0) := by decide +kernel
theorem gz_191_86 : mz_pg 191 86 = some (.getfield 98, 10, 22, 1235) := by decide +kernel
theorem gz_191_89 : mz_pg 191 89 = some (.iload 4, 0, 0, 0) := by decide +kernel
theorem gz_191_91 : mz_pg 191 91 = some (.iaload, 0, 0, 0) := by decide +kernel
theorem gz_191_92 : mz_pg 191 92 = some (.iastore, 0, 0, 0) := by decide +kernel
theorem gz_191_93 : mz_pg 191 93 = some (.aload_n 0, 0, 0, 0) := by decide +kernel
theorem gz_191_94 : mz_pg 191 94 = some (.getfield 101, 10, 23, 1236) := by decide +kernel
theorem gz_191_97 : mz_pg 191 97 = some (.iload_n 3, 0, 0, 0) := by decide +kernel
theorem gz_191_98 : mz_pg 191 98 = some (.aload_n 0, 0, 0, 0) := by decide +kernel
theorem gz_191_99 : mz_pg 191 99 = some (.getfield 101, 10, 23, 1236) := by decide +kernel
theorem gz_191_102 : mz_pg 191 102 = some (.iload 4, 0, 0, 0) := by decide +kernel
theorem gz_191_104 : mz_pg 191 104 = some (.iaload, 0, 0, 0) := by decide +kernel
theorem gz_191_105 : mz_pg 191 105 = some (.iastore, 0, 0, 0) := by decide +kernel
theorem gz_191_106 : mz_pg 191 106 = some (.aload_n 0, 0, 0, 0) := by decide +kernel
theorem gz_191_107 : mz_pg 191 107 = some (.getfield 104, 10, 24, 1237) := by decide +kernel
theorem gz_191_110 : mz_pg 191 110 = some (.iload_n 3, 0, 0, 0) := by decide +kernel
theorem gz_191_111 : mz_pg 191 111 = some (.aload_n 0, 0, 0, 0) := by decide +kernel
theorem gz_191_112 : mz_pg 191 112 = some (.getfield 104, 10, 24, 1237) := by decide +kernel
theorem gz_191_115 : mz_pg 191 115 = some (.iload 4, 0, 0, 0) := by decide +kernel
theorem gz_191_117 : mz_pg 191 117 = some (.iaload, 0, 0, 0) := by decide +kernel
theorem gz_191_118 : mz_pg 191 118 = some (.iastore, 0, 0, 0) := by decide +kernel
theorem gz_191_119 : mz_pg 191 119 = some (.iconst 0, 0, 0, 0) := by decide +kernel
theorem gz_191_120 : mz_pg 191 120 = some (.istore 5, 0, 0, 0) := by decide +kernel
theorem gz_191_122 : mz_pg 191 122 = some (.iload 5, 0, 0, 0) := by decide +kernel
theorem gz_191_124 : mz_pg 191 124 = some (.bipush 8, 0, 0, 0) := by decide +kernel
theorem gz_191_126 : mz_pg 191 126 = some (.if_icmp .ge 34, 0, 0, 0) := by decide +kernel
theorem gz_191_129 : mz_pg 191 129 = some (.aload_n 0, 0, 0, 0) := by decide +kernel
theorem gz_191_130 : mz_pg 191 130 = some (.getfield 107, 10, 25, 1238) := by decide +kernel
theorem gz_191_133 : mz_pg 191 133 = some (.bipush 8, 0, 0, 0) := by decide +kernel
theorem gz_191_135 : mz_pg 191 135 = some (.iload_n 3, 0, 0, 0) := by decide +kernel
theorem gz_191_136 : mz_pg 191 136 = some (.imul, 0, 0, 0) := by decide +kernel
theorem gz_191_137 : mz_pg 191 137 = some (.iload 5, 0, 0, 0) := by decide +kernel
theorem gz_191_139 : mz_pg 191 139 = some (.iadd, 0, 0, 0) := by decide +kernel
theorem gz_191_140 : mz_pg 191 140 = some (.aload_n 0, 0, 0, 0) := by decide +kernel
theorem gz_191_141 : mz_pg 191 141 = some (.getfield 107, 10, 25, 1238) := by decide +kernel
theorem gz_191_144 : mz_pg 191 144 = some (.bipush 8, 0, 0, 0) := by decide +kernel
theorem gz_191_146 : mz_pg 191 146 = some (.iload 4, 0, 0, 0) := by decide +kernel
theorem gz_191_148 : mz_pg 191 148 = some (.imul, 0, 0, 0) := by decide +kernel
theorem gz_191_149 : mz_pg 191 149 = some (.iload 5, 0, 0, 0) := by decide +kernel
theorem gz_191_151 : mz_pg 191 151 = some (.iadd, 0, 0, 0) := by decide +kernel
theorem gz_191_152 : mz_pg 191 152 = some (.iaload, 0, 0, 0) := by decide +kernel
theorem gz_191_153 : mz_pg 191 153 = some (.iastore, 0, 0, 0) := by decide +kernel
theorem gz_191_154 : mz_pg 191 154 = some (.iinc 5 1, 0, 0, 0) := by decide +kernel
theorem gz_191_157 : mz_pg 191 157 = some (.goto (-35), 0, 0, 0) := by decide +kernel
theorem gz_191_160 : mz_pg 191 160 = some (.iinc 2 1, 0, 0, 0) := by decide +kernel
theorem gz_191_163 : mz_pg 191 163 = some (.goto (-115), 0, 0, 0) := by decide +kernel
theorem gz_191_166 : mz_pg 191 166 = some (.iconst 0, 0, 0, 0) := by decide +kernel
theorem gz_191_167 : mz_pg 191 167 = some (.istore_n 2, 0, 0, 0) := by decide +kernel
theorem gz_191_168 : mz_pg 191 168 = some (.iload_n 2, 0, 0, 0) := by decide +kernel
theorem gz_191_169 : mz_pg 191 169 = some (.iconst 4, 0, 0, 0) := by decide +kernel
theorem gz_191_170 : mz_pg 191 170 = some (.if_icmp .ge 28, 0, 0, 0) := by decide +kernel
theorem gz_191_173 : mz_pg 191 173 = some (.aload_n 0, 0, 0, 0) := by decide +kernel
theorem gz_191_174 : mz_pg 191 174 = some (.getfield 110, 10, 26, 1239) := by decide +kernel
theorem gz_191_177 : mz_pg 191 177 = some (.iconst 4, 0, 0, 0) := by decide +kernel
theorem gz_191_178 : mz_pg 191 178 = some (.iload_n 1, 0, 0, 0) := by decide +kernel
theorem gz_191_179 : mz_pg 191 179 = some (.imul, 0, 0, 0) := by decide +kernel
theorem gz_191_180 : mz_pg 191 180 = some (.iload_n 2, 0, 0, 0) := by decide +kernel
theorem gz_191_181 : mz_pg 191 181 = some (.iadd, 0, 0, 0) := by decide +kernel
theorem gz_191_182 : mz_pg 191 182 = some (.aload_n 0, 0, 0, 0) := by decide +kernel
theorem gz_191_183 : mz_pg 191 183 = some (.getfield 110, 10, 26, 1239) := by decide +kernel
theorem gz_191_186 : mz_pg 191 186 = some (.bipush 24, 0, 0, 0) := by decide +kernel
theorem gz_191_188 : mz_pg 191 188 = some (.iload_n 2, 0, 0, 0) := by decide +kernel
theorem gz_191_189 : mz_pg 191 189 = some (.iadd, 0, 0, 0) := by decide +kernel
theorem gz_191_190 : mz_pg 191 190 = some (.iaload, 0, 0, 0) := by decide +kernel
theorem gz_191_191 : mz_pg 191 191 = some (.iastore, 0, 0, 0) := by decide +kernel
theorem gz_191_192 : mz_pg 191 192 = some (.iinc 2 1, 0, 0, 0) := by decide +kernel
theorem gz_191_195 : mz_pg 191 195 = some (.goto (-27), 0, 0, 0) := by decide +kernel
theorem gz_191_198 : mz_pg 191 198 = some (.return_, 0, 0, 0) := by decide +kernel
theorem gm_191 : my_mm 191 6 none 1 10 := by unfold my_mm; decide +kernel
theorem rd_63 : my_rd 63 = .inl (1, 7, [(0, 0, 1)]) := rfl
theorem rd_64 : my_rd 64 = .inl (1, 7, [(0, 0, 1)]) := rfl
theorem rd_65 : my_rd 65 = .inl (0, 7, [(0, 0, 5)]) := rfl
theorem rd_66 : my_rd 66 = .inl (0, 7, [(0, 0, 6)]) := rfl
theorem rd_67 : my_rd 67 = .inl (0, 42, [(0, 0, 5)]) := rfl
theorem rd_68 : my_rd 68 = .inl (0, 42, [(0, 0, 7)]) := rfl
theorem rd_69 : my_rd 69 = .inl (0, 42, [(0, 0, 199)]) := rfl
theorem rd_70 : my_rd 70 = .inl (0, 42, [(0, 0, 8)]) := rfl
theorem rd_71 : my_rd 71 = .inl (0, 336, [(0, 0, 7)]) := rfl
theorem rd_72 : my_rd 72 = .inl (0, 28, [(0, -1, 19)]) := rfl
theorem c28_Model_keeps {l : Launch} {rho : Nat → Int32} {d : Nat} {h : my_H} {Q : my_H → my_V → Prop} {x1 : Int} (a1 : 0 ≤ x1) (b1 : x1 ≤ 5) (cf : h 151 8 = 0) (k0 : ∀ (h' : my_H), my_fr [(63, -1), (64, -1), (65, -1), (66, -1), (67, -1), (68, -1), (69, -1), (70, -1), (71, -1), (72, -1)] h h' → h' 151 8 = 0 → Q h' (9, 0)) : wp l rho d 191 0 [(2, 151), (0, x1), (9, 0), (9, 0), (9, 0), (9, 0)] [] h Q := by
  have J168_0 : ∀ (n : Nat) (p168_0 : Int) (h168_0 : my_H), my_fr [(63, -1), (64, -1), (65, -1), (66, -1), (67, -1), (68, -1), (69, -1), (70, -1), (71, -1), (72, -1)] h h168_0 → 0 ≤ p168_0 → p168_0 ≤ 4 → h168_0 151 8 = 0 → 5 - p168_0 ≤ (n : Int) → wp l rho d 191 168 [(2, 151), (0, x1), (0, p168_0), (9, 0), (9, 0), (9, 0)] [] h168_0 Q := by
    intro n
    induction n with
    | zero => intro p168_0 h168_0 gh_168_0 q0_168_0 q1_168_0 c151_8_168_0 hm_168_0; exfalso; omega
    | succ n ih_168_0 =>
      intro p168_0 h168_0 gh_168_0 q0_168_0 q1_168_0 c151_8_168_0 hm_168_0
      refine w_iload_n gz_191_168 rfl ?_
      refine w_iconst gz_191_169 (by decide) ?_
      refine w_icge (t := 198) gz_191_170 rfl (fun u1 => ?_) (fun u1 => ?_)
      ·
        have c2 := c151_8_168_0
        exact w_vret gz_191_198 gm_191 (k0 h168_0 (gh_168_0) (by omega))
      ·
        refine w_aload_n gz_191_173 rfl ?_
        refine w_getX (v := 173) gz_191_174 is_151 rd_10 rfl (by decide) rfl ?_
        refine w_iconst gz_191_177 (by decide) ?_
        refine w_iload_n gz_191_178 rfl ?_
        refine w_imul gz_191_179 ⟨by omega, by omega⟩ ?_
        refine w_iload_n gz_191_180 rfl ?_
        refine w_iadd gz_191_181 ⟨by omega, by omega⟩ ?_
        refine w_aload_n gz_191_182 rfl ?_
        refine w_getX (v := 173) gz_191_183 is_151 rd_10 rfl (by decide) rfl ?_
        refine w_bipush gz_191_186 (by decide) ?_
        refine w_iload_n gz_191_188 rfl ?_
        refine w_iadd gz_191_189 ⟨by omega, by omega⟩ ?_
        refine w_iald gz_191_190 is_173 rd_72 (by omega) (by omega) (fun v5 ev5 pv5 qv5 => ?_)
        refine w_iast gz_191_191 is_173 rd_72 (by omega) (by omega) (by omega) (by omega) (fun h6 fh6 => ?_)
        have gh6 : my_fr [(63, -1), (64, -1), (65, -1), (66, -1), (67, -1), (68, -1), (69, -1), (70, -1), (71, -1), (72, -1)] h h6 := my_fr.up gh_168_0 is_173 fh6 rfl
        refine w_iinc (ls' := [(2, 151), (0, x1), (0, (p168_0 + 1)), (9, 0), (9, 0), (9, 0)]) gz_191_192 rfl gm_191 rfl rfl rfl ⟨by omega, by omega⟩ ?_
        refine w_goto (t := 168) gz_191_195 rfl ?_
        exact ih_168_0 ((p168_0 + 1)) h6 (gh6) (by omega) (by omega) (((my_up_role fh6 is_151 is_173 rfl).trans c151_8_168_0).trans (by omega)) (by omega)
  have J48_0 : ∀ (n : Nat) (p48_0 : Int) (h48_0 : my_H), my_fr [(63, -1), (64, -1), (65, -1), (66, -1), (67, -1), (68, -1), (69, -1), (70, -1), (71, -1), (72, -1)] h h48_0 → 0 ≤ p48_0 → p48_0 ≤ 6 → h48_0 151 8 = 0 → 7 - p48_0 ≤ (n : Int) → wp l rho d 191 48 [(2, 151), (0, x1), (0, p48_0), (9, 0), (9, 0), (9, 0)] [] h48_0 Q := by
    intro n
    induction n with
    | zero => intro p48_0 h48_0 gh_48_0 q0_48_0 q1_48_0 c151_8_48_0 hm_48_0; exfalso; omega
    | succ n ih_48_0 =>
      intro p48_0 h48_0 gh_48_0 q0_48_0 q1_48_0 c151_8_48_0 hm_48_0
      have J122_0 : ∀ (n : Nat) (p122_0 p122_1 : Int) (h122_0 : my_H), my_fr [(63, -1), (64, -1), (65, -1), (66, -1), (67, -1), (68, -1), (69, -1), (70, -1), (71, -1), (72, -1)] h h122_0 → p48_0 ≤ 5 → 0 ≤ p122_0 → p122_0 ≤ 35 → 0 ≤ p122_1 → p122_1 ≤ 8 → h122_0 151 8 = 0 → 9 - p122_1 ≤ (n : Int) → wp l rho d 191 122 [(2, 151), (0, x1), (0, p48_0), (0, p122_0), (0, (p48_0 + 36)), (0, p122_1)] [] h122_0 Q := by
        intro n
        induction n with
        | zero => intro p122_0 p122_1 h122_0 gh_122_0 q0_122_0 q1_122_0 q2_122_0 q3_122_0 q4_122_0 c151_8_122_0 hm_122_0; exfalso; omega
        | succ n ih_122_0 =>
          intro p122_0 p122_1 h122_0 gh_122_0 q0_122_0 q1_122_0 q2_122_0 q3_122_0 q4_122_0 c151_8_122_0 hm_122_0
          refine w_iload gz_191_122 rfl ?_
          refine w_bipush gz_191_124 (by decide) ?_
          refine w_icge (t := 160) gz_191_126 rfl (fun u7 => ?_) (fun u7 => ?_)
          ·
            refine w_iinc (ls' := [(2, 151), (0, x1), (0, (p48_0 + 1)), (0, p122_0), (0, (p48_0 + 36)), (0, p122_1)]) gz_191_160 rfl gm_191 rfl rfl rfl ⟨by omega, by omega⟩ ?_
            refine w_goto (t := 48) gz_191_163 rfl ?_
            refine w_weak (ls' := [(2, 151), (0, x1), (0, (p48_0 + 1)), (9, 0), (9, 0), (9, 0)]) (wk_e (wk_e (wk_e (wk_9 (wk_9 (wk_9 wk_n)))))) ?_
            exact ih_48_0 ((p48_0 + 1)) h122_0 (gh_122_0) (by omega) (by omega) (c151_8_122_0.trans (by omega)) (by omega)
          ·
            refine w_aload_n gz_191_129 rfl ?_
            refine w_getX (v := 172) gz_191_130 is_151 rd_10 rfl (by decide) rfl ?_
            refine w_bipush gz_191_133 (by decide) ?_
            refine w_iload_n gz_191_135 rfl ?_
            refine w_imul gz_191_136 ⟨by omega, by omega⟩ ?_
            refine w_iload gz_191_137 rfl ?_
            refine w_iadd gz_191_139 ⟨by omega, by omega⟩ ?_
            refine w_aload_n gz_191_140 rfl ?_
            refine w_getX (v := 172) gz_191_141 is_151 rd_10 rfl (by decide) rfl ?_
            refine w_bipush gz_191_144 (by decide) ?_
            refine w_iload gz_191_146 rfl ?_
            refine w_imul gz_191_148 ⟨by omega, by omega⟩ ?_
            refine w_iload gz_191_149 rfl ?_
            refine w_iadd gz_191_151 ⟨by omega, by omega⟩ ?_
            refine w_iald gz_191_152 is_172 rd_71 (by omega) (by omega) (fun v10 ev10 pv10 qv10 => ?_)
            refine w_iast gz_191_153 is_172 rd_71 (by omega) (by omega) (by omega) (by omega) (fun h11 fh11 => ?_)
            have gh11 : my_fr [(63, -1), (64, -1), (65, -1), (66, -1), (67, -1), (68, -1), (69, -1), (70, -1), (71, -1), (72, -1)] h h11 := my_fr.up gh_122_0 is_172 fh11 rfl
            refine w_iinc (ls' := [(2, 151), (0, x1), (0, p48_0), (0, p122_0), (0, (p48_0 + 36)), (0, (p122_1 + 1))]) gz_191_154 rfl gm_191 rfl rfl rfl ⟨by omega, by omega⟩ ?_
            refine w_goto (t := 122) gz_191_157 rfl ?_
            exact ih_122_0 (p122_0) ((p122_1 + 1)) h11 (gh11) (by omega) (by omega) (by omega) (by omega) (by omega) (((my_up_role fh11 is_151 is_172 rfl).trans c151_8_122_0).trans (by omega)) (by omega)
      refine w_iload_n gz_191_48 rfl ?_
      refine w_bipush gz_191_49 (by decide) ?_
      refine w_icge (t := 166) gz_191_51 rfl (fun u12 => ?_) (fun u12 => ?_)
      ·
        refine w_iconst gz_191_166 (by decide) ?_
        refine w_istore_n (ls' := [(2, 151), (0, x1), (0, 0), (9, 0), (9, 0), (9, 0)]) gz_191_167 gm_191 rfl rfl rfl ?_
        exact J168_0 5 (0) h48_0 (gh_48_0) (by omega) (by omega) (c151_8_48_0.trans (by omega)) (by omega)
      ·
        refine w_bipush gz_191_54 (by decide) ?_
        refine w_iload_n gz_191_56 rfl ?_
        refine w_imul gz_191_57 ⟨by omega, by omega⟩ ?_
        refine w_iload_n gz_191_58 rfl ?_
        refine w_iadd gz_191_59 ⟨by omega, by omega⟩ ?_
        refine w_istore_n (ls' := [(2, 151), (0, x1), (0, p48_0), (0, ((6 * x1) + p48_0)), (9, 0), (9, 0)]) gz_191_60 gm_191 rfl rfl rfl ?_
        refine w_bipush gz_191_61 (by decide) ?_
        refine w_iload_n gz_191_63 rfl ?_
        refine w_iadd gz_191_64 ⟨by omega, by omega⟩ ?_
        refine w_istore (ls' := [(2, 151), (0, x1), (0, p48_0), (0, ((6 * x1) + p48_0)), (0, (36 + p48_0)), (9, 0)]) gz_191_65 gm_191 rfl rfl rfl ?_
        refine w_aload_n gz_191_67 rfl ?_
        refine w_getX (v := 168) gz_191_68 is_151 rd_10 rfl (by decide) rfl ?_
        refine w_iload_n gz_191_71 rfl ?_
        refine w_aload_n gz_191_72 rfl ?_
        refine w_getX (v := 168) gz_191_73 is_151 rd_10 rfl (by decide) rfl ?_
        refine w_iload gz_191_76 rfl ?_
        refine w_iald gz_191_78 is_168 rd_67 (by omega) (by omega) (fun v15 ev15 pv15 qv15 => ?_)
        refine w_iast gz_191_79 is_168 rd_67 (by omega) (by omega) (by omega) (by omega) (fun h16 fh16 => ?_)
        have gh16 : my_fr [(63, -1), (64, -1), (65, -1), (66, -1), (67, -1), (68, -1), (69, -1), (70, -1), (71, -1), (72, -1)] h h16 := my_fr.up gh_48_0 is_168 fh16 rfl
        refine w_aload_n gz_191_80 rfl ?_
        refine w_getX (v := 169) gz_191_81 is_151 rd_10 rfl (by decide) rfl ?_
        refine w_iload_n gz_191_84 rfl ?_
        refine w_aload_n gz_191_85 rfl ?_
        refine w_getX (v := 169) gz_191_86 is_151 rd_10 rfl (by decide) rfl ?_
        refine w_iload gz_191_89 rfl ?_
        refine w_iald gz_191_91 is_169 rd_68 (by omega) (by omega) (fun v19 ev19 pv19 qv19 => ?_)
        refine w_iast gz_191_92 is_169 rd_68 (by omega) (by omega) (by omega) (by omega) (fun h20 fh20 => ?_)
        have gh20 : my_fr [(63, -1), (64, -1), (65, -1), (66, -1), (67, -1), (68, -1), (69, -1), (70, -1), (71, -1), (72, -1)] h h20 := my_fr.up gh16 is_169 fh20 rfl
        refine w_aload_n gz_191_93 rfl ?_
        refine w_getX (v := 170) gz_191_94 is_151 rd_10 rfl (by decide) rfl ?_
        refine w_iload_n gz_191_97 rfl ?_
        refine w_aload_n gz_191_98 rfl ?_
        refine w_getX (v := 170) gz_191_99 is_151 rd_10 rfl (by decide) rfl ?_
        refine w_iload gz_191_102 rfl ?_
        refine w_iald gz_191_104 is_170 rd_69 (by omega) (by omega) (fun v23 ev23 pv23 qv23 => ?_)
        refine w_iast gz_191_105 is_170 rd_69 (by omega) (by omega) (by omega) (by omega) (fun h24 fh24 => ?_)
        have gh24 : my_fr [(63, -1), (64, -1), (65, -1), (66, -1), (67, -1), (68, -1), (69, -1), (70, -1), (71, -1), (72, -1)] h h24 := my_fr.up gh20 is_170 fh24 rfl
        refine w_aload_n gz_191_106 rfl ?_
        refine w_getX (v := 171) gz_191_107 is_151 rd_10 rfl (by decide) rfl ?_
        refine w_iload_n gz_191_110 rfl ?_
        refine w_aload_n gz_191_111 rfl ?_
        refine w_getX (v := 171) gz_191_112 is_151 rd_10 rfl (by decide) rfl ?_
        refine w_iload gz_191_115 rfl ?_
        refine w_iald gz_191_117 is_171 rd_70 (by omega) (by omega) (fun v27 ev27 pv27 qv27 => ?_)
        refine w_iast gz_191_118 is_171 rd_70 (by omega) (by omega) (by omega) (by omega) (fun h28 fh28 => ?_)
        have gh28 : my_fr [(63, -1), (64, -1), (65, -1), (66, -1), (67, -1), (68, -1), (69, -1), (70, -1), (71, -1), (72, -1)] h h28 := my_fr.up gh24 is_171 fh28 rfl
        refine w_iconst gz_191_119 (by decide) ?_
        refine w_istore (ls' := [(2, 151), (0, x1), (0, p48_0), (0, ((6 * x1) + p48_0)), (0, (36 + p48_0)), (0, 0)]) gz_191_120 gm_191 rfl rfl rfl ?_
        rw [show ((36 + p48_0) : Int) = (p48_0 + 36) from by omega]
        exact J122_0 9 (((6 * x1) + p48_0)) (0) h28 (gh28) (by omega) (by omega) (by omega) (by omega) (by omega) (((my_up_role fh28 is_151 is_171 rfl).trans ((my_up_role fh24 is_151 is_170 rfl).trans ((my_up_role fh20 is_151 is_169 rfl).trans ((my_up_role fh16 is_151 is_168 rfl).trans c151_8_48_0)))).trans (by omega)) (by omega)
  refine w_aload_n gz_191_0 rfl ?_
  refine w_getX (v := 164) gz_191_1 is_151 rd_10 rfl (by decide) rfl ?_
  refine w_iload_n gz_191_4 rfl ?_
  refine w_iconst gz_191_5 (by decide) ?_
  refine w_bast gz_191_6 is_164 rd_63 (by omega) (by omega) (by omega) (by omega) (fun h30 fh30 => ?_)
  have gh30 : my_fr [(63, -1), (64, -1), (65, -1), (66, -1), (67, -1), (68, -1), (69, -1), (70, -1), (71, -1), (72, -1)] h h30 := my_fr.up my_fr.rf is_164 fh30 rfl
  refine w_aload_n gz_191_7 rfl ?_
  refine w_getX (v := 165) gz_191_8 is_151 rd_10 rfl (by decide) rfl ?_
  refine w_iload_n gz_191_11 rfl ?_
  refine w_aload_n gz_191_12 rfl ?_
  refine w_getX (v := 165) gz_191_13 is_151 rd_10 rfl (by decide) rfl ?_
  refine w_bipush gz_191_16 (by decide) ?_
  refine w_bald gz_191_18 is_165 rd_64 (by omega) (by omega) (fun v33 ev33 pv33 qv33 => ?_)
  refine w_bast gz_191_19 is_165 rd_64 (by omega) (by omega) (by omega) (by omega) (fun h34 fh34 => ?_)
  have gh34 : my_fr [(63, -1), (64, -1), (65, -1), (66, -1), (67, -1), (68, -1), (69, -1), (70, -1), (71, -1), (72, -1)] h h34 := my_fr.up gh30 is_165 fh34 rfl
  refine w_aload_n gz_191_20 rfl ?_
  refine w_getX (v := 166) gz_191_21 is_151 rd_10 rfl (by decide) rfl ?_
  refine w_iload_n gz_191_24 rfl ?_
  refine w_aload_n gz_191_25 rfl ?_
  refine w_getX (v := 166) gz_191_26 is_151 rd_10 rfl (by decide) rfl ?_
  refine w_bipush gz_191_29 (by decide) ?_
  refine w_iald gz_191_31 is_166 rd_65 (by omega) (by omega) (fun v37 ev37 pv37 qv37 => ?_)
  refine w_iast gz_191_32 is_166 rd_65 (by omega) (by omega) (by omega) (by omega) (fun h38 fh38 => ?_)
  have gh38 : my_fr [(63, -1), (64, -1), (65, -1), (66, -1), (67, -1), (68, -1), (69, -1), (70, -1), (71, -1), (72, -1)] h h38 := my_fr.up gh34 is_166 fh38 rfl
  refine w_aload_n gz_191_33 rfl ?_
  refine w_getX (v := 167) gz_191_34 is_151 rd_10 rfl (by decide) rfl ?_
  refine w_iload_n gz_191_37 rfl ?_
  refine w_aload_n gz_191_38 rfl ?_
  refine w_getX (v := 167) gz_191_39 is_151 rd_10 rfl (by decide) rfl ?_
  refine w_bipush gz_191_42 (by decide) ?_
  refine w_iald gz_191_44 is_167 rd_66 (by omega) (by omega) (fun v41 ev41 pv41 qv41 => ?_)
  refine w_iast gz_191_45 is_167 rd_66 (by omega) (by omega) (by omega) (by omega) (fun h42 fh42 => ?_)
  have gh42 : my_fr [(63, -1), (64, -1), (65, -1), (66, -1), (67, -1), (68, -1), (69, -1), (70, -1), (71, -1), (72, -1)] h h42 := my_fr.up gh38 is_167 fh42 rfl
  refine w_iconst gz_191_46 (by decide) ?_
  refine w_istore_n (ls' := [(2, 151), (0, x1), (0, 0), (9, 0), (9, 0), (9, 0)]) gz_191_47 gm_191 rfl rfl rfl ?_
  exact J48_0 7 (0) h42 (gh42) (by omega) (by omega) (((my_up_role fh42 is_151 is_167 rfl).trans ((my_up_role fh38 is_151 is_166 rfl).trans ((my_up_role fh34 is_151 is_165 rfl).trans ((my_up_role fh30 is_151 is_164 rfl).trans cf)))).trans (by omega)) (by omega)
theorem is_181 : my_is 80 181 := by unfold my_is; decide +kernel
theorem is_182 : my_is 81 182 := by unfold my_is; decide +kernel
theorem is_183 : my_is 82 183 := by unfold my_is; decide +kernel
theorem gz_197_0 : mz_pg 197 0 = some (.aload_n 0, 0, 0, 0) := by decide +kernel
theorem gz_197_1 : mz_pg 197 1 = some (.getfield 134, 10, 38, 1251) := by decide +kernel
theorem gz_197_4 : mz_pg 197 4 = some (.iload_n 2, 0, 0, 0) := by decide +kernel
theorem gz_197_5 : mz_pg 197 5 = some (.aload_n 0, 0, 0, 0) := by decide +kernel
theorem gz_197_6 : mz_pg 197 6 = some (.getfield 134, 10, 38, 1251) := by decide +kernel
theorem gz_197_9 : mz_pg 197 9 = some (.iload_n 1, 0, 0, 0) := by decide +kernel
theorem gz_197_10 : mz_pg 197 10 = some (.iaload, 0, 0, 0) := by decide +kernel
theorem gz_197_11 : mz_pg 197 11 = some (.iastore, 0, 0, 0) := by decide +kernel
theorem gz_197_12 : mz_pg 197 12 = some (.iconst 0, 0, 0, 0) := by decide +kernel
theorem gz_197_13 : mz_pg 197 13 = some (.istore_n 3, 0, 0, 0) := by decide +kernel
theorem gz_197_14 : mz_pg 197 14 = some (.iload_n 3, 0, 0, 0) := by decide +kernel
theorem gz_197_15 : mz_pg 197 15 = some (.bipush 8, 0, 0, 0) := by decide +kernel
theorem gz_197_17 : mz_pg 197 17 = some (.if_icmp .ge 53, 0, 0, 0) := by decide +kernel
theorem gz_197_20 : mz_pg 197 20 = some (.aload_n 0, 0, 0, 0) := by decide +kernel
theorem gz_197_21 : mz_pg 197 21 = some (.getfield 137, 10, 39, 1252) := by decide +kernel
theorem gz_197_24 : mz_pg 197 24 = some (.bipush 8, 0, 0, 0) := by decide +kernel
theorem gz_197_26 : mz_pg 197 26 = some (.iload_n 2, 0, 0, 0) := by decide +kernel
theorem gz_197_27 : mz_pg 197 27 = some (.imul, 0, 0, 0) := by decide +kernel
theorem gz_197_28 : mz_pg 197 28 = some (.iload_n 3, 0, 0, 0) := by decide +kernel
theorem gz_197_29 : mz_pg 197 29 = some (.iadd, 0, 0, 0) := by decide +kernel
theorem gz_197_30 : mz_pg 197 30 = some (.aload_n 0, 0, 0, 0) := by decide +kernel
theorem gz_197_31 : mz_pg 197 31 = some (.getfield 137, 10, 39, 1252) := by decide +kernel
theorem gz_197_34 : mz_pg 197 34 = some (.bipush 8, 0, 0, 0) := by decide +kernel
theorem gz_197_36 : mz_pg 197 36 = some (.iload_n 1, 0, 0, 0) := by decide +kernel
theorem gz_197_37 : mz_pg 197 37 = some (.imul, 0, 0, 0) := by decide +kernel
theorem gz_197_38 : mz_pg 197 38 = some (.iload_n 3, 0, 0, 0) := by decide +kernel
theorem gz_197_39 : mz_pg 197 39 = some (.iadd, 0, 0, 0) := by decide +kernel
theorem gz_197_40 : mz_pg 197 40 = some (.iaload, 0, 0, 0) := by decide +kernel
theorem gz_197_41 : mz_pg 197 41 = some (.iastore, 0, 0, 0) := by decide +kernel
theorem gz_197_42 : mz_pg 197 42 = some (.aload_n 0, 0, 0, 0) := by decide +kernel
theorem gz_197_43 : mz_pg 197 43 = some (.getfield 140, 10, 40, 1253) := by decide +kernel
theorem gz_197_46 : mz_pg 197 46 = some (.bipush 8, 0, 0, 0) := by decide +kernel
theorem gz_197_48 : mz_pg 197 48 = some (.iload_n 2, 0, 0, 0) := by decide +kernel
theorem gz_197_49 : mz_pg 197 49 = some (.imul, 0, 0, 0) := by decide +kernel
theorem gz_197_50 : mz_pg 197 50 = some (.iload_n 3, 0, 0, 0) := by decide +kernel
theorem gz_197_51 : mz_pg 197 51 = some (.iadd, 0, 0, 0) := by decide +kernel
theorem gz_197_52 : mz_pg 197 52 = some (.aload_n 0, 0, 0, 0) := by decide +kernel
theorem gz_197_53 : mz_pg 197 53 = some (.getfield 140, 10, 40, 1253) := by decide +kernel
theorem gz_197_56 : mz_pg 197 56 = some (.bipush 8, 0, 0, 0) := by decide +kernel
theorem gz_197_58 : mz_pg 197 58 = some (.iload_n 1, 0, 0, 0) := by decide +kernel
theorem gz_197_59 : mz_pg 197 59 = some (.imul, 0, 0, 0) := by decide +kernel
theorem gz_197_60 : mz_pg 197 60 = some (.iload_n 3, 0, 0, 0) := by decide +kernel
theorem gz_197_61 : mz_pg 197 61 = some (.iadd, 0, 0, 0) := by decide +kernel
theorem gz_197_62 : mz_pg 197 62 = some (.iaload, 0, 0, 0) := by decide +kernel
theorem gz_197_63 : mz_pg 197 63 = some (.iastore, 0, 0, 0) := by decide +kernel
theorem gz_197_64 : mz_pg 197 64 = some (.iinc 3 1, 0, 0, 0) := by decide +kernel
theorem gz_197_67 : mz_pg 197 67 = some (.goto (-53), 0, 0, 0) := by decide +kernel
theorem gz_197_70 : mz_pg 197 70 = some (.return_, 0, 0, 0) := by decide +kernel
theorem gm_197 : my_mm 197 4 none 2 10 := by unfold my_mm; decide +kernel
theorem rd_80 : my_rd 80 = .inl (0, 10, [(0, 0, 19)]) := rfl
theorem rd_81 : my_rd 81 = .inl (0, 80, [(0, 0, 2147483647)]) := rfl
theorem rd_82 : my_rd 82 = .inl (0, 80, [(0, 0, 19)]) := rfl
theorem c29_Model_shifts {l : Launch} {rho : Nat → Int32} {d : Nat} {h : my_H} {Q : my_H → my_V → Prop} {x1 x2 : Int} (a1 : 0 ≤ x1) (b1 : x1 ≤ 9) (a2 : 0 ≤ x2) (b2 : x2 ≤ 9) (k0 : ∀ (h' : my_H), my_fr [(80, -1), (81, -1), (82, -1)] h h' → Q h' (9, 0)) : wp l rho d 197 0 [(2, 151), (0, x1), (0, x2), (9, 0)] [] h Q := by
  have J14_0 : ∀ (n : Nat) (p14_0 : Int) (h14_0 : my_H), my_fr [(80, -1), (81, -1), (82, -1)] h h14_0 → 0 ≤ p14_0 → p14_0 ≤ 8 → 9 - p14_0 ≤ (n : Int) → wp l rho d 197 14 [(2, 151), (0, x1), (0, x2), (0, p14_0)] [] h14_0 Q := by
    intro n
    induction n with
    | zero => intro p14_0 h14_0 gh_14_0 q0_14_0 q1_14_0 hm_14_0; exfalso; omega
    | succ n ih_14_0 =>
      intro p14_0 h14_0 gh_14_0 q0_14_0 q1_14_0 hm_14_0
      refine w_iload_n gz_197_14 rfl ?_
      refine w_bipush gz_197_15 (by decide) ?_
      refine w_icge (t := 70) gz_197_17 rfl (fun u1 => ?_) (fun u1 => ?_)
      ·
        exact w_vret gz_197_70 gm_197 (k0 h14_0 (gh_14_0))
      ·
        refine w_aload_n gz_197_20 rfl ?_
        refine w_getX (v := 182) gz_197_21 is_151 rd_10 rfl (by decide) rfl ?_
        refine w_bipush gz_197_24 (by decide) ?_
        refine w_iload_n gz_197_26 rfl ?_
        refine w_imul gz_197_27 ⟨by omega, by omega⟩ ?_
        refine w_iload_n gz_197_28 rfl ?_
        refine w_iadd gz_197_29 ⟨by omega, by omega⟩ ?_
        refine w_aload_n gz_197_30 rfl ?_
        refine w_getX (v := 182) gz_197_31 is_151 rd_10 rfl (by decide) rfl ?_
        refine w_bipush gz_197_34 (by decide) ?_
        refine w_iload_n gz_197_36 rfl ?_
        refine w_imul gz_197_37 ⟨by omega, by omega⟩ ?_
        refine w_iload_n gz_197_38 rfl ?_
        refine w_iadd gz_197_39 ⟨by omega, by omega⟩ ?_
        refine w_iald gz_197_40 is_182 rd_81 (by omega) (by omega) (fun v4 ev4 pv4 qv4 => ?_)
        refine w_iast gz_197_41 is_182 rd_81 (by omega) (by omega) (by omega) (by omega) (fun h5 fh5 => ?_)
        have gh5 : my_fr [(80, -1), (81, -1), (82, -1)] h h5 := my_fr.up gh_14_0 is_182 fh5 rfl
        refine w_aload_n gz_197_42 rfl ?_
        refine w_getX (v := 183) gz_197_43 is_151 rd_10 rfl (by decide) rfl ?_
        refine w_bipush gz_197_46 (by decide) ?_
        refine w_iload_n gz_197_48 rfl ?_
        refine w_imul gz_197_49 ⟨by omega, by omega⟩ ?_
        refine w_iload_n gz_197_50 rfl ?_
        refine w_iadd gz_197_51 ⟨by omega, by omega⟩ ?_
        refine w_aload_n gz_197_52 rfl ?_
        refine w_getX (v := 183) gz_197_53 is_151 rd_10 rfl (by decide) rfl ?_
        refine w_bipush gz_197_56 (by decide) ?_
        refine w_iload_n gz_197_58 rfl ?_
        refine w_imul gz_197_59 ⟨by omega, by omega⟩ ?_
        refine w_iload_n gz_197_60 rfl ?_
        refine w_iadd gz_197_61 ⟨by omega, by omega⟩ ?_
        refine w_iald gz_197_62 is_183 rd_82 (by omega) (by omega) (fun v8 ev8 pv8 qv8 => ?_)
        refine w_iast gz_197_63 is_183 rd_82 (by omega) (by omega) (by omega) (by omega) (fun h9 fh9 => ?_)
        have gh9 : my_fr [(80, -1), (81, -1), (82, -1)] h h9 := my_fr.up gh5 is_183 fh9 rfl
        refine w_iinc (ls' := [(2, 151), (0, x1), (0, x2), (0, (p14_0 + 1))]) gz_197_64 rfl gm_197 rfl rfl rfl ⟨by omega, by omega⟩ ?_
        refine w_goto (t := 14) gz_197_67 rfl ?_
        exact ih_14_0 ((p14_0 + 1)) h9 (gh9) (by omega) (by omega) (by omega)
  refine w_aload_n gz_197_0 rfl ?_
  refine w_getX (v := 181) gz_197_1 is_151 rd_10 rfl (by decide) rfl ?_
  refine w_iload_n gz_197_4 rfl ?_
  refine w_aload_n gz_197_5 rfl ?_
  refine w_getX (v := 181) gz_197_6 is_151 rd_10 rfl (by decide) rfl ?_
  refine w_iload_n gz_197_9 rfl ?_
  refine w_iald gz_197_10 is_181 rd_80 (by omega) (by omega) (fun v12 ev12 pv12 qv12 => ?_)
  refine w_iast gz_197_11 is_181 rd_80 (by omega) (by omega) (by omega) (by omega) (fun h13 fh13 => ?_)
  have gh13 : my_fr [(80, -1), (81, -1), (82, -1)] h h13 := my_fr.up my_fr.rf is_181 fh13 rfl
  refine w_iconst gz_197_12 (by decide) ?_
  refine w_istore_n (ls' := [(2, 151), (0, x1), (0, x2), (0, 0)]) gz_197_13 gm_197 rfl rfl rfl ?_
  exact J14_0 9 (0) h13 (gh13) (by omega) (by omega) (by omega)
theorem gz_20_0 : mz_pg 20 0 = some (.iconst 0, 0, 0, 0) := by decide +kernel
theorem gz_20_1 : mz_pg 20 1 = some (.istore 5, 0, 0, 0) := by decide +kernel
theorem gz_20_3 : mz_pg 20 3 = some (.iconst 0, 0, 0, 0) := by decide +kernel
theorem gz_20_4 : mz_pg 20 4 = some (.istore 6, 0, 0, 0) := by decide +kernel
theorem gz_20_6 : mz_pg 20 6 = some (.iload 6, 0, 0, 0) := by decide +kernel
theorem gz_20_8 : mz_pg 20 8 = some (.bipush 20, 0, 0, 0) := by decide +kernel
theorem gz_20_10 : mz_pg 20 10 = some (.if_icmp .ge 58, 0, 0, 0) := by decide +kernel
theorem gz_20_13 : mz_pg 20 13 = some (.iload_n 1, 0, 0, 0) := by decide +kernel
theorem gz_20_14 : mz_pg 20 14 = some (.iload 6, 0, 0, 0) := by decide +kernel
theorem gz_20_16 : mz_pg 20 16 = some (.invokestatic 18, 2, 17, 4) := by decide +kernel
theorem gz_20_19 : mz_pg 20 19 = some (.istore 7, 0, 0, 0) := by decide +kernel
theorem gz_20_21 : mz_pg 20 21 = some (.aload_n 0, 0, 0, 0) := by decide +kernel
theorem gz_20_22 : mz_pg 20 22 = some (.getfield 9, 6, 0, 176) := by decide +kernel
theorem gz_20_25 : mz_pg 20 25 = some (.iload 7, 0, 0, 0) := by decide +kernel
theorem gz_20_27 : mz_pg 20 27 = some (.iaload, 0, 0, 0) := by decide +kernel
theorem gz_20_28 : mz_pg 20 28 = some (.iconst (-1), 0, 0, 0) := by decide +kernel
theorem gz_20_29 : mz_pg 20 29 = some (.if_icmp .eq 33, 0, 0, 0) := by decide +kernel
theorem gz_20_32 : mz_pg 20 32 = some (.aload_n 0, 0, 0, 0) := by decide +kernel
theorem gz_20_33 : mz_pg 20 33 = some (.getfield 9, 6, 0, 176) := by decide +kernel
theorem gz_20_36 : mz_pg 20 36 = some (.iload 7, 0, 0, 0) := by decide +kernel
theorem gz_20_38 : mz_pg 20 38 = some (.iload_n 2, 0, 0, 0) := by decide +kernel
theorem gz_20_39 : mz_pg 20 39 = some (.iadd, 0, 0, 0) := by decide +kernel
theorem gz_20_40 : mz_pg 20 40 = some (.iaload, 0, 0, 0) := by decide +kernel
theorem gz_20_41 : mz_pg 20 41 = some (.iload_n 3, 0, 0, 0) := by decide +kernel
theorem gz_20_42 : mz_pg 20 42 = some (.if_icmp .lt 17, 0, 0, 0) := by decide +kernel
theorem gz_20_45 : mz_pg 20 45 = some (.aload_n 0, 0, 0, 0) := by decide +kernel
theorem gz_20_46 : mz_pg 20 46 = some (.getfield 9, 6, 0, 176) := by decide +kernel
theorem gz_20_49 : mz_pg 20 49 = some (.iload 7, 0, 0, 0) := by decide +kernel
theorem gz_20_51 : mz_pg 20 51 = some (.iload_n 2, 0, 0, 0) := by decide +kernel
theorem gz_20_52 : mz_pg 20 52 = some (.iadd, 0, 0, 0) := by decide +kernel
theorem gz_20_53 : mz_pg 20 53 = some (.iaload, 0, 0, 0) := by decide +kernel
theorem gz_20_54 : mz_pg 20 54 = some (.iload 4, 0, 0, 0) := by decide +kernel
theorem gz_20_56 : mz_pg 20 56 = some (.if_icmp .le 6, 0, 0, 0) := by decide +kernel
theorem gz_20_59 : mz_pg 20 59 = some (.iinc 5 1, 0, 0, 0) := by decide +kernel
theorem gz_20_62 : mz_pg 20 62 = some (.iinc 6 1, 0, 0, 0) := by decide +kernel
theorem gz_20_65 : mz_pg 20 65 = some (.goto (-59), 0, 0, 0) := by decide +kernel
theorem gz_20_68 : mz_pg 20 68 = some (.iload 5, 0, 0, 0) := by decide +kernel
theorem gz_20_70 : mz_pg 20 70 = some (.ireturn, 0, 0, 0) := by decide +kernel
theorem gm_20 : my_mm 20 8 (some .int) 4 6 := by unfold my_mm; decide +kernel
theorem c30_Rows_outside {l : Launch} {rho : Nat → Int32} {d : Nat} {h : my_H} {Q : my_H → my_V → Prop} {x0 x1 x2 x3 x4 : Int} (t0 : my_is 6 x0) (a1 : 0 ≤ x1) (b1 : x1 ≤ 2) (a2 : 0 ≤ x2) (b2 : x2 ≤ 3) (a3 : 0 ≤ x3) (b3 : x3 ≤ 19) (a4 : 0 ≤ x4) (b4 : x4 ≤ 19) (k0 : ∀ (y : Int), 0 ≤ y → y ≤ 20 → Q h (0, y)) : wp l rho (d + 1) 20 0 [(2, x0), (0, x1), (0, x2), (0, x3), (0, x4), (9, 0), (9, 0), (9, 0)] [] h Q := by
  have J6_0 : ∀ (n : Nat) (p6_0 p6_1 : Int), 0 ≤ p6_0 → p6_0 ≤ 20 → 0 ≤ p6_1 → p6_1 ≤ 20 → p6_0 ≤ p6_1 → 21 - p6_1 ≤ (n : Int) → wp l rho (d + 1) 20 6 [(2, x0), (0, x1), (0, x2), (0, x3), (0, x4), (0, p6_0), (0, p6_1), (9, 0)] [] h Q := by
    intro n
    induction n with
    | zero => intro p6_0 p6_1 q0_6_0 q1_6_0 q2_6_0 q3_6_0 q4_6_0 hm_6_0; exfalso; omega
    | succ n ih_6_0 =>
      intro p6_0 p6_1 q0_6_0 q1_6_0 q2_6_0 q3_6_0 q4_6_0 hm_6_0
      have J62_0 : ∀ (p62_0 p62_1 : Int), 0 ≤ p62_0 → p62_0 ≤ 20 → p6_1 ≤ 19 → 0 ≤ p62_1 → p62_1 ≤ 236 → p6_0 ≤ 19 → p62_0 ≤ (p6_1 + 1) → p62_0 ≤ (p6_0 + 1) → p6_0 ≤ p62_0 → p6_0 ≤ p6_1 → wp l rho (d + 1) 20 62 [(2, x0), (0, x1), (0, x2), (0, x3), (0, x4), (0, p62_0), (0, p6_1), (0, p62_1)] [] h Q := by
        intro p62_0 p62_1 q0_62_0 q1_62_0 q2_62_0 q3_62_0 q4_62_0 q5_62_0 q6_62_0 q7_62_0 q8_62_0 q9_62_0
        refine w_iinc (ls' := [(2, x0), (0, x1), (0, x2), (0, x3), (0, x4), (0, p62_0), (0, (p6_1 + 1)), (0, p62_1)]) gz_20_62 rfl gm_20 rfl rfl rfl ⟨by omega, by omega⟩ ?_
        refine w_goto (t := 6) gz_20_65 rfl ?_
        refine w_weak (ls' := [(2, x0), (0, x1), (0, x2), (0, x3), (0, x4), (0, p62_0), (0, (p6_1 + 1)), (9, 0)]) (wk_e (wk_e (wk_e (wk_e (wk_e (wk_e (wk_e (wk_9 wk_n)))))))) ?_
        exact ih_6_0 (p62_0) ((p6_1 + 1)) (by omega) (by omega) (by omega) (by omega) (by omega) (by omega)
      have J59_0 : ∀ (p59_0 : Int), p6_0 ≤ 19 → p6_1 ≤ 19 → 0 ≤ p59_0 → p59_0 ≤ 236 → p6_0 ≤ p6_1 → wp l rho (d + 1) 20 59 [(2, x0), (0, x1), (0, x2), (0, x3), (0, x4), (0, p6_0), (0, p6_1), (0, p59_0)] [] h Q := by
        intro p59_0 q0_59_0 q1_59_0 q2_59_0 q3_59_0 q4_59_0
        refine w_iinc (ls' := [(2, x0), (0, x1), (0, x2), (0, x3), (0, x4), (0, (p6_0 + 1)), (0, p6_1), (0, p59_0)]) gz_20_59 rfl gm_20 rfl rfl rfl ⟨by omega, by omega⟩ ?_
        exact J62_0 ((p6_0 + 1)) (p59_0) (by omega) (by omega) (by omega) (by omega) (by omega) (by omega) (by omega) (by omega) (by omega) (by omega)
      refine w_iload gz_20_6 rfl ?_
      refine w_bipush gz_20_8 (by decide) ?_
      refine w_icge (t := 68) gz_20_10 rfl (fun u1 => ?_) (fun u1 => ?_)
      ·
        refine w_iload gz_20_68 rfl ?_
        exact w_iret gz_20_70 gm_20 (k0 (p6_0) (by omega) (by omega))
      ·
        refine w_iload_n gz_20_13 rfl ?_
        refine w_iload gz_20_14 rfl ?_
        refine w_inS (k := 0) (as := [(0, p6_1), (0, x1)]) (r := []) (ls0 := [(0, x1), (0, p6_1)]) gz_20_16 gm_17 rfl rfl rfl rfl rfl rfl ?_
        refine w_iload_n gz_17_0 rfl ?_
        refine w_bipush gz_17_1 (by decide) ?_
        refine w_imul gz_17_3 ⟨by omega, by omega⟩ ?_
        refine w_iload_n gz_17_4 rfl ?_
        refine w_iadd gz_17_5 ⟨by omega, by omega⟩ ?_
        refine w_iconst gz_17_6 (by decide) ?_
        refine w_imul gz_17_7 ⟨by omega, by omega⟩ ?_
        refine w_iret gz_17_8 gm_17 ?_
        show wp l rho (d + 1) 20 19 [(2, x0), (0, x1), (0, x2), (0, x3), (0, x4), (0, p6_0), (0, p6_1), (9, 0)] [(0, (((x1 * 20) + p6_1) * 4))] h Q
        refine w_istore (ls' := [(2, x0), (0, x1), (0, x2), (0, x3), (0, x4), (0, p6_0), (0, p6_1), (0, (((x1 * 20) + p6_1) * 4))]) gz_20_19 gm_20 rfl rfl rfl ?_
        refine w_aload_n gz_20_21 rfl ?_
        refine w_getX (v := (x0 + 1)) gz_20_22 t0 rd_6 rfl (by decide) rfl ?_
        refine w_iload gz_20_25 rfl ?_
        refine w_iald gz_20_27 (ix_6_1 t0) rd_30 (by omega) (by omega) (fun v3 ev3 pv3 qv3 => ?_)
        refine w_iconst gz_20_28 (by decide) ?_
        refine w_iceq (t := 62) gz_20_29 rfl (fun u4 => ?_) (fun u4 => ?_)
        ·
          exact J62_0 (p6_0) ((((x1 * 20) + p6_1) * 4)) (by omega) (by omega) (by omega) (by omega) (by omega) (by omega) (by omega) (by omega) (by omega) (by omega)
        ·
          refine w_aload_n gz_20_32 rfl ?_
          refine w_getX (v := (x0 + 1)) gz_20_33 t0 rd_6 rfl (by decide) rfl ?_
          refine w_iload gz_20_36 rfl ?_
          refine w_iload_n gz_20_38 rfl ?_
          refine w_iadd gz_20_39 ⟨by omega, by omega⟩ ?_
          refine w_iald gz_20_40 (ix_6_1 t0) rd_30 (by omega) (by omega) (fun v6 ev6 pv6 qv6 => ?_)
          refine w_iload_n gz_20_41 rfl ?_
          refine w_iclt (t := 59) gz_20_42 rfl (fun u7 => ?_) (fun u7 => ?_)
          ·
            exact J59_0 ((((x1 * 20) + p6_1) * 4)) (by omega) (by omega) (by omega) (by omega) (by omega)
          ·
            refine w_aload_n gz_20_45 rfl ?_
            refine w_getX (v := (x0 + 1)) gz_20_46 t0 rd_6 rfl (by decide) rfl ?_
            refine w_iload gz_20_49 rfl ?_
            refine w_iload_n gz_20_51 rfl ?_
            refine w_iadd gz_20_52 ⟨by omega, by omega⟩ ?_
            refine w_iald gz_20_53 (ix_6_1 t0) rd_30 (by omega) (by omega) (fun v9 ev9 pv9 qv9 => ?_)
            refine w_iload gz_20_54 rfl ?_
            refine w_icle (t := 62) gz_20_56 rfl (fun u10 => ?_) (fun u10 => ?_)
            ·
              exact J62_0 (p6_0) ((((x1 * 20) + p6_1) * 4)) (by omega) (by omega) (by omega) (by omega) (by omega) (by omega) (by omega) (by omega) (by omega) (by omega)
            ·
              exact J59_0 ((((x1 * 20) + p6_1) * 4)) (by omega) (by omega) (by omega) (by omega) (by omega)
  refine w_iconst gz_20_0 (by decide) ?_
  refine w_istore (ls' := [(2, x0), (0, x1), (0, x2), (0, x3), (0, x4), (0, 0), (9, 0), (9, 0)]) gz_20_1 gm_20 rfl rfl rfl ?_
  refine w_iconst gz_20_3 (by decide) ?_
  refine w_istore (ls' := [(2, x0), (0, x1), (0, x2), (0, x3), (0, x4), (0, 0), (0, 0), (9, 0)]) gz_20_4 gm_20 rfl rfl rfl ?_
  exact J6_0 21 (0) (0) (by omega) (by omega) (by omega) (by omega) (by omega) (by omega)
theorem gz_200_0 : mz_pg 200 0 = some (.iconst 0, 0, 0, 0) := by decide +kernel
theorem gz_200_1 : mz_pg 200 1 = some (.istore_n 3, 0, 0, 0) := by decide +kernel
theorem gz_200_2 : mz_pg 200 2 = some (.iload_n 3, 0, 0, 0) := by decide +kernel
theorem gz_200_3 : mz_pg 200 3 = some (.aload_n 0, 0, 0, 0) := by decide +kernel
theorem gz_200_4 : mz_pg 200 4 = some (.getfield 299, 10, 27, 1240) := by decide +kernel
theorem gz_200_7 : mz_pg 200 7 = some (.if_icmp .ge 65, 0, 0, 0) := by decide +kernel
theorem gz_200_10 : mz_pg 200 10 = some (.aload_n 0, 0, 0, 0) := by decide +kernel
theorem gz_200_11 : mz_pg 200 11 = some (.getfield 137, 10, 39, 1252) := by decide +kernel
theorem gz_200_14 : mz_pg 200 14 = some (.bipush 8, 0, 0, 0) := by decide +kernel
theorem gz_200_16 : mz_pg 200 16 = some (.iload_n 1, 0, 0, 0) := by decide +kernel
theorem gz_200_17 : mz_pg 200 17 = some (.imul, 0, 0, 0) := by decide +kernel
theorem gz_200_18 : mz_pg 200 18 = some (.iload_n 3, 0, 0, 0) := by decide +kernel
theorem gz_200_19 : mz_pg 200 19 = some (.iadd, 0, 0, 0) := by decide +kernel
theorem gz_200_20 : mz_pg 200 20 = some (.iaload, 0, 0, 0) := by decide +kernel
theorem gz_200_21 : mz_pg 200 21 = some (.aload_n 0, 0, 0, 0) := by decide +kernel
theorem gz_200_22 : mz_pg 200 22 = some (.getfield 137, 10, 39, 1252) := by decide +kernel
theorem gz_200_25 : mz_pg 200 25 = some (.bipush 8, 0, 0, 0) := by decide +kernel
theorem gz_200_27 : mz_pg 200 27 = some (.iload_n 2, 0, 0, 0) := by decide +kernel
theorem gz_200_28 : mz_pg 200 28 = some (.imul, 0, 0, 0) := by decide +kernel
theorem gz_200_29 : mz_pg 200 29 = some (.iload_n 3, 0, 0, 0) := by decide +kernel
theorem gz_200_30 : mz_pg 200 30 = some (.iadd, 0, 0, 0) := by decide +kernel
theorem gz_200_31 : mz_pg 200 31 = some (.iaload, 0, 0, 0) := by decide +kernel
theorem gz_200_32 : mz_pg 200 32 = some (.if_icmp .eq 34, 0, 0, 0) := by decide +kernel
theorem gz_200_35 : mz_pg 200 35 = some (.aload_n 0, 0, 0, 0) := by decide +kernel
theorem gz_200_36 : mz_pg 200 36 = some (.getfield 137, 10, 39, 1252) := by decide +kernel
theorem gz_200_39 : mz_pg 200 39 = some (.bipush 8, 0, 0, 0) := by decide +kernel
theorem gz_200_41 : mz_pg 200 41 = some (.iload_n 1, 0, 0, 0) := by decide +kernel
theorem gz_200_42 : mz_pg 200 42 = some (.imul, 0, 0, 0) := by decide +kernel
theorem gz_200_43 : mz_pg 200 43 = some (.iload_n 3, 0, 0, 0) := by decide +kernel
theorem gz_200_44 : mz_pg 200 44 = some (.iadd, 0, 0, 0) := by decide +kernel
theorem gz_200_45 : mz_pg 200 45 = some (.iaload, 0, 0, 0) := by decide +kernel
theorem gz_200_46 : mz_pg 200 46 = some (.aload_n 0, 0, 0, 0) := by decide +kernel
theorem gz_200_47 : mz_pg 200 47 = some (.getfield 137, 10, 39, 1252) := by decide +kernel
theorem gz_200_50 : mz_pg 200 50 = some (.bipush 8, 0, 0, 0) := by decide +kernel
theorem gz_200_52 : mz_pg 200 52 = some (.iload_n 2, 0, 0, 0) := by decide +kernel
theorem gz_200_53 : mz_pg 200 53 = some (.imul, 0, 0, 0) := by decide +kernel
theorem gz_200_54 : mz_pg 200 54 = some (.iload_n 3, 0, 0, 0) := by decide +kernel
theorem gz_200_55 : mz_pg 200 55 = some (.iadd, 0, 0, 0) := by decide +kernel
theorem gz_200_56 : mz_pg 200 56 = some (.iaload, 0, 0, 0) := by decide +kernel
theorem gz_200_57 : mz_pg 200 57 = some (.if_icmp .ge 7, 0, 0, 0) := by decide +kernel
theorem gz_200_60 : mz_pg 200 60 = some (.iconst 1, 0, 0, 0) := by decide +kernel
theorem gz_200_61 : mz_pg 200 61 = some (.goto 4, 0, 0, 0) := by decide +kernel
theorem gz_200_64 : mz_pg 200 64 = some (.iconst 0, 0, 0, 0) := by decide +kernel
theorem gz_200_65 : mz_pg 200 65 = some (.ireturn, 0, 0, 0) := by decide +kernel
theorem gz_200_66 : mz_pg 200 66 = some (.iinc 3 1, 0, 0, 0) := by decide +kernel
theorem gz_200_69 : mz_pg 200 69 = some (.goto (-67), 0, 0, 0) := by decide +kernel
theorem gz_200_72 : mz_pg 200 72 = some (.aload_n 0, 0, 0, 0) := by decide +kernel
theorem gz_200_73 : mz_pg 200 73 = some (.getfield 134, 10, 38, 1251) := by decide +kernel
theorem gz_200_76 : mz_pg 200 76 = some (.iload_n 1, 0, 0, 0) := by decide +kernel
theorem gz_200_77 : mz_pg 200 77 = some (.iaload, 0, 0, 0) := by decide +kernel
theorem gz_200_78 : mz_pg 200 78 = some (.aload_n 0, 0, 0, 0) := by decide +kernel
theorem gz_200_79 : mz_pg 200 79 = some (.getfield 134, 10, 38, 1251) := by decide +kernel
theorem gz_200_82 : mz_pg 200 82 = some (.iload_n 2, 0, 0, 0) := by decide +kernel
theorem gz_200_83 : mz_pg 200 83 = some (.iaload, 0, 0, 0) := by decide +kernel
theorem gz_200_84 : mz_pg 200 84 = some (.if_icmp .ge 7, 0, 0, 0) := by decide +kernel
theorem gz_200_87 : mz_pg 200 87 = some (.iconst 1, 0, 0, 0) := by decide +kernel
theorem gz_200_88 : mz_pg 200 88 = some (.goto 4, 0, 0, 0) := by decide +kernel
theorem gz_200_91 : mz_pg 200 91 = some (.iconst 0, 0, 0, 0) := by decide +kernel
theorem gz_200_92 : mz_pg 200 92 = some (.ireturn, 0, 0, 0) := by decide +kernel
theorem gm_200 : my_mm 200 4 (some .boolean) 2 10 := by unfold my_mm; decide +kernel
theorem c31_Model_isBefore {l : Launch} {rho : Nat → Int32} {d : Nat} {h : my_H} {Q : my_H → my_V → Prop} {x1 x2 : Int} (a1 : 1 ≤ x1) (b1 : x1 ≤ 9) (a2 : 0 ≤ x2) (b2 : x2 ≤ 8) (k0 : Q h (0, 0)) (k1 : Q h (0, 1)) : wp l rho d 200 0 [(2, 151), (0, x1), (0, x2), (9, 0)] [] h Q := by
  have J2_0 : ∀ (n : Nat) (p2_0 : Int), 0 ≤ p2_0 → p2_0 ≤ 8 → 9 - p2_0 ≤ (n : Int) → wp l rho d 200 2 [(2, 151), (0, x1), (0, x2), (0, p2_0)] [] h Q := by
    intro n
    induction n with
    | zero => intro p2_0 q0_2_0 q1_2_0 hm_2_0; exfalso; omega
    | succ n ih_2_0 =>
      intro p2_0 q0_2_0 q1_2_0 hm_2_0
      refine w_iload_n gz_200_2 rfl ?_
      refine w_aload_n gz_200_3 rfl ?_
      refine v_getI (j := 27) gz_200_4 rfl is_151 rd_10 rfl (fun v1 ev1 pv1 qv1 => ?_)
      refine w_icge (t := 72) gz_200_7 rfl (fun u2 => ?_) (fun u2 => ?_)
      ·
        refine w_aload_n gz_200_72 rfl ?_
        refine w_getX (v := 181) gz_200_73 is_151 rd_10 rfl (by decide) rfl ?_
        refine w_iload_n gz_200_76 rfl ?_
        refine w_iald gz_200_77 is_181 rd_80 (by omega) (by omega) (fun v4 ev4 pv4 qv4 => ?_)
        refine w_aload_n gz_200_78 rfl ?_
        refine w_getX (v := 181) gz_200_79 is_151 rd_10 rfl (by decide) rfl ?_
        refine w_iload_n gz_200_82 rfl ?_
        refine w_iald gz_200_83 is_181 rd_80 (by omega) (by omega) (fun v6 ev6 pv6 qv6 => ?_)
        refine w_icge (t := 91) gz_200_84 rfl (fun u7 => ?_) (fun u7 => ?_)
        ·
          refine w_iconst gz_200_91 (by decide) ?_
          exact w_bret gz_200_92 gm_200 (by omega) (by omega) (k0 )
        ·
          refine w_iconst gz_200_87 (by decide) ?_
          refine w_goto (t := 92) gz_200_88 rfl ?_
          exact w_bret gz_200_92 gm_200 (by omega) (by omega) (k1 )
      ·
        refine w_aload_n gz_200_10 rfl ?_
        refine w_getX (v := 182) gz_200_11 is_151 rd_10 rfl (by decide) rfl ?_
        refine w_bipush gz_200_14 (by decide) ?_
        refine w_iload_n gz_200_16 rfl ?_
        refine w_imul gz_200_17 ⟨by omega, by omega⟩ ?_
        refine w_iload_n gz_200_18 rfl ?_
        refine w_iadd gz_200_19 ⟨by omega, by omega⟩ ?_
        refine w_iald gz_200_20 is_182 rd_81 (by omega) (by omega) (fun v9 ev9 pv9 qv9 => ?_)
        refine w_aload_n gz_200_21 rfl ?_
        refine w_getX (v := 182) gz_200_22 is_151 rd_10 rfl (by decide) rfl ?_
        refine w_bipush gz_200_25 (by decide) ?_
        refine w_iload_n gz_200_27 rfl ?_
        refine w_imul gz_200_28 ⟨by omega, by omega⟩ ?_
        refine w_iload_n gz_200_29 rfl ?_
        refine w_iadd gz_200_30 ⟨by omega, by omega⟩ ?_
        refine w_iald gz_200_31 is_182 rd_81 (by omega) (by omega) (fun v11 ev11 pv11 qv11 => ?_)
        refine w_iceq (t := 66) gz_200_32 rfl (fun u12 => ?_) (fun u12 => ?_)
        ·
          refine w_iinc (ls' := [(2, 151), (0, x1), (0, x2), (0, (p2_0 + 1))]) gz_200_66 rfl gm_200 rfl rfl rfl ⟨by omega, by omega⟩ ?_
          refine w_goto (t := 2) gz_200_69 rfl ?_
          exact ih_2_0 ((p2_0 + 1)) (by omega) (by omega) (by omega)
        ·
          refine w_aload_n gz_200_35 rfl ?_
          refine w_getX (v := 182) gz_200_36 is_151 rd_10 rfl (by decide) rfl ?_
          refine w_bipush gz_200_39 (by decide) ?_
          refine w_iload_n gz_200_41 rfl ?_
          refine w_imul gz_200_42 ⟨by omega, by omega⟩ ?_
          refine w_iload_n gz_200_43 rfl ?_
          refine w_iadd gz_200_44 ⟨by omega, by omega⟩ ?_
          refine w_iald gz_200_45 is_182 rd_81 (by omega) (by omega) (fun v14 ev14 pv14 qv14 => ?_)
          refine w_aload_n gz_200_46 rfl ?_
          refine w_getX (v := 182) gz_200_47 is_151 rd_10 rfl (by decide) rfl ?_
          refine w_bipush gz_200_50 (by decide) ?_
          refine w_iload_n gz_200_52 rfl ?_
          refine w_imul gz_200_53 ⟨by omega, by omega⟩ ?_
          refine w_iload_n gz_200_54 rfl ?_
          refine w_iadd gz_200_55 ⟨by omega, by omega⟩ ?_
          refine w_iald gz_200_56 is_182 rd_81 (by omega) (by omega) (fun v16 ev16 pv16 qv16 => ?_)
          refine w_icge (t := 64) gz_200_57 rfl (fun u17 => ?_) (fun u17 => ?_)
          ·
            refine w_iconst gz_200_64 (by decide) ?_
            exact w_bret gz_200_65 gm_200 (by omega) (by omega) (k0 )
          ·
            refine w_iconst gz_200_60 (by decide) ?_
            refine w_goto (t := 65) gz_200_61 rfl ?_
            exact w_bret gz_200_65 gm_200 (by omega) (by omega) (k1 )
  refine w_iconst gz_200_0 (by decide) ?_
  refine w_istore_n (ls' := [(2, 151), (0, x1), (0, x2), (0, 0)]) gz_200_1 gm_200 rfl rfl rfl ?_
  exact J2_0 9 (0) (by omega) (by omega) (by omega)
theorem gz_201_0 : mz_pg 201 0 = some (.aload_n 0, 0, 0, 0) := by decide +kernel
theorem gz_201_1 : mz_pg 201 1 = some (.getfield 134, 10, 38, 1251) := by decide +kernel
theorem gz_201_4 : mz_pg 201 4 = some (.iload_n 1, 0, 0, 0) := by decide +kernel
theorem gz_201_5 : mz_pg 201 5 = some (.iaload, 0, 0, 0) := by decide +kernel
theorem gz_201_6 : mz_pg 201 6 = some (.istore_n 3, 0, 0, 0) := by decide +kernel
theorem gz_201_7 : mz_pg 201 7 = some (.aload_n 0, 0, 0, 0) := by decide +kernel
theorem gz_201_8 : mz_pg 201 8 = some (.getfield 134, 10, 38, 1251) := by decide +kernel
theorem gz_201_11 : mz_pg 201 11 = some (.iload_n 1, 0, 0, 0) := by decide +kernel
theorem gz_201_12 : mz_pg 201 12 = some (.aload_n 0, 0, 0, 0) := by decide +kernel
theorem gz_201_13 : mz_pg 201 13 = some (.getfield 134, 10, 38, 1251) := by decide +kernel
theorem gz_201_16 : mz_pg 201 16 = some (.iload_n 2, 0, 0, 0) := by decide +kernel
theorem gz_201_17 : mz_pg 201 17 = some (.iaload, 0, 0, 0) := by decide +kernel
theorem gz_201_18 : mz_pg 201 18 = some (.iastore, 0, 0, 0) := by decide +kernel
theorem gz_201_19 : mz_pg 201 19 = some (.aload_n 0, 0, 0, 0) := by decide +kernel
theorem gz_201_20 : mz_pg 201 20 = some (.getfield 134, 10, 38, 1251) := by decide +kernel
theorem gz_201_23 : mz_pg 201 23 = some (.iload_n 2, 0, 0, 0) := by decide +kernel
theorem gz_201_24 : mz_pg 201 24 = some (.iload_n 3, 0, 0, 0) := by decide +kernel
theorem gz_201_25 : mz_pg 201 25 = some (.iastore, 0, 0, 0) := by decide +kernel
theorem gz_201_26 : mz_pg 201 26 = some (.iconst 0, 0, 0, 0) := by decide +kernel
theorem gz_201_27 : mz_pg 201 27 = some (.istore 4, 0, 0, 0) := by decide +kernel
theorem gz_201_29 : mz_pg 201 29 = some (.iload 4, 0, 0, 0) := by decide +kernel
theorem gz_201_31 : mz_pg 201 31 = some (.bipush 8, 0, 0, 0) := by decide +kernel
theorem gz_201_33 : mz_pg 201 33 = some (.if_icmp .ge 113, 0, 0, 0) := by decide +kernel
theorem gz_201_36 : mz_pg 201 36 = some (.aload_n 0, 0, 0, 0) := by decide +kernel
theorem gz_201_37 : mz_pg 201 37 = some (.getfield 137, 10, 39, 1252) := by decide +kernel
theorem gz_201_40 : mz_pg 201 40 = some (.bipush 8, 0, 0, 0) := by decide +kernel
theorem gz_201_42 : mz_pg 201 42 = some (.iload_n 1, 0, 0, 0) := by decide +kernel
theorem gz_201_43 : mz_pg 201 43 = some (.imul, 0, 0, 0) := by decide +kernel
theorem gz_201_44 : mz_pg 201 44 = some (.iload 4, 0, 0, 0) := by decide +kernel
theorem gz_201_46 : mz_pg 201 46 = some (.iadd, 0, 0, 0) := by decide +kernel
theorem gz_201_47 : mz_pg 201 47 = some (.iaload, 0, 0, 0) := by decide +kernel
theorem gz_201_48 : mz_pg 201 48 = some (.istore 5, 0, 0, 0) := by decide +kernel
theorem gz_201_50 : mz_pg 201 50 = some (.aload_n 0, 0, 0, 0) := by decide +kernel
theorem gz_201_51 : mz_pg 201 51 = some (.getfield 140, 10, 40, 1253) := by decide +kernel
theorem gz_201_54 : mz_pg 201 54 = some (.bipush 8, 0, 0, 0) := by decide +kernel
theorem gz_201_56 : mz_pg 201 56 = some (.iload_n 1, 0, 0, 0) := by decide +kernel
theorem gz_201_57 : mz_pg 201 57 = some (.imul, 0, 0, 0) := by decide +kernel
theorem gz_201_58 : mz_pg 201 58 = some (.iload 4, 0, 0, 0) := by decide +kernel
theorem gz_201_60 : mz_pg 201 60 = some (.iadd, 0, 0, 0) := by decide +kernel
theorem gz_201_61 : mz_pg 201 61 = some (.iaload, 0, 0, 0) := by decide +kernel
theorem gz_201_62 : mz_pg 201 62 = some (.istore 6, 0, 0, 0) := by decide +kernel
theorem gz_201_64 : mz_pg 201 64 = some (.aload_n 0, 0, 0, 0) := by decide +kernel
theorem gz_201_65 : mz_pg 201 65 = some (.getfield 137, 10, 39, 1252) := by decide +kernel
theorem gz_201_68 : mz_pg 201 68 = some (.bipush 8, 0, 0, 0) := by decide +kernel
theorem gz_201_70 : mz_pg 201 70 = some (.iload_n 1, 0, 0, 0) := by decide +kernel
theorem gz_201_71 : mz_pg 201 71 = some (.imul, 0, 0, 0) := by decide +kernel
theorem gz_201_72 : mz_pg 201 72 = some (.iload 4, 0, 0, 0) := by decide +kernel
theorem gz_201_74 : mz_pg 201 74 = some (.iadd, 0, 0, 0) := by decide +kernel
theorem gz_201_75 : mz_pg 201 75 = some (.aload_n 0, 0, 0, 0) := by decide +kernel
theorem gz_201_76 : mz_pg 201 76 = some (.getfield 137, 10, 39, 1252) := by decide +kernel
theorem gz_201_79 : mz_pg 201 79 = some (.bipush 8, 0, 0, 0) := by decide +kernel
theorem gz_201_81 : mz_pg 201 81 = some (.iload_n 2, 0, 0, 0) := by decide +kernel
theorem gz_201_82 : mz_pg 201 82 = some (.imul, 0, 0, 0) := by decide +kernel
theorem gz_201_83 : mz_pg 201 83 = some (.iload 4, 0, 0, 0) := by decide +kernel
theorem gz_201_85 : mz_pg 201 85 = some (.iadd, 0, 0, 0) := by decide +kernel
theorem gz_201_86 : mz_pg 201 86 = some (.iaload, 0, 0, 0) := by decide +kernel
theorem gz_201_87 : mz_pg 201 87 = some (.iastore, 0, 0, 0) := by decide +kernel
theorem gz_201_88 : mz_pg 201 88 = some (.aload_n 0, 0, 0, 0) := by decide +kernel
theorem gz_201_89 : mz_pg 201 89 = some (.getfield 140, 10, 40, 1253) := by decide +kernel
theorem gz_201_92 : mz_pg 201 92 = some (.bipush 8, 0, 0, 0) := by decide +kernel
theorem gz_201_94 : mz_pg 201 94 = some (.iload_n 1, 0, 0, 0) := by decide +kernel
theorem gz_201_95 : mz_pg 201 95 = some (.imul, 0, 0, 0) := by decide +kernel
theorem gz_201_96 : mz_pg 201 96 = some (.iload 4, 0, 0, 0) := by decide +kernel
theorem gz_201_98 : mz_pg 201 98 = some (.iadd, 0, 0, 0) := by decide +kernel
theorem gz_201_99 : mz_pg 201 99 = some (.aload_n 0, 0, 0, 0) := by decide +kernel
theorem gz_201_100 : mz_pg 201 100 = some (.getfield 140, 10, 40, 1253) := by decide +kernel
theorem gz_201_103 : mz_pg 201 103 = some (.bipush 8, 0, 0, 0) := by decide +kernel
theorem gz_201_105 : mz_pg 201 105 = some (.iload_n 2, 0, 0, 0) := by decide +kernel
theorem gz_201_106 : mz_pg 201 106 = some (.imul, 0, 0, 0) := by decide +kernel
theorem gz_201_107 : mz_pg 201 107 = some (.iload 4, 0, 0, 0) := by decide +kernel
theorem gz_201_109 : mz_pg 201 109 = some (.iadd, 0, 0, 0) := by decide +kernel
theorem gz_201_110 : mz_pg 201 110 = some (.iaload, 0, 0, 0) := by decide +kernel
theorem gz_201_111 : mz_pg 201 111 = some (.iastore, 0, 0, 0) := by decide +kernel
theorem gz_201_112 : mz_pg 201 112 = some (.aload_n 0, 0, 0, 0) := by decide +kernel
theorem gz_201_113 : mz_pg 201 113 = some (.getfield 137, 10, 39, 1252) := by decide +kernel
theorem gz_201_116 : mz_pg 201 116 = some (.bipush 8, 0, 0, 0) := by decide +kernel
theorem gz_201_118 : mz_pg 201 118 = some (.iload_n 2, 0, 0, 0) := by decide +kernel
theorem gz_201_119 : mz_pg 201 119 = some (.imul, 0, 0, 0) := by decide +kernel
theorem gz_201_120 : mz_pg 201 120 = some (.iload 4, 0, 0, 0) := by decide +kernel
theorem gz_201_122 : mz_pg 201 122 = some (.iadd, 0, 0, 0) := by decide +kernel
theorem gz_201_123 : mz_pg 201 123 = some (.iload 5, 0, 0, 0) := by decide +kernel
theorem gz_201_125 : mz_pg 201 125 = some (.iastore, 0, 0, 0) := by decide +kernel
theorem gz_201_126 : mz_pg 201 126 = some (.aload_n 0, 0, 0, 0) := by decide +kernel
theorem gz_201_127 : mz_pg 201 127 = some (.getfield 140, 10, 40, 1253) := by decide +kernel
theorem gz_201_130 : mz_pg 201 130 = some (.bipush 8, 0, 0, 0) := by decide +kernel
theorem gz_201_132 : mz_pg 201 132 = some (.iload_n 2, 0, 0, 0) := by decide +kernel
theorem gz_201_133 : mz_pg 201 133 = some (.imul, 0, 0, 0) := by decide +kernel
theorem gz_201_134 : mz_pg 201 134 = some (.iload 4, 0, 0, 0) := by decide +kernel
theorem gz_201_136 : mz_pg 201 136 = some (.iadd, 0, 0, 0) := by decide +kernel
theorem gz_201_137 : mz_pg 201 137 = some (.iload 6, 0, 0, 0) := by decide +kernel
theorem gz_201_139 : mz_pg 201 139 = some (.iastore, 0, 0, 0) := by decide +kernel
theorem gz_201_140 : mz_pg 201 140 = some (.iinc 4 1, 0, 0, 0) := by decide +kernel
theorem gz_201_143 : mz_pg 201 143 = some (.goto (-114), 0, 0, 0) := by decide +kernel
theorem gz_201_146 : mz_pg 201 146 = some (.return_, 0, 0, 0) := by decide +kernel
theorem gm_201 : my_mm 201 7 none 2 10 := by unfold my_mm; decide +kernel
theorem c32_Model_swaps {l : Launch} {rho : Nat → Int32} {d : Nat} {h : my_H} {Q : my_H → my_V → Prop} {x1 x2 : Int} (a1 : 0 ≤ x1) (b1 : x1 ≤ 8) (a2 : 1 ≤ x2) (b2 : x2 ≤ 9) (k0 : ∀ (h' : my_H), my_fr [(80, -1), (81, -1), (82, -1)] h h' → Q h' (9, 0)) : wp l rho d 201 0 [(2, 151), (0, x1), (0, x2), (9, 0), (9, 0), (9, 0), (9, 0)] [] h Q := by
  have J29_0 : ∀ (n : Nat) (p29_0 p29_1 : Int) (h29_0 : my_H), my_fr [(80, -1), (81, -1), (82, -1)] h h29_0 → 0 ≤ p29_0 → p29_0 ≤ 19 → 0 ≤ p29_1 → p29_1 ≤ 8 → 9 - p29_1 ≤ (n : Int) → wp l rho d 201 29 [(2, 151), (0, x1), (0, x2), (0, p29_0), (0, p29_1), (9, 0), (9, 0)] [] h29_0 Q := by
    intro n
    induction n with
    | zero => intro p29_0 p29_1 h29_0 gh_29_0 q0_29_0 q1_29_0 q2_29_0 q3_29_0 hm_29_0; exfalso; omega
    | succ n ih_29_0 =>
      intro p29_0 p29_1 h29_0 gh_29_0 q0_29_0 q1_29_0 q2_29_0 q3_29_0 hm_29_0
      refine w_iload gz_201_29 rfl ?_
      refine w_bipush gz_201_31 (by decide) ?_
      refine w_icge (t := 146) gz_201_33 rfl (fun u1 => ?_) (fun u1 => ?_)
      ·
        exact w_vret gz_201_146 gm_201 (k0 h29_0 (gh_29_0))
      ·
        refine w_aload_n gz_201_36 rfl ?_
        refine w_getX (v := 182) gz_201_37 is_151 rd_10 rfl (by decide) rfl ?_
        refine w_bipush gz_201_40 (by decide) ?_
        refine w_iload_n gz_201_42 rfl ?_
        refine w_imul gz_201_43 ⟨by omega, by omega⟩ ?_
        refine w_iload gz_201_44 rfl ?_
        refine w_iadd gz_201_46 ⟨by omega, by omega⟩ ?_
        refine w_iald gz_201_47 is_182 rd_81 (by omega) (by omega) (fun v3 ev3 pv3 qv3 => ?_)
        refine w_istore (ls' := [(2, 151), (0, x1), (0, x2), (0, p29_0), (0, p29_1), (0, v3), (9, 0)]) gz_201_48 gm_201 rfl rfl rfl ?_
        refine w_aload_n gz_201_50 rfl ?_
        refine w_getX (v := 183) gz_201_51 is_151 rd_10 rfl (by decide) rfl ?_
        refine w_bipush gz_201_54 (by decide) ?_
        refine w_iload_n gz_201_56 rfl ?_
        refine w_imul gz_201_57 ⟨by omega, by omega⟩ ?_
        refine w_iload gz_201_58 rfl ?_
        refine w_iadd gz_201_60 ⟨by omega, by omega⟩ ?_
        refine w_iald gz_201_61 is_183 rd_82 (by omega) (by omega) (fun v5 ev5 pv5 qv5 => ?_)
        refine w_istore (ls' := [(2, 151), (0, x1), (0, x2), (0, p29_0), (0, p29_1), (0, v3), (0, v5)]) gz_201_62 gm_201 rfl rfl rfl ?_
        refine w_aload_n gz_201_64 rfl ?_
        refine w_getX (v := 182) gz_201_65 is_151 rd_10 rfl (by decide) rfl ?_
        refine w_bipush gz_201_68 (by decide) ?_
        refine w_iload_n gz_201_70 rfl ?_
        refine w_imul gz_201_71 ⟨by omega, by omega⟩ ?_
        refine w_iload gz_201_72 rfl ?_
        refine w_iadd gz_201_74 ⟨by omega, by omega⟩ ?_
        refine w_aload_n gz_201_75 rfl ?_
        refine w_getX (v := 182) gz_201_76 is_151 rd_10 rfl (by decide) rfl ?_
        refine w_bipush gz_201_79 (by decide) ?_
        refine w_iload_n gz_201_81 rfl ?_
        refine w_imul gz_201_82 ⟨by omega, by omega⟩ ?_
        refine w_iload gz_201_83 rfl ?_
        refine w_iadd gz_201_85 ⟨by omega, by omega⟩ ?_
        refine w_iald gz_201_86 is_182 rd_81 (by omega) (by omega) (fun v8 ev8 pv8 qv8 => ?_)
        refine w_iast gz_201_87 is_182 rd_81 (by omega) (by omega) (by omega) (by omega) (fun h9 fh9 => ?_)
        have gh9 : my_fr [(80, -1), (81, -1), (82, -1)] h h9 := my_fr.up gh_29_0 is_182 fh9 rfl
        refine w_aload_n gz_201_88 rfl ?_
        refine w_getX (v := 183) gz_201_89 is_151 rd_10 rfl (by decide) rfl ?_
        refine w_bipush gz_201_92 (by decide) ?_
        refine w_iload_n gz_201_94 rfl ?_
        refine w_imul gz_201_95 ⟨by omega, by omega⟩ ?_
        refine w_iload gz_201_96 rfl ?_
        refine w_iadd gz_201_98 ⟨by omega, by omega⟩ ?_
        refine w_aload_n gz_201_99 rfl ?_
        refine w_getX (v := 183) gz_201_100 is_151 rd_10 rfl (by decide) rfl ?_
        refine w_bipush gz_201_103 (by decide) ?_
        refine w_iload_n gz_201_105 rfl ?_
        refine w_imul gz_201_106 ⟨by omega, by omega⟩ ?_
        refine w_iload gz_201_107 rfl ?_
        refine w_iadd gz_201_109 ⟨by omega, by omega⟩ ?_
        refine w_iald gz_201_110 is_183 rd_82 (by omega) (by omega) (fun v12 ev12 pv12 qv12 => ?_)
        refine w_iast gz_201_111 is_183 rd_82 (by omega) (by omega) (by omega) (by omega) (fun h13 fh13 => ?_)
        have gh13 : my_fr [(80, -1), (81, -1), (82, -1)] h h13 := my_fr.up gh9 is_183 fh13 rfl
        refine w_aload_n gz_201_112 rfl ?_
        refine w_getX (v := 182) gz_201_113 is_151 rd_10 rfl (by decide) rfl ?_
        refine w_bipush gz_201_116 (by decide) ?_
        refine w_iload_n gz_201_118 rfl ?_
        refine w_imul gz_201_119 ⟨by omega, by omega⟩ ?_
        refine w_iload gz_201_120 rfl ?_
        refine w_iadd gz_201_122 ⟨by omega, by omega⟩ ?_
        refine w_iload gz_201_123 rfl ?_
        refine w_iast gz_201_125 is_182 rd_81 (by omega) (by omega) (by omega) (by omega) (fun h15 fh15 => ?_)
        have gh15 : my_fr [(80, -1), (81, -1), (82, -1)] h h15 := my_fr.up gh13 is_182 fh15 rfl
        refine w_aload_n gz_201_126 rfl ?_
        refine w_getX (v := 183) gz_201_127 is_151 rd_10 rfl (by decide) rfl ?_
        refine w_bipush gz_201_130 (by decide) ?_
        refine w_iload_n gz_201_132 rfl ?_
        refine w_imul gz_201_133 ⟨by omega, by omega⟩ ?_
        refine w_iload gz_201_134 rfl ?_
        refine w_iadd gz_201_136 ⟨by omega, by omega⟩ ?_
        refine w_iload gz_201_137 rfl ?_
        refine w_iast gz_201_139 is_183 rd_82 (by omega) (by omega) (by omega) (by omega) (fun h17 fh17 => ?_)
        have gh17 : my_fr [(80, -1), (81, -1), (82, -1)] h h17 := my_fr.up gh15 is_183 fh17 rfl
        refine w_iinc (ls' := [(2, 151), (0, x1), (0, x2), (0, p29_0), (0, (p29_1 + 1)), (0, v3), (0, v5)]) gz_201_140 rfl gm_201 rfl rfl rfl ⟨by omega, by omega⟩ ?_
        refine w_goto (t := 29) gz_201_143 rfl ?_
        refine w_weak (ls' := [(2, 151), (0, x1), (0, x2), (0, p29_0), (0, (p29_1 + 1)), (9, 0), (9, 0)]) (wk_e (wk_e (wk_e (wk_e (wk_e (wk_9 (wk_9 wk_n))))))) ?_
        exact ih_29_0 (p29_0) ((p29_1 + 1)) h17 (gh17) (by omega) (by omega) (by omega) (by omega) (by omega)
  refine w_aload_n gz_201_0 rfl ?_
  refine w_getX (v := 181) gz_201_1 is_151 rd_10 rfl (by decide) rfl ?_
  refine w_iload_n gz_201_4 rfl ?_
  refine w_iald gz_201_5 is_181 rd_80 (by omega) (by omega) (fun v19 ev19 pv19 qv19 => ?_)
  refine w_istore_n (ls' := [(2, 151), (0, x1), (0, x2), (0, v19), (9, 0), (9, 0), (9, 0)]) gz_201_6 gm_201 rfl rfl rfl ?_
  refine w_aload_n gz_201_7 rfl ?_
  refine w_getX (v := 181) gz_201_8 is_151 rd_10 rfl (by decide) rfl ?_
  refine w_iload_n gz_201_11 rfl ?_
  refine w_aload_n gz_201_12 rfl ?_
  refine w_getX (v := 181) gz_201_13 is_151 rd_10 rfl (by decide) rfl ?_
  refine w_iload_n gz_201_16 rfl ?_
  refine w_iald gz_201_17 is_181 rd_80 (by omega) (by omega) (fun v22 ev22 pv22 qv22 => ?_)
  refine w_iast gz_201_18 is_181 rd_80 (by omega) (by omega) (by omega) (by omega) (fun h23 fh23 => ?_)
  have gh23 : my_fr [(80, -1), (81, -1), (82, -1)] h h23 := my_fr.up my_fr.rf is_181 fh23 rfl
  refine w_aload_n gz_201_19 rfl ?_
  refine w_getX (v := 181) gz_201_20 is_151 rd_10 rfl (by decide) rfl ?_
  refine w_iload_n gz_201_23 rfl ?_
  refine w_iload_n gz_201_24 rfl ?_
  refine w_iast gz_201_25 is_181 rd_80 (by omega) (by omega) (by omega) (by omega) (fun h25 fh25 => ?_)
  have gh25 : my_fr [(80, -1), (81, -1), (82, -1)] h h25 := my_fr.up gh23 is_181 fh25 rfl
  refine w_iconst gz_201_26 (by decide) ?_
  refine w_istore (ls' := [(2, 151), (0, x1), (0, x2), (0, v19), (0, 0), (9, 0), (9, 0)]) gz_201_27 gm_201 rfl rfl rfl ?_
  exact J29_0 9 (v19) (0) h25 (gh25) (by omega) (by omega) (by omega) (by omega) (by omega)
theorem is_188 : my_is 87 188 := by unfold my_is; decide +kernel
theorem gz_206_0 : mz_pg 206 0 = some (.aload_n 0, 0, 0, 0) := by decide +kernel
theorem gz_206_1 : mz_pg 206 1 = some (.iconst 0, 0, 0, 0) := by decide +kernel
theorem gz_206_2 : mz_pg 206 2 = some (.putfield 1, 10, 0, 1213) := by decide +kernel
theorem gz_206_5 : mz_pg 206 5 = some (.iload_n 1, 0, 0, 0) := by decide +kernel
theorem gz_206_6 : mz_pg 206 6 = some (.iconst 0, 0, 0, 0) := by decide +kernel
theorem gz_206_7 : mz_pg 206 7 = some (.bipush 7, 0, 0, 0) := by decide +kernel
theorem gz_206_9 : mz_pg 206 9 = some (.invokestatic 250, 1, 147, 1419) := by decide +kernel
theorem gz_206_12 : mz_pg 206 12 = some (.ifCond .eq 13, 0, 0, 0) := by decide +kernel
theorem gz_206_15 : mz_pg 206 15 = some (.iload_n 2, 0, 0, 0) := by decide +kernel
theorem gz_206_16 : mz_pg 206 16 = some (.iconst 0, 0, 0, 0) := by decide +kernel
theorem gz_206_17 : mz_pg 206 17 = some (.bipush 19, 0, 0, 0) := by decide +kernel
theorem gz_206_19 : mz_pg 206 19 = some (.invokestatic 250, 1, 147, 1419) := by decide +kernel
theorem gz_206_22 : mz_pg 206 22 = some (.ifCond .ne 5, 0, 0, 0) := by decide +kernel
theorem gz_206_25 : mz_pg 206 25 = some (.iconst 0, 0, 0, 0) := by decide +kernel
theorem gz_206_26 : mz_pg 206 26 = some (.ireturn, 0, 0, 0) := by decide +kernel
theorem gz_206_27 : mz_pg 206 27 = some (.aload_n 0, 0, 0, 0) := by decide +kernel
theorem gz_206_28 : mz_pg 206 28 = some (.getfield 155, 10, 45, 1258) := by decide +kernel
theorem gz_206_31 : mz_pg 206 31 = some (.iload_n 1, 0, 0, 0) := by decide +kernel
theorem gz_206_32 : mz_pg 206 32 = some (.iload_n 2, 0, 0, 0) := by decide +kernel
theorem gz_206_33 : mz_pg 206 33 = some (.iastore, 0, 0, 0) := by decide +kernel
theorem gz_206_34 : mz_pg 206 34 = some (.iconst 1, 0, 0, 0) := by decide +kernel
theorem gz_206_35 : mz_pg 206 35 = some (.ireturn, 0, 0, 0) := by decide +kernel
theorem gm_206 : my_mm 206 3 (some .boolean) 2 10 := by unfold my_mm; decide +kernel
theorem rd_87 : my_rd 87 = .inl (0, 8, [(0, 0, 19)]) := rfl
theorem c33_Model_draft {l : Launch} {rho : Nat → Int32} {d : Nat} {h : my_H} {Q : my_H → my_V → Prop} {x1 x2 : Int} (k0 : ∀ (h' : my_H), my_fr [(10, 0), (87, -1)] h h' → h' 151 0 = 0 → Q h' (0, 0)) (k1 : ∀ (h' : my_H), my_fr [(10, 0), (87, -1)] h h' → 0 ≤ x1 → x1 ≤ 7 → 0 ≤ x2 → x2 ≤ 19 → h' 151 0 = 0 → Q h' (0, 1)) : wp l rho (d + 1) 206 0 [(2, 151), (0, x1), (0, x2)] [] h Q := by
  refine w_aload_n gz_206_0 rfl ?_
  refine w_iconst gz_206_1 (by decide) ?_
  refine v_putI (j := 0) gz_206_2 rfl is_151 rd_10 rfl (by omega) (by omega) rfl (fun h1 fh1 => ?_)
  have gh1 : my_fr [(10, 0), (87, -1)] h h1 := my_fr.up my_fr.rf is_151 fh1 rfl
  refine w_iload_n gz_206_5 rfl ?_
  refine w_iconst gz_206_6 (by decide) ?_
  refine w_bipush gz_206_7 (by decide) ?_
  refine w_inS (k := 0) (as := [(0, 7), (0, 0), (0, x1)]) (r := []) (ls0 := [(0, x1), (0, 0), (0, 7)]) gz_206_9 gm_147 rfl rfl rfl rfl rfl rfl ?_
  refine w_iload_n gz_147_0 rfl ?_
  refine w_iload_n gz_147_1 rfl ?_
  refine w_iclt (t := 14) gz_147_2 rfl (fun u2 => ?_) (fun u2 => ?_)
  ·
    refine w_iconst gz_147_14 (by decide) ?_
    refine w_bret gz_147_15 gm_147 (by omega) (by omega) ?_
    show wp l rho (d + 1) 206 12 [(2, 151), (0, x1), (0, x2)] [(0, 0)] h1 Q
    refine w_ifeq (t := 25) gz_206_12 rfl (fun u3 => ?_) (fun u3 => by exfalso; omega)
    refine w_iconst gz_206_25 (by decide) ?_
    have c4 := (my_up_self fh1)
    exact w_bret gz_206_26 gm_206 (by omega) (by omega) (k0 h1 (gh1) (by omega))
  ·
    refine w_iload_n gz_147_5 rfl ?_
    refine w_iload_n gz_147_6 rfl ?_
    refine w_icgt (t := 14) gz_147_7 rfl (fun u5 => ?_) (fun u5 => ?_)
    ·
      refine w_iconst gz_147_14 (by decide) ?_
      refine w_bret gz_147_15 gm_147 (by omega) (by omega) ?_
      show wp l rho (d + 1) 206 12 [(2, 151), (0, x1), (0, x2)] [(0, 0)] h1 Q
      refine w_ifeq (t := 25) gz_206_12 rfl (fun u6 => ?_) (fun u6 => by exfalso; omega)
      refine w_iconst gz_206_25 (by decide) ?_
      have c7 := (my_up_self fh1)
      exact w_bret gz_206_26 gm_206 (by omega) (by omega) (k0 h1 (gh1) (by omega))
    ·
      refine w_iconst gz_147_10 (by decide) ?_
      refine w_goto (t := 15) gz_147_11 rfl ?_
      refine w_bret gz_147_15 gm_147 (by omega) (by omega) ?_
      show wp l rho (d + 1) 206 12 [(2, 151), (0, x1), (0, x2)] [(0, 1)] h1 Q
      refine w_ifeq (t := 25) gz_206_12 rfl (fun u8 => by exfalso; omega) (fun u8 => ?_)
      refine w_iload_n gz_206_15 rfl ?_
      refine w_iconst gz_206_16 (by decide) ?_
      refine w_bipush gz_206_17 (by decide) ?_
      refine w_inS (k := 0) (as := [(0, 19), (0, 0), (0, x2)]) (r := []) (ls0 := [(0, x2), (0, 0), (0, 19)]) gz_206_19 gm_147 rfl rfl rfl rfl rfl rfl ?_
      refine w_iload_n gz_147_0 rfl ?_
      refine w_iload_n gz_147_1 rfl ?_
      refine w_iclt (t := 14) gz_147_2 rfl (fun u9 => ?_) (fun u9 => ?_)
      ·
        refine w_iconst gz_147_14 (by decide) ?_
        refine w_bret gz_147_15 gm_147 (by omega) (by omega) ?_
        show wp l rho (d + 1) 206 22 [(2, 151), (0, x1), (0, x2)] [(0, 0)] h1 Q
        refine w_ifne (t := 27) gz_206_22 rfl (fun u10 => by exfalso; omega) (fun u10 => ?_)
        refine w_iconst gz_206_25 (by decide) ?_
        have c11 := (my_up_self fh1)
        exact w_bret gz_206_26 gm_206 (by omega) (by omega) (k0 h1 (gh1) (by omega))
      ·
        refine w_iload_n gz_147_5 rfl ?_
        refine w_iload_n gz_147_6 rfl ?_
        refine w_icgt (t := 14) gz_147_7 rfl (fun u12 => ?_) (fun u12 => ?_)
        ·
          refine w_iconst gz_147_14 (by decide) ?_
          refine w_bret gz_147_15 gm_147 (by omega) (by omega) ?_
          show wp l rho (d + 1) 206 22 [(2, 151), (0, x1), (0, x2)] [(0, 0)] h1 Q
          refine w_ifne (t := 27) gz_206_22 rfl (fun u13 => by exfalso; omega) (fun u13 => ?_)
          refine w_iconst gz_206_25 (by decide) ?_
          have c14 := (my_up_self fh1)
          exact w_bret gz_206_26 gm_206 (by omega) (by omega) (k0 h1 (gh1) (by omega))
        ·
          refine w_iconst gz_147_10 (by decide) ?_
          refine w_goto (t := 15) gz_147_11 rfl ?_
          refine w_bret gz_147_15 gm_147 (by omega) (by omega) ?_
          show wp l rho (d + 1) 206 22 [(2, 151), (0, x1), (0, x2)] [(0, 1)] h1 Q
          refine w_ifne (t := 27) gz_206_22 rfl (fun u15 => ?_) (fun u15 => by exfalso; omega)
          refine w_aload_n gz_206_27 rfl ?_
          refine w_getX (v := 188) gz_206_28 is_151 rd_10 rfl (by decide) rfl ?_
          refine w_iload_n gz_206_31 rfl ?_
          refine w_iload_n gz_206_32 rfl ?_
          refine w_iast gz_206_33 is_188 rd_87 (by omega) (by omega) (by omega) (by omega) (fun h17 fh17 => ?_)
          have gh17 : my_fr [(10, 0), (87, -1)] h h17 := my_fr.up gh1 is_188 fh17 rfl
          refine w_iconst gz_206_34 (by decide) ?_
          have c18 := ((my_up_role fh17 is_151 is_188 rfl).trans (my_up_self fh1))
          exact w_bret gz_206_35 gm_206 (by omega) (by omega) (k1 h17 (gh17) (by omega) (by omega) (by omega) (by omega) (by omega))
theorem gz_21_0 : mz_pg 21 0 = some (.iconst 0, 0, 0, 0) := by decide +kernel
theorem gz_21_1 : mz_pg 21 1 = some (.istore 4, 0, 0, 0) := by decide +kernel
theorem gz_21_3 : mz_pg 21 3 = some (.iload 4, 0, 0, 0) := by decide +kernel
theorem gz_21_5 : mz_pg 21 5 = some (.bipush 20, 0, 0, 0) := by decide +kernel
theorem gz_21_7 : mz_pg 21 7 = some (.if_icmp .ge 47, 0, 0, 0) := by decide +kernel
theorem gz_21_10 : mz_pg 21 10 = some (.iload_n 1, 0, 0, 0) := by decide +kernel
theorem gz_21_11 : mz_pg 21 11 = some (.iload 4, 0, 0, 0) := by decide +kernel
theorem gz_21_13 : mz_pg 21 13 = some (.invokestatic 62, 2, 17, 5) := by decide +kernel
theorem gz_21_16 : mz_pg 21 16 = some (.istore 5, 0, 0, 0) := by decide +kernel
theorem gz_21_18 : mz_pg 21 18 = some (.aload_n 0, 0, 0, 0) := by decide +kernel
theorem gz_21_19 : mz_pg 21 19 = some (.getfield 65, 6, 0, 179) := by decide +kernel
theorem gz_21_22 : mz_pg 21 22 = some (.iload 5, 0, 0, 0) := by decide +kernel
theorem gz_21_24 : mz_pg 21 24 = some (.iaload, 0, 0, 0) := by decide +kernel
theorem gz_21_25 : mz_pg 21 25 = some (.iconst (-1), 0, 0, 0) := by decide +kernel
theorem gz_21_26 : mz_pg 21 26 = some (.if_icmp .eq 22, 0, 0, 0) := by decide +kernel
theorem gz_21_29 : mz_pg 21 29 = some (.aload_n 0, 0, 0, 0) := by decide +kernel
theorem gz_21_30 : mz_pg 21 30 = some (.iload_n 3, 0, 0, 0) := by decide +kernel
theorem gz_21_31 : mz_pg 21 31 = some (.aload_n 0, 0, 0, 0) := by decide +kernel
theorem gz_21_32 : mz_pg 21 32 = some (.getfield 65, 6, 0, 179) := by decide +kernel
theorem gz_21_35 : mz_pg 21 35 = some (.iload 5, 0, 0, 0) := by decide +kernel
theorem gz_21_37 : mz_pg 21 37 = some (.iload_n 2, 0, 0, 0) := by decide +kernel
theorem gz_21_38 : mz_pg 21 38 = some (.iadd, 0, 0, 0) := by decide +kernel
theorem gz_21_39 : mz_pg 21 39 = some (.iaload, 0, 0, 0) := by decide +kernel
theorem gz_21_40 : mz_pg 21 40 = some (.invokevirtual 54, 1, 15, 614) := by decide +kernel
theorem gz_21_43 : mz_pg 21 43 = some (.ifCond .ne 5, 0, 0, 0) := by decide +kernel
theorem gz_21_46 : mz_pg 21 46 = some (.iconst 0, 0, 0, 0) := by decide +kernel
theorem gz_21_47 : mz_pg 21 47 = some (.ireturn, 0, 0, 0) := by decide +kernel
theorem gz_21_48 : mz_pg 21 48 = some (.iinc 4 1, 0, 0, 0) := by decide +kernel
theorem gz_21_51 : mz_pg 21 51 = some (.goto (-48), 0, 0, 0) := by decide +kernel
theorem gz_21_54 : mz_pg 21 54 = some (.iconst 1, 0, 0, 0) := by decide +kernel
theorem gz_21_55 : mz_pg 21 55 = some (.ireturn, 0, 0, 0) := by decide +kernel
theorem gm_21 : my_mm 21 6 (some .boolean) 4 3 := by unfold my_mm; decide +kernel
theorem c34_Laws_namesKeys {l : Launch} {rho : Nat → Int32} {d : Nat} {h : my_H} {Q : my_H → my_V → Prop} {x0 x1 x2 x3 : Int} (t0 : my_is 6 x0) (a1 : 0 ≤ x1) (b1 : x1 ≤ 2) (a2 : 0 ≤ x2) (b2 : x2 ≤ 3) (a3 : 0 ≤ x3) (b3 : x3 ≤ 2) (k0 : Q h (0, 0)) (k1 : Q h (0, 1)) : wp l rho (d + 1) 21 0 [(2, x0), (0, x1), (0, x2), (0, x3), (9, 0), (9, 0)] [] h Q := by
  have J3_0 : ∀ (n : Nat) (p3_0 : Int), 0 ≤ p3_0 → p3_0 ≤ 20 → 21 - p3_0 ≤ (n : Int) → wp l rho (d + 1) 21 3 [(2, x0), (0, x1), (0, x2), (0, x3), (0, p3_0), (9, 0)] [] h Q := by
    intro n
    induction n with
    | zero => intro p3_0 q0_3_0 q1_3_0 hm_3_0; exfalso; omega
    | succ n ih_3_0 =>
      intro p3_0 q0_3_0 q1_3_0 hm_3_0
      have J48_0 : ∀ (p48_0 : Int), p3_0 ≤ 19 → 0 ≤ p48_0 → p48_0 ≤ 236 → wp l rho (d + 1) 21 48 [(2, x0), (0, x1), (0, x2), (0, x3), (0, p3_0), (0, p48_0)] [] h Q := by
        intro p48_0 q0_48_0 q1_48_0 q2_48_0
        refine w_iinc (ls' := [(2, x0), (0, x1), (0, x2), (0, x3), (0, (p3_0 + 1)), (0, p48_0)]) gz_21_48 rfl gm_21 rfl rfl rfl ⟨by omega, by omega⟩ ?_
        refine w_goto (t := 3) gz_21_51 rfl ?_
        refine w_weak (ls' := [(2, x0), (0, x1), (0, x2), (0, x3), (0, (p3_0 + 1)), (9, 0)]) (wk_e (wk_e (wk_e (wk_e (wk_e (wk_9 wk_n)))))) ?_
        exact ih_3_0 ((p3_0 + 1)) (by omega) (by omega) (by omega)
      refine w_iload gz_21_3 rfl ?_
      refine w_bipush gz_21_5 (by decide) ?_
      refine w_icge (t := 54) gz_21_7 rfl (fun u1 => ?_) (fun u1 => ?_)
      ·
        refine w_iconst gz_21_54 (by decide) ?_
        exact w_bret gz_21_55 gm_21 (by omega) (by omega) (k1 )
      ·
        refine w_iload_n gz_21_10 rfl ?_
        refine w_iload gz_21_11 rfl ?_
        refine w_inS (k := 0) (as := [(0, p3_0), (0, x1)]) (r := []) (ls0 := [(0, x1), (0, p3_0)]) gz_21_13 gm_17 rfl rfl rfl rfl rfl rfl ?_
        refine w_iload_n gz_17_0 rfl ?_
        refine w_bipush gz_17_1 (by decide) ?_
        refine w_imul gz_17_3 ⟨by omega, by omega⟩ ?_
        refine w_iload_n gz_17_4 rfl ?_
        refine w_iadd gz_17_5 ⟨by omega, by omega⟩ ?_
        refine w_iconst gz_17_6 (by decide) ?_
        refine w_imul gz_17_7 ⟨by omega, by omega⟩ ?_
        refine w_iret gz_17_8 gm_17 ?_
        show wp l rho (d + 1) 21 16 [(2, x0), (0, x1), (0, x2), (0, x3), (0, p3_0), (9, 0)] [(0, (((x1 * 20) + p3_0) * 4))] h Q
        refine w_istore (ls' := [(2, x0), (0, x1), (0, x2), (0, x3), (0, p3_0), (0, (((x1 * 20) + p3_0) * 4))]) gz_21_16 gm_21 rfl rfl rfl ?_
        refine w_aload_n gz_21_18 rfl ?_
        refine w_getX (v := (x0 + 1)) gz_21_19 t0 rd_6 rfl (by decide) rfl ?_
        refine w_iload gz_21_22 rfl ?_
        refine w_iald gz_21_24 (ix_6_1 t0) rd_30 (by omega) (by omega) (fun v3 ev3 pv3 qv3 => ?_)
        refine w_iconst gz_21_25 (by decide) ?_
        refine w_iceq (t := 48) gz_21_26 rfl (fun u4 => ?_) (fun u4 => ?_)
        ·
          exact J48_0 ((((x1 * 20) + p3_0) * 4)) (by omega) (by omega) (by omega)
        ·
          refine w_aload_n gz_21_29 rfl ?_
          refine w_iload_n gz_21_30 rfl ?_
          refine w_aload_n gz_21_31 rfl ?_
          refine w_getX (v := (x0 + 1)) gz_21_32 t0 rd_6 rfl (by decide) rfl ?_
          refine w_iload gz_21_35 rfl ?_
          refine w_iload_n gz_21_37 rfl ?_
          refine w_iadd gz_21_38 ⟨by omega, by omega⟩ ?_
          refine w_iald gz_21_39 (ix_6_1 t0) rd_30 (by omega) (by omega) (fun v6 ev6 pv6 qv6 => ?_)
          refine w_inv (k := 0) (as := [(0, v6), (0, x3)]) (r := []) (x := x0) (ls0 := [(2, x0), (0, x3), (0, v6)]) gz_21_40 gm_15 rfl t0 rd_6 rfl rfl rfl rfl rfl ?_
          refine w_iload_n gz_15_0 rfl ?_
          refine w_iflt (t := 31) gz_15_1 rfl (fun u7 => ?_) (fun u7 => ?_)
          ·
            refine w_iconst gz_15_31 (by decide) ?_
            refine w_bret gz_15_32 gm_15 (by omega) (by omega) ?_
            show wp l rho (d + 1) 21 43 [(2, x0), (0, x1), (0, x2), (0, x3), (0, p3_0), (0, (((x1 * 20) + p3_0) * 4))] [(0, 0)] h Q
            refine w_ifne (t := 48) gz_21_43 rfl (fun u8 => by exfalso; omega) (fun u8 => ?_)
            refine w_iconst gz_21_46 (by decide) ?_
            exact w_bret gz_21_47 gm_21 (by omega) (by omega) (k0 )
          ·
            refine w_iload_n gz_15_4 rfl ?_
            refine w_bipush gz_15_5 (by decide) ?_
            refine w_icge (t := 31) gz_15_7 rfl (fun u9 => by exfalso; omega) (fun u9 => ?_)
            refine w_aload_n gz_15_10 rfl ?_
            refine w_getX (v := (x0 + 1)) gz_15_11 t0 rd_6 rfl (by decide) rfl ?_
            refine w_iload_n gz_15_14 rfl ?_
            refine w_bipush gz_15_15 (by decide) ?_
            refine w_imul gz_15_17 ⟨by omega, by omega⟩ ?_
            refine w_iload_n gz_15_18 rfl ?_
            refine w_iadd gz_15_19 ⟨by omega, by omega⟩ ?_
            refine w_iconst gz_15_20 (by decide) ?_
            refine w_imul gz_15_21 ⟨by omega, by omega⟩ ?_
            refine w_iald gz_15_22 (ix_6_1 t0) rd_30 (by omega) (by omega) (fun v11 ev11 pv11 qv11 => ?_)
            refine w_iconst gz_15_23 (by decide) ?_
            refine w_iceq (t := 31) gz_15_24 rfl (fun u12 => ?_) (fun u12 => ?_)
            ·
              refine w_iconst gz_15_31 (by decide) ?_
              refine w_bret gz_15_32 gm_15 (by omega) (by omega) ?_
              show wp l rho (d + 1) 21 43 [(2, x0), (0, x1), (0, x2), (0, x3), (0, p3_0), (0, (((x1 * 20) + p3_0) * 4))] [(0, 0)] h Q
              refine w_ifne (t := 48) gz_21_43 rfl (fun u13 => by exfalso; omega) (fun u13 => ?_)
              refine w_iconst gz_21_46 (by decide) ?_
              exact w_bret gz_21_47 gm_21 (by omega) (by omega) (k0 )
            ·
              refine w_iconst gz_15_27 (by decide) ?_
              refine w_goto (t := 32) gz_15_28 rfl ?_
              refine w_bret gz_15_32 gm_15 (by omega) (by omega) ?_
              show wp l rho (d + 1) 21 43 [(2, x0), (0, x1), (0, x2), (0, x3), (0, p3_0), (0, (((x1 * 20) + p3_0) * 4))] [(0, 1)] h Q
              refine w_ifne (t := 48) gz_21_43 rfl (fun u14 => ?_) (fun u14 => by exfalso; omega)
              exact J48_0 ((((x1 * 20) + p3_0) * 4)) (by omega) (by omega) (by omega)
  refine w_iconst gz_21_0 (by decide) ?_
  refine w_istore (ls' := [(2, x0), (0, x1), (0, x2), (0, x3), (0, 0), (9, 0)]) gz_21_1 gm_21 rfl rfl rfl ?_
  exact J3_0 21 (0) (by omega) (by omega) (by omega)
theorem is_189 : my_is 88 189 := by unfold my_is; decide +kernel
theorem gz_211_0 : mz_pg 211 0 = some (.iconst 0, 0, 0, 0) := by decide +kernel
theorem gz_211_1 : mz_pg 211 1 = some (.istore_n 3, 0, 0, 0) := by decide +kernel
theorem gz_211_2 : mz_pg 211 2 = some (.iload_n 3, 0, 0, 0) := by decide +kernel
theorem gz_211_3 : mz_pg 211 3 = some (.aload_n 0, 0, 0, 0) := by decide +kernel
theorem gz_211_4 : mz_pg 211 4 = some (.getfield 299, 10, 27, 1240) := by decide +kernel
theorem gz_211_7 : mz_pg 211 7 = some (.if_icmp .ge 65, 0, 0, 0) := by decide +kernel
theorem gz_211_10 : mz_pg 211 10 = some (.aload_n 0, 0, 0, 0) := by decide +kernel
theorem gz_211_11 : mz_pg 211 11 = some (.getfield 158, 10, 47, 1260) := by decide +kernel
theorem gz_211_14 : mz_pg 211 14 = some (.bipush 8, 0, 0, 0) := by decide +kernel
theorem gz_211_16 : mz_pg 211 16 = some (.iload_n 1, 0, 0, 0) := by decide +kernel
theorem gz_211_17 : mz_pg 211 17 = some (.imul, 0, 0, 0) := by decide +kernel
theorem gz_211_18 : mz_pg 211 18 = some (.iload_n 3, 0, 0, 0) := by decide +kernel
theorem gz_211_19 : mz_pg 211 19 = some (.iadd, 0, 0, 0) := by decide +kernel
theorem gz_211_20 : mz_pg 211 20 = some (.iaload, 0, 0, 0) := by decide +kernel
theorem gz_211_21 : mz_pg 211 21 = some (.aload_n 0, 0, 0, 0) := by decide +kernel
theorem gz_211_22 : mz_pg 211 22 = some (.getfield 158, 10, 47, 1260) := by decide +kernel
theorem gz_211_25 : mz_pg 211 25 = some (.bipush 8, 0, 0, 0) := by decide +kernel
theorem gz_211_27 : mz_pg 211 27 = some (.iload_n 2, 0, 0, 0) := by decide +kernel
theorem gz_211_28 : mz_pg 211 28 = some (.imul, 0, 0, 0) := by decide +kernel
theorem gz_211_29 : mz_pg 211 29 = some (.iload_n 3, 0, 0, 0) := by decide +kernel
theorem gz_211_30 : mz_pg 211 30 = some (.iadd, 0, 0, 0) := by decide +kernel
theorem gz_211_31 : mz_pg 211 31 = some (.iaload, 0, 0, 0) := by decide +kernel
theorem gz_211_32 : mz_pg 211 32 = some (.if_icmp .eq 34, 0, 0, 0) := by decide +kernel
theorem gz_211_35 : mz_pg 211 35 = some (.aload_n 0, 0, 0, 0) := by decide +kernel
theorem gz_211_36 : mz_pg 211 36 = some (.getfield 158, 10, 47, 1260) := by decide +kernel
theorem gz_211_39 : mz_pg 211 39 = some (.bipush 8, 0, 0, 0) := by decide +kernel
theorem gz_211_41 : mz_pg 211 41 = some (.iload_n 1, 0, 0, 0) := by decide +kernel
theorem gz_211_42 : mz_pg 211 42 = some (.imul, 0, 0, 0) := by decide +kernel
theorem gz_211_43 : mz_pg 211 43 = some (.iload_n 3, 0, 0, 0) := by decide +kernel
theorem gz_211_44 : mz_pg 211 44 = some (.iadd, 0, 0, 0) := by decide +kernel
theorem gz_211_45 : mz_pg 211 45 = some (.iaload, 0, 0, 0) := by decide +kernel
theorem gz_211_46 : mz_pg 211 46 = some (.aload_n 0, 0, 0, 0) := by decide +kernel
theorem gz_211_47 : mz_pg 211 47 = some (.getfield 158, 10, 47, 1260) := by decide +kernel
theorem gz_211_50 : mz_pg 211 50 = some (.bipush 8, 0, 0, 0) := by decide +kernel
theorem gz_211_52 : mz_pg 211 52 = some (.iload_n 2, 0, 0, 0) := by decide +kernel
theorem gz_211_53 : mz_pg 211 53 = some (.imul, 0, 0, 0) := by decide +kernel
theorem gz_211_54 : mz_pg 211 54 = some (.iload_n 3, 0, 0, 0) := by decide +kernel
theorem gz_211_55 : mz_pg 211 55 = some (.iadd, 0, 0, 0) := by decide +kernel
theorem gz_211_56 : mz_pg 211 56 = some (.iaload, 0, 0, 0) := by decide +kernel
theorem gz_211_57 : mz_pg 211 57 = some (.if_icmp .ge 7, 0, 0, 0) := by decide +kernel
theorem gz_211_60 : mz_pg 211 60 = some (.iconst 1, 0, 0, 0) := by decide +kernel
theorem gz_211_61 : mz_pg 211 61 = some (.goto 4, 0, 0, 0) := by decide +kernel
theorem gz_211_64 : mz_pg 211 64 = some (.iconst 0, 0, 0, 0) := by decide +kernel
theorem gz_211_65 : mz_pg 211 65 = some (.ireturn, 0, 0, 0) := by decide +kernel
theorem gz_211_66 : mz_pg 211 66 = some (.iinc 3 1, 0, 0, 0) := by decide +kernel
theorem gz_211_69 : mz_pg 211 69 = some (.goto (-67), 0, 0, 0) := by decide +kernel
theorem gz_211_72 : mz_pg 211 72 = some (.iconst 0, 0, 0, 0) := by decide +kernel
theorem gz_211_73 : mz_pg 211 73 = some (.ireturn, 0, 0, 0) := by decide +kernel
theorem gm_211 : my_mm 211 4 (some .boolean) 2 10 := by unfold my_mm; decide +kernel
theorem rd_88 : my_rd 88 = .inl (0, 88, [(0, 0, 2147483647)]) := rfl
theorem c35_Model_isLess {l : Launch} {rho : Nat → Int32} {d : Nat} {h : my_H} {Q : my_H → my_V → Prop} {x1 x2 : Int} (a1 : 1 ≤ x1) (b1 : x1 ≤ 10) (a2 : 0 ≤ x2) (b2 : x2 ≤ 9) (k0 : Q h (0, 0)) (k1 : 1 ≤ h 151 27 → h 151 27 ≤ 8 → Q h (0, 1)) : wp l rho d 211 0 [(2, 151), (0, x1), (0, x2), (9, 0)] [] h Q := by
  have J2_0 : ∀ (n : Nat) (p2_0 : Int), 0 ≤ p2_0 → p2_0 ≤ 8 → 9 - p2_0 ≤ (n : Int) → wp l rho d 211 2 [(2, 151), (0, x1), (0, x2), (0, p2_0)] [] h Q := by
    intro n
    induction n with
    | zero => intro p2_0 q0_2_0 q1_2_0 hm_2_0; exfalso; omega
    | succ n ih_2_0 =>
      intro p2_0 q0_2_0 q1_2_0 hm_2_0
      refine w_iload_n gz_211_2 rfl ?_
      refine w_aload_n gz_211_3 rfl ?_
      refine v_getI (j := 27) gz_211_4 rfl is_151 rd_10 rfl (fun v1 ev1 pv1 qv1 => ?_)
      refine w_icge (t := 72) gz_211_7 rfl (fun u2 => ?_) (fun u2 => ?_)
      ·
        refine w_iconst gz_211_72 (by decide) ?_
        exact w_bret gz_211_73 gm_211 (by omega) (by omega) (k0 )
      ·
        refine w_aload_n gz_211_10 rfl ?_
        refine w_getX (v := 189) gz_211_11 is_151 rd_10 rfl (by decide) rfl ?_
        refine w_bipush gz_211_14 (by decide) ?_
        refine w_iload_n gz_211_16 rfl ?_
        refine w_imul gz_211_17 ⟨by omega, by omega⟩ ?_
        refine w_iload_n gz_211_18 rfl ?_
        refine w_iadd gz_211_19 ⟨by omega, by omega⟩ ?_
        refine w_iald gz_211_20 is_189 rd_88 (by omega) (by omega) (fun v4 ev4 pv4 qv4 => ?_)
        refine w_aload_n gz_211_21 rfl ?_
        refine w_getX (v := 189) gz_211_22 is_151 rd_10 rfl (by decide) rfl ?_
        refine w_bipush gz_211_25 (by decide) ?_
        refine w_iload_n gz_211_27 rfl ?_
        refine w_imul gz_211_28 ⟨by omega, by omega⟩ ?_
        refine w_iload_n gz_211_29 rfl ?_
        refine w_iadd gz_211_30 ⟨by omega, by omega⟩ ?_
        refine w_iald gz_211_31 is_189 rd_88 (by omega) (by omega) (fun v6 ev6 pv6 qv6 => ?_)
        refine w_iceq (t := 66) gz_211_32 rfl (fun u7 => ?_) (fun u7 => ?_)
        ·
          refine w_iinc (ls' := [(2, 151), (0, x1), (0, x2), (0, (p2_0 + 1))]) gz_211_66 rfl gm_211 rfl rfl rfl ⟨by omega, by omega⟩ ?_
          refine w_goto (t := 2) gz_211_69 rfl ?_
          exact ih_2_0 ((p2_0 + 1)) (by omega) (by omega) (by omega)
        ·
          refine w_aload_n gz_211_35 rfl ?_
          refine w_getX (v := 189) gz_211_36 is_151 rd_10 rfl (by decide) rfl ?_
          refine w_bipush gz_211_39 (by decide) ?_
          refine w_iload_n gz_211_41 rfl ?_
          refine w_imul gz_211_42 ⟨by omega, by omega⟩ ?_
          refine w_iload_n gz_211_43 rfl ?_
          refine w_iadd gz_211_44 ⟨by omega, by omega⟩ ?_
          refine w_iald gz_211_45 is_189 rd_88 (by omega) (by omega) (fun v9 ev9 pv9 qv9 => ?_)
          refine w_aload_n gz_211_46 rfl ?_
          refine w_getX (v := 189) gz_211_47 is_151 rd_10 rfl (by decide) rfl ?_
          refine w_bipush gz_211_50 (by decide) ?_
          refine w_iload_n gz_211_52 rfl ?_
          refine w_imul gz_211_53 ⟨by omega, by omega⟩ ?_
          refine w_iload_n gz_211_54 rfl ?_
          refine w_iadd gz_211_55 ⟨by omega, by omega⟩ ?_
          refine w_iald gz_211_56 is_189 rd_88 (by omega) (by omega) (fun v11 ev11 pv11 qv11 => ?_)
          refine w_icge (t := 64) gz_211_57 rfl (fun u12 => ?_) (fun u12 => ?_)
          ·
            refine w_iconst gz_211_64 (by decide) ?_
            exact w_bret gz_211_65 gm_211 (by omega) (by omega) (k0 )
          ·
            refine w_iconst gz_211_60 (by decide) ?_
            refine w_goto (t := 65) gz_211_61 rfl ?_
            have c13 := ev1.symm
            exact w_bret gz_211_65 gm_211 (by omega) (by omega) (k1 (by omega) (by omega))
  refine w_iconst gz_211_0 (by decide) ?_
  refine w_istore_n (ls' := [(2, 151), (0, x1), (0, x2), (0, 0)]) gz_211_1 gm_211 rfl rfl rfl ?_
  exact J2_0 9 (0) (by omega) (by omega) (by omega)
theorem gz_212_0 : mz_pg 212 0 = some (.iconst 0, 0, 0, 0) := by decide +kernel
theorem gz_212_1 : mz_pg 212 1 = some (.istore_n 3, 0, 0, 0) := by decide +kernel
theorem gz_212_2 : mz_pg 212 2 = some (.iload_n 3, 0, 0, 0) := by decide +kernel
theorem gz_212_3 : mz_pg 212 3 = some (.aload_n 0, 0, 0, 0) := by decide +kernel
theorem gz_212_4 : mz_pg 212 4 = some (.getfield 299, 10, 27, 1240) := by decide +kernel
theorem gz_212_7 : mz_pg 212 7 = some (.if_icmp .ge 57, 0, 0, 0) := by decide +kernel
theorem gz_212_10 : mz_pg 212 10 = some (.aload_n 0, 0, 0, 0) := by decide +kernel
theorem gz_212_11 : mz_pg 212 11 = some (.getfield 158, 10, 47, 1260) := by decide +kernel
theorem gz_212_14 : mz_pg 212 14 = some (.bipush 8, 0, 0, 0) := by decide +kernel
theorem gz_212_16 : mz_pg 212 16 = some (.iload_n 1, 0, 0, 0) := by decide +kernel
theorem gz_212_17 : mz_pg 212 17 = some (.imul, 0, 0, 0) := by decide +kernel
theorem gz_212_18 : mz_pg 212 18 = some (.iload_n 3, 0, 0, 0) := by decide +kernel
theorem gz_212_19 : mz_pg 212 19 = some (.iadd, 0, 0, 0) := by decide +kernel
theorem gz_212_20 : mz_pg 212 20 = some (.iaload, 0, 0, 0) := by decide +kernel
theorem gz_212_21 : mz_pg 212 21 = some (.istore 4, 0, 0, 0) := by decide +kernel
theorem gz_212_23 : mz_pg 212 23 = some (.aload_n 0, 0, 0, 0) := by decide +kernel
theorem gz_212_24 : mz_pg 212 24 = some (.getfield 158, 10, 47, 1260) := by decide +kernel
theorem gz_212_27 : mz_pg 212 27 = some (.bipush 8, 0, 0, 0) := by decide +kernel
theorem gz_212_29 : mz_pg 212 29 = some (.iload_n 1, 0, 0, 0) := by decide +kernel
theorem gz_212_30 : mz_pg 212 30 = some (.imul, 0, 0, 0) := by decide +kernel
theorem gz_212_31 : mz_pg 212 31 = some (.iload_n 3, 0, 0, 0) := by decide +kernel
theorem gz_212_32 : mz_pg 212 32 = some (.iadd, 0, 0, 0) := by decide +kernel
theorem gz_212_33 : mz_pg 212 33 = some (.aload_n 0, 0, 0, 0) := by decide +kernel
theorem gz_212_34 : mz_pg 212 34 = some (.getfield 158, 10, 47, 1260) := by decide +kernel
theorem gz_212_37 : mz_pg 212 37 = some (.bipush 8, 0, 0, 0) := by decide +kernel
theorem gz_212_39 : mz_pg 212 39 = some (.iload_n 2, 0, 0, 0) := by decide +kernel
theorem gz_212_40 : mz_pg 212 40 = some (.imul, 0, 0, 0) := by decide +kernel
theorem gz_212_41 : mz_pg 212 41 = some (.iload_n 3, 0, 0, 0) := by decide +kernel
theorem gz_212_42 : mz_pg 212 42 = some (.iadd, 0, 0, 0) := by decide +kernel
theorem gz_212_43 : mz_pg 212 43 = some (.iaload, 0, 0, 0) := by decide +kernel
theorem gz_212_44 : mz_pg 212 44 = some (.iastore, 0, 0, 0) := by decide +kernel
theorem gz_212_45 : mz_pg 212 45 = some (.aload_n 0, 0, 0, 0) := by decide +kernel
theorem gz_212_46 : mz_pg 212 46 = some (.getfield 158, 10, 47, 1260) := by decide +kernel
theorem gz_212_49 : mz_pg 212 49 = some (.bipush 8, 0, 0, 0) := by decide +kernel
theorem gz_212_51 : mz_pg 212 51 = some (.iload_n 2, 0, 0, 0) := by decide +kernel
theorem gz_212_52 : mz_pg 212 52 = some (.imul, 0, 0, 0) := by decide +kernel
theorem gz_212_53 : mz_pg 212 53 = some (.iload_n 3, 0, 0, 0) := by decide +kernel
theorem gz_212_54 : mz_pg 212 54 = some (.iadd, 0, 0, 0) := by decide +kernel
theorem gz_212_55 : mz_pg 212 55 = some (.iload 4, 0, 0, 0) := by decide +kernel
theorem gz_212_57 : mz_pg 212 57 = some (.iastore, 0, 0, 0) := by decide +kernel
theorem gz_212_58 : mz_pg 212 58 = some (.iinc 3 1, 0, 0, 0) := by decide +kernel
theorem gz_212_61 : mz_pg 212 61 = some (.goto (-59), 0, 0, 0) := by decide +kernel
theorem gz_212_64 : mz_pg 212 64 = some (.return_, 0, 0, 0) := by decide +kernel
theorem gm_212 : my_mm 212 5 none 2 10 := by unfold my_mm; decide +kernel
theorem c36_Model_exchanges {l : Launch} {rho : Nat → Int32} {d : Nat} {h : my_H} {Q : my_H → my_V → Prop} {x1 x2 : Int} (a1 : 0 ≤ x1) (b1 : x1 ≤ 9) (a2 : 1 ≤ x2) (b2 : x2 ≤ 10) (k0 : ∀ (h' : my_H), my_fr [(88, -1)] h h' → Q h' (9, 0)) : wp l rho d 212 0 [(2, 151), (0, x1), (0, x2), (9, 0), (9, 0)] [] h Q := by
  have J2_0 : ∀ (n : Nat) (p2_0 : Int) (h2_0 : my_H), my_fr [(88, -1)] h h2_0 → 0 ≤ p2_0 → p2_0 ≤ 8 → 9 - p2_0 ≤ (n : Int) → wp l rho d 212 2 [(2, 151), (0, x1), (0, x2), (0, p2_0), (9, 0)] [] h2_0 Q := by
    intro n
    induction n with
    | zero => intro p2_0 h2_0 gh_2_0 q0_2_0 q1_2_0 hm_2_0; exfalso; omega
    | succ n ih_2_0 =>
      intro p2_0 h2_0 gh_2_0 q0_2_0 q1_2_0 hm_2_0
      refine w_iload_n gz_212_2 rfl ?_
      refine w_aload_n gz_212_3 rfl ?_
      refine v_getI (j := 27) gz_212_4 rfl is_151 rd_10 rfl (fun v1 ev1 pv1 qv1 => ?_)
      refine w_icge (t := 64) gz_212_7 rfl (fun u2 => ?_) (fun u2 => ?_)
      ·
        exact w_vret gz_212_64 gm_212 (k0 h2_0 (gh_2_0))
      ·
        refine w_aload_n gz_212_10 rfl ?_
        refine w_getX (v := 189) gz_212_11 is_151 rd_10 rfl (by decide) rfl ?_
        refine w_bipush gz_212_14 (by decide) ?_
        refine w_iload_n gz_212_16 rfl ?_
        refine w_imul gz_212_17 ⟨by omega, by omega⟩ ?_
        refine w_iload_n gz_212_18 rfl ?_
        refine w_iadd gz_212_19 ⟨by omega, by omega⟩ ?_
        refine w_iald gz_212_20 is_189 rd_88 (by omega) (by omega) (fun v4 ev4 pv4 qv4 => ?_)
        refine w_istore (ls' := [(2, 151), (0, x1), (0, x2), (0, p2_0), (0, v4)]) gz_212_21 gm_212 rfl rfl rfl ?_
        refine w_aload_n gz_212_23 rfl ?_
        refine w_getX (v := 189) gz_212_24 is_151 rd_10 rfl (by decide) rfl ?_
        refine w_bipush gz_212_27 (by decide) ?_
        refine w_iload_n gz_212_29 rfl ?_
        refine w_imul gz_212_30 ⟨by omega, by omega⟩ ?_
        refine w_iload_n gz_212_31 rfl ?_
        refine w_iadd gz_212_32 ⟨by omega, by omega⟩ ?_
        refine w_aload_n gz_212_33 rfl ?_
        refine w_getX (v := 189) gz_212_34 is_151 rd_10 rfl (by decide) rfl ?_
        refine w_bipush gz_212_37 (by decide) ?_
        refine w_iload_n gz_212_39 rfl ?_
        refine w_imul gz_212_40 ⟨by omega, by omega⟩ ?_
        refine w_iload_n gz_212_41 rfl ?_
        refine w_iadd gz_212_42 ⟨by omega, by omega⟩ ?_
        refine w_iald gz_212_43 is_189 rd_88 (by omega) (by omega) (fun v7 ev7 pv7 qv7 => ?_)
        refine w_iast gz_212_44 is_189 rd_88 (by omega) (by omega) (by omega) (by omega) (fun h8 fh8 => ?_)
        have gh8 : my_fr [(88, -1)] h h8 := my_fr.up gh_2_0 is_189 fh8 rfl
        refine w_aload_n gz_212_45 rfl ?_
        refine w_getX (v := 189) gz_212_46 is_151 rd_10 rfl (by decide) rfl ?_
        refine w_bipush gz_212_49 (by decide) ?_
        refine w_iload_n gz_212_51 rfl ?_
        refine w_imul gz_212_52 ⟨by omega, by omega⟩ ?_
        refine w_iload_n gz_212_53 rfl ?_
        refine w_iadd gz_212_54 ⟨by omega, by omega⟩ ?_
        refine w_iload gz_212_55 rfl ?_
        refine w_iast gz_212_57 is_189 rd_88 (by omega) (by omega) (by omega) (by omega) (fun h10 fh10 => ?_)
        have gh10 : my_fr [(88, -1)] h h10 := my_fr.up gh8 is_189 fh10 rfl
        refine w_iinc (ls' := [(2, 151), (0, x1), (0, x2), (0, (p2_0 + 1)), (0, v4)]) gz_212_58 rfl gm_212 rfl rfl rfl ⟨by omega, by omega⟩ ?_
        refine w_goto (t := 2) gz_212_61 rfl ?_
        refine w_weak (ls' := [(2, 151), (0, x1), (0, x2), (0, (p2_0 + 1)), (9, 0)]) (wk_e (wk_e (wk_e (wk_e (wk_9 wk_n))))) ?_
        exact ih_2_0 ((p2_0 + 1)) h10 (gh10) (by omega) (by omega) (by omega)
  refine w_iconst gz_212_0 (by decide) ?_
  refine w_istore_n (ls' := [(2, 151), (0, x1), (0, x2), (0, 0), (9, 0)]) gz_212_1 gm_212 rfl rfl rfl ?_
  exact J2_0 9 (0) h (my_fr.rf) (by omega) (by omega) (by omega)
theorem is_177 : my_is 76 177 := by unfold my_is; decide +kernel
theorem gz_218_0 : mz_pg 218 0 = some (.aload_n 0, 0, 0, 0) := by decide +kernel
theorem gz_218_1 : mz_pg 218 1 = some (.getfield 293, 10, 32, 1245) := by decide +kernel
theorem gz_218_4 : mz_pg 218 4 = some (.iconst 1, 0, 0, 0) := by decide +kernel
theorem gz_218_5 : mz_pg 218 5 = some (.isub, 0, 0, 0) := by decide +kernel
theorem gz_218_6 : mz_pg 218 6 = some (.istore_n 2, 0, 0, 0) := by decide +kernel
theorem gz_218_7 : mz_pg 218 7 = some (.iload_n 2, 0, 0, 0) := by decide +kernel
theorem gz_218_8 : mz_pg 218 8 = some (.ifCond .lt 43, 0, 0, 0) := by decide +kernel
theorem gz_218_11 : mz_pg 218 11 = some (.aload_n 0, 0, 0, 0) := by decide +kernel
theorem gz_218_12 : mz_pg 218 12 = some (.getfield 110, 10, 26, 1239) := by decide +kernel
theorem gz_218_15 : mz_pg 218 15 = some (.iconst 4, 0, 0, 0) := by decide +kernel
theorem gz_218_16 : mz_pg 218 16 = some (.aload_n 0, 0, 0, 0) := by decide +kernel
theorem gz_218_17 : mz_pg 218 17 = some (.getfield 122, 10, 31, 1244) := by decide +kernel
theorem gz_218_20 : mz_pg 218 20 = some (.iload_n 2, 0, 0, 0) := by decide +kernel
theorem gz_218_21 : mz_pg 218 21 = some (.iaload, 0, 0, 0) := by decide +kernel
theorem gz_218_22 : mz_pg 218 22 = some (.imul, 0, 0, 0) := by decide +kernel
theorem gz_218_23 : mz_pg 218 23 = some (.iload_n 1, 0, 0, 0) := by decide +kernel
theorem gz_218_24 : mz_pg 218 24 = some (.iadd, 0, 0, 0) := by decide +kernel
theorem gz_218_25 : mz_pg 218 25 = some (.iaload, 0, 0, 0) := by decide +kernel
theorem gz_218_26 : mz_pg 218 26 = some (.ifCond .lt 19, 0, 0, 0) := by decide +kernel
theorem gz_218_29 : mz_pg 218 29 = some (.aload_n 0, 0, 0, 0) := by decide +kernel
theorem gz_218_30 : mz_pg 218 30 = some (.getfield 110, 10, 26, 1239) := by decide +kernel
theorem gz_218_33 : mz_pg 218 33 = some (.iconst 4, 0, 0, 0) := by decide +kernel
theorem gz_218_34 : mz_pg 218 34 = some (.aload_n 0, 0, 0, 0) := by decide +kernel
theorem gz_218_35 : mz_pg 218 35 = some (.getfield 122, 10, 31, 1244) := by decide +kernel
theorem gz_218_38 : mz_pg 218 38 = some (.iload_n 2, 0, 0, 0) := by decide +kernel
theorem gz_218_39 : mz_pg 218 39 = some (.iaload, 0, 0, 0) := by decide +kernel
theorem gz_218_40 : mz_pg 218 40 = some (.imul, 0, 0, 0) := by decide +kernel
theorem gz_218_41 : mz_pg 218 41 = some (.iload_n 1, 0, 0, 0) := by decide +kernel
theorem gz_218_42 : mz_pg 218 42 = some (.iadd, 0, 0, 0) := by decide +kernel
theorem gz_218_43 : mz_pg 218 43 = some (.iaload, 0, 0, 0) := by decide +kernel
theorem gz_218_44 : mz_pg 218 44 = some (.ireturn, 0, 0, 0) := by decide +kernel
theorem gz_218_45 : mz_pg 218 45 = some (.iinc 2 (-1), 0, 0, 0) := by decide +kernel
theorem gz_218_48 : mz_pg 218 48 = some (.goto (-41), 0, 0, 0) := by decide +kernel
theorem gz_218_51 : mz_pg 218 51 = some (.iconst 0, 0, 0, 0) := by decide +kernel
theorem gz_218_52 : mz_pg 218 52 = some (.ireturn, 0, 0, 0) := by decide +kernel
theorem gm_218 : my_mm 218 3 (some .int) 1 10 := by unfold my_mm; decide +kernel
theorem rd_76 : my_rd 76 = .inl (0, 6, [(0, 0, 6)]) := rfl
theorem c37_Model_fillOf {l : Launch} {rho : Nat → Int32} {d : Nat} {h : my_H} {Q : my_H → my_V → Prop} {x1 : Int} (a1 : 0 ≤ x1) (b1 : x1 ≤ 3) (k0 : Q h (0, 0)) (k1 : ∀ (y : Int), (-1) ≤ y → y ≤ 19 → 1 ≤ h 151 32 → h 151 32 ≤ 6 → Q h (0, y)) : wp l rho d 218 0 [(2, 151), (0, x1), (9, 0)] [] h Q := by
  have J7_0 : ∀ (n : Nat) (p7_0 p7_1 : Int), (-1) ≤ p7_0 → p7_0 ≤ 5 → 0 ≤ p7_1 → p7_1 ≤ 6 → p7_0 ≤ (p7_1 - 1) → h 151 32 = p7_1 → p7_0 - (-2) ≤ (n : Int) → wp l rho d 218 7 [(2, 151), (0, x1), (0, p7_0)] [] h Q := by
    intro n
    induction n with
    | zero => intro p7_0 p7_1 q0_7_0 q1_7_0 q2_7_0 q3_7_0 q4_7_0 c151_32_7_0 hm_7_0; exfalso; omega
    | succ n ih_7_0 =>
      intro p7_0 p7_1 q0_7_0 q1_7_0 q2_7_0 q3_7_0 q4_7_0 c151_32_7_0 hm_7_0
      refine w_iload_n gz_218_7 rfl ?_
      refine w_iflt (t := 51) gz_218_8 rfl (fun u1 => ?_) (fun u1 => ?_)
      ·
        refine w_iconst gz_218_51 (by decide) ?_
        exact w_iret gz_218_52 gm_218 (k0 )
      ·
        refine w_aload_n gz_218_11 rfl ?_
        refine w_getX (v := 173) gz_218_12 is_151 rd_10 rfl (by decide) rfl ?_
        refine w_iconst gz_218_15 (by decide) ?_
        refine w_aload_n gz_218_16 rfl ?_
        refine w_getX (v := 177) gz_218_17 is_151 rd_10 rfl (by decide) rfl ?_
        refine w_iload_n gz_218_20 rfl ?_
        refine w_iald gz_218_21 is_177 rd_76 (by omega) (by omega) (fun v4 ev4 pv4 qv4 => ?_)
        refine w_imul gz_218_22 ⟨by omega, by omega⟩ ?_
        refine w_iload_n gz_218_23 rfl ?_
        refine w_iadd gz_218_24 ⟨by omega, by omega⟩ ?_
        refine w_iald gz_218_25 is_173 rd_72 (by omega) (by omega) (fun v5 ev5 pv5 qv5 => ?_)
        refine w_iflt (t := 45) gz_218_26 rfl (fun u6 => ?_) (fun u6 => ?_)
        ·
          refine w_iinc (ls' := [(2, 151), (0, x1), (0, (p7_0 + (-1)))]) gz_218_45 rfl gm_218 rfl rfl rfl ⟨by omega, by omega⟩ ?_
          refine w_goto (t := 7) gz_218_48 rfl ?_
          exact ih_7_0 ((p7_0 + (-1))) (p7_1) (by omega) (by omega) (by omega) (by omega) (by omega) (c151_32_7_0.trans (by omega)) (by omega)
        ·
          refine w_aload_n gz_218_29 rfl ?_
          refine w_getX (v := 173) gz_218_30 is_151 rd_10 rfl (by decide) rfl ?_
          refine w_iconst gz_218_33 (by decide) ?_
          refine w_aload_n gz_218_34 rfl ?_
          refine w_getX (v := 177) gz_218_35 is_151 rd_10 rfl (by decide) rfl ?_
          refine w_iload_n gz_218_38 rfl ?_
          refine w_iald gz_218_39 is_177 rd_76 (by omega) (by omega) (fun v9 ev9 pv9 qv9 => ?_)
          have zv9 := ev9.trans ev4.symm
          refine w_imul gz_218_40 ⟨by omega, by omega⟩ ?_
          refine w_iload_n gz_218_41 rfl ?_
          refine w_iadd gz_218_42 ⟨by omega, by omega⟩ ?_
          refine w_iald gz_218_43 is_173 rd_72 (by omega) (by omega) (fun v10 ev10 pv10 qv10 => ?_)
          have c11 := c151_32_7_0
          exact w_iret gz_218_44 gm_218 (k1 (v10) (by omega) (by omega) (by omega) (by omega))
  refine w_aload_n gz_218_0 rfl ?_
  refine v_getI (j := 32) gz_218_1 rfl is_151 rd_10 rfl (fun v12 ev12 pv12 qv12 => ?_)
  refine w_iconst gz_218_4 (by decide) ?_
  refine w_isub gz_218_5 ⟨by omega, by omega⟩ ?_
  refine w_istore_n (ls' := [(2, 151), (0, x1), (0, (v12 - 1))]) gz_218_6 gm_218 rfl rfl rfl ?_
  exact J7_0 7 ((v12 - 1)) (v12) (by omega) (by omega) (by omega) (by omega) (by omega) (ev12.symm.trans (by omega)) (by omega)
theorem gz_22_0 : mz_pg 22 0 = some (.iconst 0, 0, 0, 0) := by decide +kernel
theorem gz_22_1 : mz_pg 22 1 = some (.istore_n 3, 0, 0, 0) := by decide +kernel
theorem gz_22_2 : mz_pg 22 2 = some (.iconst 0, 0, 0, 0) := by decide +kernel
theorem gz_22_3 : mz_pg 22 3 = some (.istore 4, 0, 0, 0) := by decide +kernel
theorem gz_22_5 : mz_pg 22 5 = some (.iload 4, 0, 0, 0) := by decide +kernel
theorem gz_22_7 : mz_pg 22 7 = some (.bipush 20, 0, 0, 0) := by decide +kernel
theorem gz_22_9 : mz_pg 22 9 = some (.if_icmp .ge 55, 0, 0, 0) := by decide +kernel
theorem gz_22_12 : mz_pg 22 12 = some (.iload_n 1, 0, 0, 0) := by decide +kernel
theorem gz_22_13 : mz_pg 22 13 = some (.iload 4, 0, 0, 0) := by decide +kernel
theorem gz_22_15 : mz_pg 22 15 = some (.invokestatic 62, 2, 17, 5) := by decide +kernel
theorem gz_22_18 : mz_pg 22 18 = some (.istore 5, 0, 0, 0) := by decide +kernel
theorem gz_22_20 : mz_pg 22 20 = some (.aload_n 0, 0, 0, 0) := by decide +kernel
theorem gz_22_21 : mz_pg 22 21 = some (.getfield 65, 6, 0, 179) := by decide +kernel
theorem gz_22_24 : mz_pg 22 24 = some (.iload 5, 0, 0, 0) := by decide +kernel
theorem gz_22_26 : mz_pg 22 26 = some (.iaload, 0, 0, 0) := by decide +kernel
theorem gz_22_27 : mz_pg 22 27 = some (.iconst (-1), 0, 0, 0) := by decide +kernel
theorem gz_22_28 : mz_pg 22 28 = some (.if_icmp .eq 30, 0, 0, 0) := by decide +kernel
theorem gz_22_31 : mz_pg 22 31 = some (.iconst 1, 0, 0, 0) := by decide +kernel
theorem gz_22_32 : mz_pg 22 32 = some (.aload_n 0, 0, 0, 0) := by decide +kernel
theorem gz_22_33 : mz_pg 22 33 = some (.getfield 65, 6, 0, 179) := by decide +kernel
theorem gz_22_36 : mz_pg 22 36 = some (.iload 5, 0, 0, 0) := by decide +kernel
theorem gz_22_38 : mz_pg 22 38 = some (.iload_n 2, 0, 0, 0) := by decide +kernel
theorem gz_22_39 : mz_pg 22 39 = some (.iadd, 0, 0, 0) := by decide +kernel
theorem gz_22_40 : mz_pg 22 40 = some (.iaload, 0, 0, 0) := by decide +kernel
theorem gz_22_41 : mz_pg 22 41 = some (.ishl, 0, 0, 0) := by decide +kernel
theorem gz_22_42 : mz_pg 22 42 = some (.istore 6, 0, 0, 0) := by decide +kernel
theorem gz_22_44 : mz_pg 22 44 = some (.iload_n 3, 0, 0, 0) := by decide +kernel
theorem gz_22_45 : mz_pg 22 45 = some (.iload 6, 0, 0, 0) := by decide +kernel
theorem gz_22_47 : mz_pg 22 47 = some (.iand, 0, 0, 0) := by decide +kernel
theorem gz_22_48 : mz_pg 22 48 = some (.ifCond .eq 5, 0, 0, 0) := by decide +kernel
theorem gz_22_51 : mz_pg 22 51 = some (.iconst 0, 0, 0, 0) := by decide +kernel
theorem gz_22_52 : mz_pg 22 52 = some (.ireturn, 0, 0, 0) := by decide +kernel
theorem gz_22_53 : mz_pg 22 53 = some (.iload_n 3, 0, 0, 0) := by decide +kernel
theorem gz_22_54 : mz_pg 22 54 = some (.iload 6, 0, 0, 0) := by decide +kernel
theorem gz_22_56 : mz_pg 22 56 = some (.ior, 0, 0, 0) := by decide +kernel
theorem gz_22_57 : mz_pg 22 57 = some (.istore_n 3, 0, 0, 0) := by decide +kernel
theorem gz_22_58 : mz_pg 22 58 = some (.iinc 4 1, 0, 0, 0) := by decide +kernel
theorem gz_22_61 : mz_pg 22 61 = some (.goto (-56), 0, 0, 0) := by decide +kernel
theorem gz_22_64 : mz_pg 22 64 = some (.iconst 1, 0, 0, 0) := by decide +kernel
theorem gz_22_65 : mz_pg 22 65 = some (.ireturn, 0, 0, 0) := by decide +kernel
theorem gm_22 : my_mm 22 7 (some .boolean) 3 3 := by unfold my_mm; decide +kernel
theorem c38_Laws_isSingle {l : Launch} {rho : Nat → Int32} {d : Nat} {h : my_H} {Q : my_H → my_V → Prop} {x0 x1 x2 : Int} (t0 : my_is 6 x0) (a1 : 0 ≤ x1) (b1 : x1 ≤ 2) (a2 : 0 ≤ x2) (b2 : x2 ≤ 3) (k0 : Q h (0, 0)) (k1 : Q h (0, 1)) : wp l rho (d + 1) 22 0 [(2, x0), (0, x1), (0, x2), (9, 0), (9, 0), (9, 0), (9, 0)] [] h Q := by
  have J5_0 : ∀ (n : Nat) (p5_0 p5_1 : Int), 0 ≤ p5_1 → p5_1 ≤ 20 → 21 - p5_1 ≤ (n : Int) → wp l rho (d + 1) 22 5 [(2, x0), (0, x1), (0, x2), (0, p5_0), (0, p5_1), (9, 0), (9, 0)] [] h Q := by
    intro n
    induction n with
    | zero => intro p5_0 p5_1 q0_5_0 q1_5_0 hm_5_0; exfalso; omega
    | succ n ih_5_0 =>
      intro p5_0 p5_1 q0_5_0 q1_5_0 hm_5_0
      have J58_0 : ∀ (p58_0 p58_1 : Int), p5_1 ≤ 19 → 0 ≤ p58_1 → p58_1 ≤ 236 → wp l rho (d + 1) 22 58 [(2, x0), (0, x1), (0, x2), (0, p58_0), (0, p5_1), (0, p58_1), (9, 0)] [] h Q := by
        intro p58_0 p58_1 q0_58_0 q1_58_0 q2_58_0
        refine w_iinc (ls' := [(2, x0), (0, x1), (0, x2), (0, p58_0), (0, (p5_1 + 1)), (0, p58_1), (9, 0)]) gz_22_58 rfl gm_22 rfl rfl rfl ⟨by omega, by omega⟩ ?_
        refine w_goto (t := 5) gz_22_61 rfl ?_
        refine w_weak (ls' := [(2, x0), (0, x1), (0, x2), (0, p58_0), (0, (p5_1 + 1)), (9, 0), (9, 0)]) (wk_e (wk_e (wk_e (wk_e (wk_e (wk_9 (wk_9 wk_n))))))) ?_
        exact ih_5_0 (p58_0) ((p5_1 + 1)) (by omega) (by omega) (by omega)
      refine w_iload gz_22_5 rfl ?_
      refine w_bipush gz_22_7 (by decide) ?_
      refine w_icge (t := 64) gz_22_9 rfl (fun u1 => ?_) (fun u1 => ?_)
      ·
        refine w_iconst gz_22_64 (by decide) ?_
        exact w_bret gz_22_65 gm_22 (by omega) (by omega) (k1 )
      ·
        refine w_iload_n gz_22_12 rfl ?_
        refine w_iload gz_22_13 rfl ?_
        refine w_inS (k := 0) (as := [(0, p5_1), (0, x1)]) (r := []) (ls0 := [(0, x1), (0, p5_1)]) gz_22_15 gm_17 rfl rfl rfl rfl rfl rfl ?_
        refine w_iload_n gz_17_0 rfl ?_
        refine w_bipush gz_17_1 (by decide) ?_
        refine w_imul gz_17_3 ⟨by omega, by omega⟩ ?_
        refine w_iload_n gz_17_4 rfl ?_
        refine w_iadd gz_17_5 ⟨by omega, by omega⟩ ?_
        refine w_iconst gz_17_6 (by decide) ?_
        refine w_imul gz_17_7 ⟨by omega, by omega⟩ ?_
        refine w_iret gz_17_8 gm_17 ?_
        show wp l rho (d + 1) 22 18 [(2, x0), (0, x1), (0, x2), (0, p5_0), (0, p5_1), (9, 0), (9, 0)] [(0, (((x1 * 20) + p5_1) * 4))] h Q
        refine w_istore (ls' := [(2, x0), (0, x1), (0, x2), (0, p5_0), (0, p5_1), (0, (((x1 * 20) + p5_1) * 4)), (9, 0)]) gz_22_18 gm_22 rfl rfl rfl ?_
        refine w_aload_n gz_22_20 rfl ?_
        refine w_getX (v := (x0 + 1)) gz_22_21 t0 rd_6 rfl (by decide) rfl ?_
        refine w_iload gz_22_24 rfl ?_
        refine w_iald gz_22_26 (ix_6_1 t0) rd_30 (by omega) (by omega) (fun v3 ev3 pv3 qv3 => ?_)
        refine w_iconst gz_22_27 (by decide) ?_
        refine w_iceq (t := 58) gz_22_28 rfl (fun u4 => ?_) (fun u4 => ?_)
        ·
          exact J58_0 (p5_0) ((((x1 * 20) + p5_1) * 4)) (by omega) (by omega) (by omega)
        ·
          refine w_iconst gz_22_31 (by decide) ?_
          refine w_aload_n gz_22_32 rfl ?_
          refine w_getX (v := (x0 + 1)) gz_22_33 t0 rd_6 rfl (by decide) rfl ?_
          refine w_iload gz_22_36 rfl ?_
          refine w_iload_n gz_22_38 rfl ?_
          refine w_iadd gz_22_39 ⟨by omega, by omega⟩ ?_
          refine w_iald gz_22_40 (ix_6_1 t0) rd_30 (by omega) (by omega) (fun v6 ev6 pv6 qv6 => ?_)
          refine w_ianyL gz_22_41 (fun v7 pv7 qv7 => ?_)
          refine w_istore (ls' := [(2, x0), (0, x1), (0, x2), (0, p5_0), (0, p5_1), (0, (((x1 * 20) + p5_1) * 4)), (0, v7)]) gz_22_42 gm_22 rfl rfl rfl ?_
          refine w_iload_n gz_22_44 rfl ?_
          refine w_iload gz_22_45 rfl ?_
          refine w_ianyN gz_22_47 (fun v8 pv8 qv8 => ?_)
          refine w_ifeq (t := 53) gz_22_48 rfl (fun u9 => ?_) (fun u9 => ?_)
          ·
            refine w_iload_n gz_22_53 rfl ?_
            refine w_iload gz_22_54 rfl ?_
            refine w_ianyO gz_22_56 (fun v10 pv10 qv10 => ?_)
            refine w_istore_n (ls' := [(2, x0), (0, x1), (0, x2), (0, v10), (0, p5_1), (0, (((x1 * 20) + p5_1) * 4)), (0, v7)]) gz_22_57 gm_22 rfl rfl rfl ?_
            refine w_weak (ls' := [(2, x0), (0, x1), (0, x2), (0, v10), (0, p5_1), (0, (((x1 * 20) + p5_1) * 4)), (9, 0)]) (wk_e (wk_e (wk_e (wk_e (wk_e (wk_e (wk_9 wk_n))))))) ?_
            exact J58_0 (v10) ((((x1 * 20) + p5_1) * 4)) (by omega) (by omega) (by omega)
          ·
            refine w_iconst gz_22_51 (by decide) ?_
            exact w_bret gz_22_52 gm_22 (by omega) (by omega) (k0 )
  refine w_iconst gz_22_0 (by decide) ?_
  refine w_istore_n (ls' := [(2, x0), (0, x1), (0, x2), (0, 0), (9, 0), (9, 0), (9, 0)]) gz_22_1 gm_22 rfl rfl rfl ?_
  refine w_iconst gz_22_2 (by decide) ?_
  refine w_istore (ls' := [(2, x0), (0, x1), (0, x2), (0, 0), (0, 0), (9, 0), (9, 0)]) gz_22_3 gm_22 rfl rfl rfl ?_
  exact J5_0 21 (0) (0) (by omega) (by omega) (by omega)
theorem gz_227_0 : mz_pg 227 0 = some (.iconst 4, 0, 0, 0) := by decide +kernel
theorem gz_227_1 : mz_pg 227 1 = some (.iload_n 2, 0, 0, 0) := by decide +kernel
theorem gz_227_2 : mz_pg 227 2 = some (.imul, 0, 0, 0) := by decide +kernel
theorem gz_227_3 : mz_pg 227 3 = some (.iload 4, 0, 0, 0) := by decide +kernel
theorem gz_227_5 : mz_pg 227 5 = some (.iadd, 0, 0, 0) := by decide +kernel
theorem gz_227_6 : mz_pg 227 6 = some (.istore 5, 0, 0, 0) := by decide +kernel
theorem gz_227_8 : mz_pg 227 8 = some (.aload_n 0, 0, 0, 0) := by decide +kernel
theorem gz_227_9 : mz_pg 227 9 = some (.iload_n 1, 0, 0, 0) := by decide +kernel
theorem gz_227_10 : mz_pg 227 10 = some (.iload_n 2, 0, 0, 0) := by decide +kernel
theorem gz_227_11 : mz_pg 227 11 = some (.iload_n 3, 0, 0, 0) := by decide +kernel
theorem gz_227_12 : mz_pg 227 12 = some (.iload 4, 0, 0, 0) := by decide +kernel
theorem gz_227_14 : mz_pg 227 14 = some (.invokevirtual 246, 1, 157, 1450) := by decide +kernel
theorem gz_227_17 : mz_pg 227 17 = some (.istore 6, 0, 0, 0) := by decide +kernel
theorem gz_227_19 : mz_pg 227 19 = some (.iload 6, 0, 0, 0) := by decide +kernel
theorem gz_227_21 : mz_pg 227 21 = some (.aload_n 0, 0, 0, 0) := by decide +kernel
theorem gz_227_22 : mz_pg 227 22 = some (.getfield 64, 10, 11, 1224) := by decide +kernel
theorem gz_227_25 : mz_pg 227 25 = some (.iload 5, 0, 0, 0) := by decide +kernel
theorem gz_227_27 : mz_pg 227 27 = some (.iaload, 0, 0, 0) := by decide +kernel
theorem gz_227_28 : mz_pg 227 28 = some (.aload_n 0, 0, 0, 0) := by decide +kernel
theorem gz_227_29 : mz_pg 227 29 = some (.getfield 67, 10, 12, 1225) := by decide +kernel
theorem gz_227_32 : mz_pg 227 32 = some (.iload 5, 0, 0, 0) := by decide +kernel
theorem gz_227_34 : mz_pg 227 34 = some (.iaload, 0, 0, 0) := by decide +kernel
theorem gz_227_35 : mz_pg 227 35 = some (.invokestatic 250, 1, 147, 1419) := by decide +kernel
theorem gz_227_38 : mz_pg 227 38 = some (.ifCond .ne 5, 0, 0, 0) := by decide +kernel
theorem gz_227_41 : mz_pg 227 41 = some (.iconst 1, 0, 0, 0) := by decide +kernel
theorem gz_227_42 : mz_pg 227 42 = some (.ireturn, 0, 0, 0) := by decide +kernel
theorem gz_227_43 : mz_pg 227 43 = some (.aload_n 0, 0, 0, 0) := by decide +kernel
theorem gz_227_44 : mz_pg 227 44 = some (.getfield 70, 10, 13, 1226) := by decide +kernel
theorem gz_227_47 : mz_pg 227 47 = some (.iload 5, 0, 0, 0) := by decide +kernel
theorem gz_227_49 : mz_pg 227 49 = some (.iaload, 0, 0, 0) := by decide +kernel
theorem gz_227_50 : mz_pg 227 50 = some (.ifCond .lt 26, 0, 0, 0) := by decide +kernel
theorem gz_227_53 : mz_pg 227 53 = some (.aload_n 0, 0, 0, 0) := by decide +kernel
theorem gz_227_54 : mz_pg 227 54 = some (.getfield 77, 10, 15, 1228) := by decide +kernel
theorem gz_227_57 : mz_pg 227 57 = some (.iload_n 1, 0, 0, 0) := by decide +kernel
theorem gz_227_58 : mz_pg 227 58 = some (.aload_n 0, 0, 0, 0) := by decide +kernel
theorem gz_227_59 : mz_pg 227 59 = some (.getfield 70, 10, 13, 1226) := by decide +kernel
theorem gz_227_62 : mz_pg 227 62 = some (.iload 5, 0, 0, 0) := by decide +kernel
theorem gz_227_64 : mz_pg 227 64 = some (.iaload, 0, 0, 0) := by decide +kernel
theorem gz_227_65 : mz_pg 227 65 = some (.iload 6, 0, 0, 0) := by decide +kernel
theorem gz_227_67 : mz_pg 227 67 = some (.invokestatic 242, 1, 150, 1429) := by decide +kernel
theorem gz_227_70 : mz_pg 227 70 = some (.baload, 0, 0, 0) := by decide +kernel
theorem gz_227_71 : mz_pg 227 71 = some (.ifCond .ne 5, 0, 0, 0) := by decide +kernel
theorem gz_227_74 : mz_pg 227 74 = some (.iconst 2, 0, 0, 0) := by decide +kernel
theorem gz_227_75 : mz_pg 227 75 = some (.ireturn, 0, 0, 0) := by decide +kernel
theorem gz_227_76 : mz_pg 227 76 = some (.iconst 0, 0, 0, 0) := by decide +kernel
theorem gz_227_77 : mz_pg 227 77 = some (.istore 7, 0, 0, 0) := by decide +kernel
theorem gz_227_79 : mz_pg 227 79 = some (.iload 7, 0, 0, 0) := by decide +kernel
theorem gz_227_81 : mz_pg 227 81 = some (.iload_n 3, 0, 0, 0) := by decide +kernel
theorem gz_227_82 : mz_pg 227 82 = some (.if_icmp .ge 51, 0, 0, 0) := by decide +kernel
theorem gz_227_85 : mz_pg 227 85 = some (.aload_n 0, 0, 0, 0) := by decide +kernel
theorem gz_227_86 : mz_pg 227 86 = some (.getfield 73, 10, 14, 1227) := by decide +kernel
theorem gz_227_89 : mz_pg 227 89 = some (.iload 5, 0, 0, 0) := by decide +kernel
theorem gz_227_91 : mz_pg 227 91 = some (.baload, 0, 0, 0) := by decide +kernel
theorem gz_227_92 : mz_pg 227 92 = some (.ifCond .eq 41, 0, 0, 0) := by decide +kernel
theorem gz_227_95 : mz_pg 227 95 = some (.aload_n 0, 0, 0, 0) := by decide +kernel
theorem gz_227_96 : mz_pg 227 96 = some (.getfield 77, 10, 15, 1228) := by decide +kernel
theorem gz_227_99 : mz_pg 227 99 = some (.iload_n 1, 0, 0, 0) := by decide +kernel
theorem gz_227_100 : mz_pg 227 100 = some (.iload_n 2, 0, 0, 0) := by decide +kernel
theorem gz_227_101 : mz_pg 227 101 = some (.iload 7, 0, 0, 0) := by decide +kernel
theorem gz_227_103 : mz_pg 227 103 = some (.invokestatic 242, 1, 150, 1429) := by decide +kernel
theorem gz_227_106 : mz_pg 227 106 = some (.baload, 0, 0, 0) := by decide +kernel
theorem gz_227_107 : mz_pg 227 107 = some (.ifCond .eq 20, 0, 0, 0) := by decide +kernel
theorem gz_227_110 : mz_pg 227 110 = some (.aload_n 0, 0, 0, 0) := by decide +kernel
theorem gz_227_111 : mz_pg 227 111 = some (.iload_n 1, 0, 0, 0) := by decide +kernel
theorem gz_227_112 : mz_pg 227 112 = some (.iload_n 2, 0, 0, 0) := by decide +kernel
theorem gz_227_113 : mz_pg 227 113 = some (.iload 7, 0, 0, 0) := by decide +kernel
theorem gz_227_115 : mz_pg 227 115 = some (.iload 4, 0, 0, 0) := by decide +kernel
theorem gz_227_117 : mz_pg 227 117 = some (.invokevirtual 246, 1, 157, 1450) := by decide +kernel
theorem gz_227_120 : mz_pg 227 120 = some (.iload 6, 0, 0, 0) := by decide +kernel
theorem gz_227_122 : mz_pg 227 122 = some (.if_icmp .ne 5, 0, 0, 0) := by decide +kernel
theorem gz_227_125 : mz_pg 227 125 = some (.iconst 3, 0, 0, 0) := by decide +kernel
theorem gz_227_126 : mz_pg 227 126 = some (.ireturn, 0, 0, 0) := by decide +kernel
theorem gz_227_127 : mz_pg 227 127 = some (.iinc 7 1, 0, 0, 0) := by decide +kernel
theorem gz_227_130 : mz_pg 227 130 = some (.goto (-51), 0, 0, 0) := by decide +kernel
theorem gz_227_133 : mz_pg 227 133 = some (.iconst 0, 0, 0, 0) := by decide +kernel
theorem gz_227_134 : mz_pg 227 134 = some (.ireturn, 0, 0, 0) := by decide +kernel
theorem gm_227 : my_mm 227 8 (some .int) 4 10 := by unfold my_mm; decide +kernel
theorem c39_Model_breaks {l : Launch} {rho : Nat → Int32} {d : Nat} {h : my_H} {Q : my_H → my_V → Prop} {x2 x3 x4 : Int} (a2 : 0 ≤ x2) (b2 : x2 ≤ 2) (a3 : 0 ≤ x3) (b3 : x3 ≤ 19) (a4 : 0 ≤ x4) (b4 : x4 ≤ 3) (k0 : Q h (0, 0)) (k1 : Q h (0, 1)) (k2 : ∀ (y : Int), 2 ≤ y → y ≤ 3 → Q h (0, y)) : wp l rho (d + 2) 227 0 [(2, 151), (0, 5), (0, x2), (0, x3), (0, x4), (9, 0), (9, 0), (9, 0)] [] h Q := by
  have J79_0 : ∀ (n : Nat) (p79_0 p79_1 p79_2 : Int), 0 ≤ p79_0 → p79_0 ≤ 11 → 0 ≤ p79_1 → p79_1 ≤ 19 → 0 ≤ p79_2 → p79_2 ≤ 19 → p79_2 ≤ x3 → 20 - p79_2 ≤ (n : Int) → wp l rho (d + 2) 227 79 [(2, 151), (0, 5), (0, x2), (0, x3), (0, x4), (0, p79_0), (0, p79_1), (0, p79_2)] [] h Q := by
    intro n
    induction n with
    | zero => intro p79_0 p79_1 p79_2 q0_79_0 q1_79_0 q2_79_0 q3_79_0 q4_79_0 q5_79_0 q6_79_0 hm_79_0; exfalso; omega
    | succ n ih_79_0 =>
      intro p79_0 p79_1 p79_2 q0_79_0 q1_79_0 q2_79_0 q3_79_0 q4_79_0 q5_79_0 q6_79_0 hm_79_0
      have J127_0 : 1 ≤ x3 → p79_2 ≤ 18 → p79_2 ≤ (x3 - 1) → wp l rho (d + 2) 227 127 [(2, 151), (0, 5), (0, x2), (0, x3), (0, x4), (0, p79_0), (0, p79_1), (0, p79_2)] [] h Q := by
        intro q0_127_0 q1_127_0 q2_127_0
        refine w_iinc (ls' := [(2, 151), (0, 5), (0, x2), (0, x3), (0, x4), (0, p79_0), (0, p79_1), (0, (p79_2 + 1))]) gz_227_127 rfl gm_227 rfl rfl rfl ⟨by omega, by omega⟩ ?_
        refine w_goto (t := 79) gz_227_130 rfl ?_
        exact ih_79_0 (p79_0) (p79_1) ((p79_2 + 1)) (by omega) (by omega) (by omega) (by omega) (by omega) (by omega) (by omega) (by omega)
      refine w_iload gz_227_79 rfl ?_
      refine w_iload_n gz_227_81 rfl ?_
      refine w_icge (t := 133) gz_227_82 rfl (fun u1 => ?_) (fun u1 => ?_)
      ·
        refine w_iconst gz_227_133 (by decide) ?_
        exact w_iret gz_227_134 gm_227 (k0 )
      ·
        refine w_aload_n gz_227_85 rfl ?_
        refine w_getX (v := 161) gz_227_86 is_151 rd_10 rfl (by decide) rfl ?_
        refine w_iload gz_227_89 rfl ?_
        refine w_bald gz_227_91 is_161 rd_60 (by omega) (by omega) (fun v3 ev3 pv3 qv3 => ?_)
        refine w_ifeq (t := 133) gz_227_92 rfl (fun u4 => ?_) (fun u4 => ?_)
        ·
          refine w_iconst gz_227_133 (by decide) ?_
          exact w_iret gz_227_134 gm_227 (k0 )
        ·
          refine w_aload_n gz_227_95 rfl ?_
          refine w_getX (v := 162) gz_227_96 is_151 rd_10 rfl (by decide) rfl ?_
          refine w_iload_n gz_227_99 rfl ?_
          refine w_iload_n gz_227_100 rfl ?_
          refine w_iload gz_227_101 rfl ?_
          refine w_inS (k := 0) (as := [(0, p79_2), (0, x2), (0, 5)]) (r := [(2, 162)]) (ls0 := [(0, 5), (0, x2), (0, p79_2)]) gz_227_103 gm_150 rfl rfl rfl rfl rfl rfl ?_
          refine w_bipush gz_150_0 (by decide) ?_
          refine w_iload_n gz_150_2 rfl ?_
          refine w_imul gz_150_3 ⟨by omega, by omega⟩ ?_
          refine w_bipush gz_150_4 (by decide) ?_
          refine w_iload_n gz_150_6 rfl ?_
          refine w_imul gz_150_7 ⟨by omega, by omega⟩ ?_
          refine w_iadd gz_150_8 ⟨by omega, by omega⟩ ?_
          refine w_iload_n gz_150_9 rfl ?_
          refine w_iadd gz_150_10 ⟨by omega, by omega⟩ ?_
          refine w_iret gz_150_11 gm_150 ?_
          show wp l rho (d + 2) 227 106 [(2, 151), (0, 5), (0, x2), (0, x3), (0, x4), (0, p79_0), (0, p79_1), (0, p79_2)] [(0, (((60 * 5) + (20 * x2)) + p79_2)), (2, 162)] h Q
          refine w_bald gz_227_106 is_162 rd_61 (by omega) (by omega) (fun v6 ev6 pv6 qv6 => ?_)
          refine w_ifeq (t := 127) gz_227_107 rfl (fun u7 => ?_) (fun u7 => ?_)
          ·
            exact J127_0 (by omega) (by omega) (by omega)
          ·
            refine w_aload_n gz_227_110 rfl ?_
            refine w_iload_n gz_227_111 rfl ?_
            refine w_iload_n gz_227_112 rfl ?_
            refine w_iload gz_227_113 rfl ?_
            refine w_iload gz_227_115 rfl ?_
            refine w_inv (k := 0) (as := [(0, x4), (0, p79_2), (0, x2), (0, 5)]) (r := []) (x := 151) (ls0 := [(2, 151), (0, 5), (0, x2), (0, p79_2), (0, x4)]) gz_227_117 gm_157 rfl is_151 rd_10 rfl rfl rfl rfl rfl ?_
            refine w_aload_n gz_157_0 rfl ?_
            refine w_getX (v := 163) gz_157_1 is_151 rd_10 rfl (by decide) rfl ?_
            refine w_iconst gz_157_4 (by decide) ?_
            refine w_iload_n gz_157_5 rfl ?_
            refine w_iload_n gz_157_6 rfl ?_
            refine w_iload_n gz_157_7 rfl ?_
            refine w_inS (k := 0) (as := [(0, p79_2), (0, x2), (0, 5)]) (r := [(0, 4), (2, 163)]) (ls0 := [(0, 5), (0, x2), (0, p79_2)]) gz_157_8 gm_150 rfl rfl rfl rfl rfl rfl ?_
            refine w_bipush gz_150_0 (by decide) ?_
            refine w_iload_n gz_150_2 rfl ?_
            refine w_imul gz_150_3 ⟨by omega, by omega⟩ ?_
            refine w_bipush gz_150_4 (by decide) ?_
            refine w_iload_n gz_150_6 rfl ?_
            refine w_imul gz_150_7 ⟨by omega, by omega⟩ ?_
            refine w_iadd gz_150_8 ⟨by omega, by omega⟩ ?_
            refine w_iload_n gz_150_9 rfl ?_
            refine w_iadd gz_150_10 ⟨by omega, by omega⟩ ?_
            refine w_iret gz_150_11 gm_150 ?_
            show wp l rho (d + 1) 157 11 [(2, 151), (0, 5), (0, x2), (0, p79_2), (0, x4)] [(0, (((60 * 5) + (20 * x2)) + p79_2)), (0, 4), (2, 163)] h _
            refine w_imul gz_157_11 ⟨by omega, by omega⟩ ?_
            refine w_iload gz_157_12 rfl ?_
            refine w_iadd gz_157_14 ⟨by omega, by omega⟩ ?_
            refine w_iald gz_157_15 is_163 rd_62 (by omega) (by omega) (fun v9 ev9 pv9 qv9 => ?_)
            refine w_iret gz_157_16 gm_157 ?_
            show wp l rho (d + 2) 227 120 [(2, 151), (0, 5), (0, x2), (0, x3), (0, x4), (0, p79_0), (0, p79_1), (0, p79_2)] [(0, v9)] h Q
            refine w_iload gz_227_120 rfl ?_
            refine w_icne (t := 127) gz_227_122 rfl (fun u10 => ?_) (fun u10 => ?_)
            ·
              exact J127_0 (by omega) (by omega) (by omega)
            ·
              refine w_iconst gz_227_125 (by decide) ?_
              exact w_iret gz_227_126 gm_227 (k2 (3) (by omega) (by omega))
  have J76_0 : ∀ (p76_0 p76_1 : Int), 0 ≤ p76_0 → p76_0 ≤ 11 → 0 ≤ p76_1 → p76_1 ≤ 19 → wp l rho (d + 2) 227 76 [(2, 151), (0, 5), (0, x2), (0, x3), (0, x4), (0, p76_0), (0, p76_1), (9, 0)] [] h Q := by
    intro p76_0 p76_1 q0_76_0 q1_76_0 q2_76_0 q3_76_0
    refine w_iconst gz_227_76 (by decide) ?_
    refine w_istore (ls' := [(2, 151), (0, 5), (0, x2), (0, x3), (0, x4), (0, p76_0), (0, p76_1), (0, 0)]) gz_227_77 gm_227 rfl rfl rfl ?_
    exact J79_0 20 (p76_0) (p76_1) (0) (by omega) (by omega) (by omega) (by omega) (by omega) (by omega) (by omega) (by omega)
  refine w_iconst gz_227_0 (by decide) ?_
  refine w_iload_n gz_227_1 rfl ?_
  refine w_imul gz_227_2 ⟨by omega, by omega⟩ ?_
  refine w_iload gz_227_3 rfl ?_
  refine w_iadd gz_227_5 ⟨by omega, by omega⟩ ?_
  refine w_istore (ls' := [(2, 151), (0, 5), (0, x2), (0, x3), (0, x4), (0, ((4 * x2) + x4)), (9, 0), (9, 0)]) gz_227_6 gm_227 rfl rfl rfl ?_
  refine w_aload_n gz_227_8 rfl ?_
  refine w_iload_n gz_227_9 rfl ?_
  refine w_iload_n gz_227_10 rfl ?_
  refine w_iload_n gz_227_11 rfl ?_
  refine w_iload gz_227_12 rfl ?_
  refine w_inv (k := 0) (as := [(0, x4), (0, x3), (0, x2), (0, 5)]) (r := []) (x := 151) (ls0 := [(2, 151), (0, 5), (0, x2), (0, x3), (0, x4)]) gz_227_14 gm_157 rfl is_151 rd_10 rfl rfl rfl rfl rfl ?_
  refine w_aload_n gz_157_0 rfl ?_
  refine w_getX (v := 163) gz_157_1 is_151 rd_10 rfl (by decide) rfl ?_
  refine w_iconst gz_157_4 (by decide) ?_
  refine w_iload_n gz_157_5 rfl ?_
  refine w_iload_n gz_157_6 rfl ?_
  refine w_iload_n gz_157_7 rfl ?_
  refine w_inS (k := 0) (as := [(0, x3), (0, x2), (0, 5)]) (r := [(0, 4), (2, 163)]) (ls0 := [(0, 5), (0, x2), (0, x3)]) gz_157_8 gm_150 rfl rfl rfl rfl rfl rfl ?_
  refine w_bipush gz_150_0 (by decide) ?_
  refine w_iload_n gz_150_2 rfl ?_
  refine w_imul gz_150_3 ⟨by omega, by omega⟩ ?_
  refine w_bipush gz_150_4 (by decide) ?_
  refine w_iload_n gz_150_6 rfl ?_
  refine w_imul gz_150_7 ⟨by omega, by omega⟩ ?_
  refine w_iadd gz_150_8 ⟨by omega, by omega⟩ ?_
  refine w_iload_n gz_150_9 rfl ?_
  refine w_iadd gz_150_10 ⟨by omega, by omega⟩ ?_
  refine w_iret gz_150_11 gm_150 ?_
  show wp l rho (d + 1) 157 11 [(2, 151), (0, 5), (0, x2), (0, x3), (0, x4)] [(0, (((60 * 5) + (20 * x2)) + x3)), (0, 4), (2, 163)] h _
  refine w_imul gz_157_11 ⟨by omega, by omega⟩ ?_
  refine w_iload gz_157_12 rfl ?_
  refine w_iadd gz_157_14 ⟨by omega, by omega⟩ ?_
  refine w_iald gz_157_15 is_163 rd_62 (by omega) (by omega) (fun v12 ev12 pv12 qv12 => ?_)
  refine w_iret gz_157_16 gm_157 ?_
  show wp l rho (d + 2) 227 17 [(2, 151), (0, 5), (0, x2), (0, x3), (0, x4), (0, ((4 * x2) + x4)), (9, 0), (9, 0)] [(0, v12)] h Q
  refine w_istore (ls' := [(2, 151), (0, 5), (0, x2), (0, x3), (0, x4), (0, ((4 * x2) + x4)), (0, v12), (9, 0)]) gz_227_17 gm_227 rfl rfl rfl ?_
  refine w_iload gz_227_19 rfl ?_
  refine w_aload_n gz_227_21 rfl ?_
  refine w_getX (v := 158) gz_227_22 is_151 rd_10 rfl (by decide) rfl ?_
  refine w_iload gz_227_25 rfl ?_
  refine w_iald gz_227_27 is_158 rd_57 (by omega) (by omega) (fun v14 ev14 pv14 qv14 => ?_)
  refine w_aload_n gz_227_28 rfl ?_
  refine w_getX (v := 159) gz_227_29 is_151 rd_10 rfl (by decide) rfl ?_
  refine w_iload gz_227_32 rfl ?_
  refine w_iald gz_227_34 is_159 rd_58 (by omega) (by omega) (fun v16 ev16 pv16 qv16 => ?_)
  refine w_inS (k := 0) (as := [(0, v16), (0, v14), (0, v12)]) (r := []) (ls0 := [(0, v12), (0, v14), (0, v16)]) gz_227_35 gm_147 rfl rfl rfl rfl rfl rfl ?_
  refine w_iload_n gz_147_0 rfl ?_
  refine w_iload_n gz_147_1 rfl ?_
  refine w_iclt (t := 14) gz_147_2 rfl (fun u17 => ?_) (fun u17 => ?_)
  ·
    refine w_iconst gz_147_14 (by decide) ?_
    refine w_bret gz_147_15 gm_147 (by omega) (by omega) ?_
    show wp l rho (d + 2) 227 38 [(2, 151), (0, 5), (0, x2), (0, x3), (0, x4), (0, ((4 * x2) + x4)), (0, v12), (9, 0)] [(0, 0)] h Q
    refine w_ifne (t := 43) gz_227_38 rfl (fun u18 => by exfalso; omega) (fun u18 => ?_)
    refine w_iconst gz_227_41 (by decide) ?_
    exact w_iret gz_227_42 gm_227 (k1 )
  ·
    refine w_iload_n gz_147_5 rfl ?_
    refine w_iload_n gz_147_6 rfl ?_
    refine w_icgt (t := 14) gz_147_7 rfl (fun u19 => ?_) (fun u19 => ?_)
    ·
      refine w_iconst gz_147_14 (by decide) ?_
      refine w_bret gz_147_15 gm_147 (by omega) (by omega) ?_
      show wp l rho (d + 2) 227 38 [(2, 151), (0, 5), (0, x2), (0, x3), (0, x4), (0, ((4 * x2) + x4)), (0, v12), (9, 0)] [(0, 0)] h Q
      refine w_ifne (t := 43) gz_227_38 rfl (fun u20 => by exfalso; omega) (fun u20 => ?_)
      refine w_iconst gz_227_41 (by decide) ?_
      exact w_iret gz_227_42 gm_227 (k1 )
    ·
      refine w_iconst gz_147_10 (by decide) ?_
      refine w_goto (t := 15) gz_147_11 rfl ?_
      refine w_bret gz_147_15 gm_147 (by omega) (by omega) ?_
      show wp l rho (d + 2) 227 38 [(2, 151), (0, 5), (0, x2), (0, x3), (0, x4), (0, ((4 * x2) + x4)), (0, v12), (9, 0)] [(0, 1)] h Q
      refine w_ifne (t := 43) gz_227_38 rfl (fun u21 => ?_) (fun u21 => by exfalso; omega)
      refine w_aload_n gz_227_43 rfl ?_
      refine w_getX (v := 160) gz_227_44 is_151 rd_10 rfl (by decide) rfl ?_
      refine w_iload gz_227_47 rfl ?_
      refine w_iald gz_227_49 is_160 rd_59 (by omega) (by omega) (fun v23 ev23 pv23 qv23 => ?_)
      refine w_iflt (t := 76) gz_227_50 rfl (fun u24 => ?_) (fun u24 => ?_)
      ·
        exact J76_0 (((4 * x2) + x4)) (v12) (by omega) (by omega) (by omega) (by omega)
      ·
        refine w_aload_n gz_227_53 rfl ?_
        refine w_getX (v := 162) gz_227_54 is_151 rd_10 rfl (by decide) rfl ?_
        refine w_iload_n gz_227_57 rfl ?_
        refine w_aload_n gz_227_58 rfl ?_
        refine w_getX (v := 160) gz_227_59 is_151 rd_10 rfl (by decide) rfl ?_
        refine w_iload gz_227_62 rfl ?_
        refine w_iald gz_227_64 is_160 rd_59 (by omega) (by omega) (fun v27 ev27 pv27 qv27 => ?_)
        have zv27 := ev27.trans ev23.symm
        refine w_iload gz_227_65 rfl ?_
        refine w_inS (k := 0) (as := [(0, v12), (0, v27), (0, 5)]) (r := [(2, 162)]) (ls0 := [(0, 5), (0, v27), (0, v12)]) gz_227_67 gm_150 rfl rfl rfl rfl rfl rfl ?_
        refine w_bipush gz_150_0 (by decide) ?_
        refine w_iload_n gz_150_2 rfl ?_
        refine w_imul gz_150_3 ⟨by omega, by omega⟩ ?_
        refine w_bipush gz_150_4 (by decide) ?_
        refine w_iload_n gz_150_6 rfl ?_
        refine w_imul gz_150_7 ⟨by omega, by omega⟩ ?_
        refine w_iadd gz_150_8 ⟨by omega, by omega⟩ ?_
        refine w_iload_n gz_150_9 rfl ?_
        refine w_iadd gz_150_10 ⟨by omega, by omega⟩ ?_
        refine w_iret gz_150_11 gm_150 ?_
        show wp l rho (d + 2) 227 70 [(2, 151), (0, 5), (0, x2), (0, x3), (0, x4), (0, ((4 * x2) + x4)), (0, v12), (9, 0)] [(0, (((60 * 5) + (20 * v27)) + v12)), (2, 162)] h Q
        refine w_bald gz_227_70 is_162 rd_61 (by omega) (by omega) (fun v28 ev28 pv28 qv28 => ?_)
        refine w_ifne (t := 76) gz_227_71 rfl (fun u29 => ?_) (fun u29 => ?_)
        ·
          exact J76_0 (((4 * x2) + x4)) (v12) (by omega) (by omega) (by omega) (by omega)
        ·
          refine w_iconst gz_227_74 (by decide) ?_
          exact w_iret gz_227_75 gm_227 (k2 (2) (by omega) (by omega))
theorem ix_6_2 {x : Int} (hx : my_is 6 x) : my_is 31 (x + 2) := my_isOff (δ := 2) hx (by decide +kernel)
theorem gz_23_0 : mz_pg 23 0 = some (.iload_n 1, 0, 0, 0) := by decide +kernel
theorem gz_23_1 : mz_pg 23 1 = some (.iload_n 2, 0, 0, 0) := by decide +kernel
theorem gz_23_2 : mz_pg 23 2 = some (.invokestatic 18, 2, 17, 4) := by decide +kernel
theorem gz_23_5 : mz_pg 23 5 = some (.istore_n 3, 0, 0, 0) := by decide +kernel
theorem gz_23_6 : mz_pg 23 6 = some (.aload_n 0, 0, 0, 0) := by decide +kernel
theorem gz_23_7 : mz_pg 23 7 = some (.getfield 9, 6, 0, 176) := by decide +kernel
theorem gz_23_10 : mz_pg 23 10 = some (.iload_n 3, 0, 0, 0) := by decide +kernel
theorem gz_23_11 : mz_pg 23 11 = some (.iconst (-1), 0, 0, 0) := by decide +kernel
theorem gz_23_12 : mz_pg 23 12 = some (.iastore, 0, 0, 0) := by decide +kernel
theorem gz_23_13 : mz_pg 23 13 = some (.iconst 1, 0, 0, 0) := by decide +kernel
theorem gz_23_14 : mz_pg 23 14 = some (.istore 4, 0, 0, 0) := by decide +kernel
theorem gz_23_16 : mz_pg 23 16 = some (.iload 4, 0, 0, 0) := by decide +kernel
theorem gz_23_18 : mz_pg 23 18 = some (.iconst 4, 0, 0, 0) := by decide +kernel
theorem gz_23_19 : mz_pg 23 19 = some (.if_icmp .ge 19, 0, 0, 0) := by decide +kernel
theorem gz_23_22 : mz_pg 23 22 = some (.aload_n 0, 0, 0, 0) := by decide +kernel
theorem gz_23_23 : mz_pg 23 23 = some (.getfield 9, 6, 0, 176) := by decide +kernel
theorem gz_23_26 : mz_pg 23 26 = some (.iload_n 3, 0, 0, 0) := by decide +kernel
theorem gz_23_27 : mz_pg 23 27 = some (.iload 4, 0, 0, 0) := by decide +kernel
theorem gz_23_29 : mz_pg 23 29 = some (.iadd, 0, 0, 0) := by decide +kernel
theorem gz_23_30 : mz_pg 23 30 = some (.iconst 0, 0, 0, 0) := by decide +kernel
theorem gz_23_31 : mz_pg 23 31 = some (.iastore, 0, 0, 0) := by decide +kernel
theorem gz_23_32 : mz_pg 23 32 = some (.iinc 4 1, 0, 0, 0) := by decide +kernel
theorem gz_23_35 : mz_pg 23 35 = some (.goto (-19), 0, 0, 0) := by decide +kernel
theorem gz_23_38 : mz_pg 23 38 = some (.aload_n 0, 0, 0, 0) := by decide +kernel
theorem gz_23_39 : mz_pg 23 39 = some (.getfield 15, 6, 1, 182) := by decide +kernel
theorem gz_23_42 : mz_pg 23 42 = some (.iload_n 1, 0, 0, 0) := by decide +kernel
theorem gz_23_43 : mz_pg 23 43 = some (.dup2, 0, 0, 0) := by decide +kernel
theorem gz_23_44 : mz_pg 23 44 = some (.iaload, 0, 0, 0) := by decide +kernel
theorem gz_23_45 : mz_pg 23 45 = some (.iconst 1, 0, 0, 0) := by decide +kernel
theorem gz_23_46 : mz_pg 23 46 = some (.isub, 0, 0, 0) := by decide +kernel
theorem gz_23_47 : mz_pg 23 47 = some (.iastore, 0, 0, 0) := by decide +kernel
theorem gz_23_48 : mz_pg 23 48 = some (.return_, 0, 0, 0) := by decide +kernel
theorem gm_23 : my_mm 23 5 none 2 6 := by unfold my_mm; decide +kernel
theorem rd_31 : my_rd 31 = .inl (0, 3, [(0, -2147483648, 2147483647)]) := rfl
theorem c40_Rows_drop {l : Launch} {rho : Nat → Int32} {d : Nat} {h : my_H} {Q : my_H → my_V → Prop} {x0 x1 x2 : Int} (t0 : my_is 6 x0) (a1 : 0 ≤ x1) (b1 : x1 ≤ 2) (a2 : 0 ≤ x2) (b2 : x2 ≤ 19) (k0 : ∀ (h' : my_H), my_fr [(30, -1), (31, -1)] h h' → my_fx x0 2 h h' → Q h' (9, 0)) : wp l rho (d + 1) 23 0 [(2, x0), (0, x1), (0, x2), (9, 0), (9, 0)] [] h Q := by
  have J16_0 : ∀ (n : Nat) (p16_0 p16_1 : Int) (h16_0 : my_H), my_fr [(30, -1), (31, -1)] h h16_0 → my_fx x0 2 h h16_0 → 0 ≤ p16_0 → p16_0 ≤ 236 → 1 ≤ p16_1 → p16_1 ≤ 4 → 5 - p16_1 ≤ (n : Int) → wp l rho (d + 1) 23 16 [(2, x0), (0, x1), (0, x2), (0, p16_0), (0, p16_1)] [] h16_0 Q := by
    intro n
    induction n with
    | zero => intro p16_0 p16_1 h16_0 gh_16_0 gx_16_0 q0_16_0 q1_16_0 q2_16_0 q3_16_0 hm_16_0; exfalso; omega
    | succ n ih_16_0 =>
      intro p16_0 p16_1 h16_0 gh_16_0 gx_16_0 q0_16_0 q1_16_0 q2_16_0 q3_16_0 hm_16_0
      refine w_iload gz_23_16 rfl ?_
      refine w_iconst gz_23_18 (by decide) ?_
      refine w_icge (t := 38) gz_23_19 rfl (fun u1 => ?_) (fun u1 => ?_)
      ·
        refine w_aload_n gz_23_38 rfl ?_
        refine w_getX (v := (x0 + 2)) gz_23_39 t0 rd_6 rfl (by decide) rfl ?_
        refine w_iload_n gz_23_42 rfl ?_
        refine w_dup2 gz_23_43 rfl rfl ?_
        refine w_iald gz_23_44 (ix_6_2 t0) rd_31 (by omega) (by omega) (fun v3 ev3 pv3 qv3 => ?_)
        refine w_iconst gz_23_45 (by decide) ?_
        refine w_ianyS gz_23_46 (fun v4 pv4 qv4 => ?_)
        refine w_iastA gz_23_47 (ix_6_2 t0) rd_31 (by omega) (by omega) (fun h5 fh5 => ?_)
        have gh5 : my_fr [(30, -1), (31, -1)] h h5 := my_fr.up gh_16_0 (ix_6_2 t0) fh5 rfl
        have gxh5 : my_fx x0 2 h h5 := my_fx.up gx_16_0 fh5 (by omega)
        exact w_vret gz_23_48 gm_23 (k0 h5 (gh5) (gxh5))
      ·
        refine w_aload_n gz_23_22 rfl ?_
        refine w_getX (v := (x0 + 1)) gz_23_23 t0 rd_6 rfl (by decide) rfl ?_
        refine w_iload_n gz_23_26 rfl ?_
        refine w_iload gz_23_27 rfl ?_
        refine w_iadd gz_23_29 ⟨by omega, by omega⟩ ?_
        refine w_iconst gz_23_30 (by decide) ?_
        refine w_iast gz_23_31 (ix_6_1 t0) rd_30 (by omega) (by omega) (by omega) (by omega) (fun h7 fh7 => ?_)
        have gh7 : my_fr [(30, -1), (31, -1)] h h7 := my_fr.up gh_16_0 (ix_6_1 t0) fh7 rfl
        have gxh7 : my_fx x0 2 h h7 := my_fx.up gx_16_0 fh7 (by omega)
        refine w_iinc (ls' := [(2, x0), (0, x1), (0, x2), (0, p16_0), (0, (p16_1 + 1))]) gz_23_32 rfl gm_23 rfl rfl rfl ⟨by omega, by omega⟩ ?_
        refine w_goto (t := 16) gz_23_35 rfl ?_
        exact ih_16_0 (p16_0) ((p16_1 + 1)) h7 (gh7) (gxh7) (by omega) (by omega) (by omega) (by omega) (by omega)
  refine w_iload_n gz_23_0 rfl ?_
  refine w_iload_n gz_23_1 rfl ?_
  refine w_inS (k := 0) (as := [(0, x2), (0, x1)]) (r := []) (ls0 := [(0, x1), (0, x2)]) gz_23_2 gm_17 rfl rfl rfl rfl rfl rfl ?_
  refine w_iload_n gz_17_0 rfl ?_
  refine w_bipush gz_17_1 (by decide) ?_
  refine w_imul gz_17_3 ⟨by omega, by omega⟩ ?_
  refine w_iload_n gz_17_4 rfl ?_
  refine w_iadd gz_17_5 ⟨by omega, by omega⟩ ?_
  refine w_iconst gz_17_6 (by decide) ?_
  refine w_imul gz_17_7 ⟨by omega, by omega⟩ ?_
  refine w_iret gz_17_8 gm_17 ?_
  show wp l rho (d + 1) 23 5 [(2, x0), (0, x1), (0, x2), (9, 0), (9, 0)] [(0, (((x1 * 20) + x2) * 4))] h Q
  refine w_istore_n (ls' := [(2, x0), (0, x1), (0, x2), (0, (((x1 * 20) + x2) * 4)), (9, 0)]) gz_23_5 gm_23 rfl rfl rfl ?_
  refine w_aload_n gz_23_6 rfl ?_
  refine w_getX (v := (x0 + 1)) gz_23_7 t0 rd_6 rfl (by decide) rfl ?_
  refine w_iload_n gz_23_10 rfl ?_
  refine w_iconst gz_23_11 (by decide) ?_
  refine w_iast gz_23_12 (ix_6_1 t0) rd_30 (by omega) (by omega) (by omega) (by omega) (fun h9 fh9 => ?_)
  have gh9 : my_fr [(30, -1), (31, -1)] h h9 := my_fr.up my_fr.rf (ix_6_1 t0) fh9 rfl
  have gxh9 : my_fx x0 2 h h9 := my_fx.up my_fx.rf fh9 (by omega)
  refine w_iconst gz_23_13 (by decide) ?_
  refine w_istore (ls' := [(2, x0), (0, x1), (0, x2), (0, (((x1 * 20) + x2) * 4)), (0, 1)]) gz_23_14 gm_23 rfl rfl rfl ?_
  exact J16_0 4 ((((x1 * 20) + x2) * 4)) (1) h9 (gh9) (gxh9) (by omega) (by omega) (by omega) (by omega) (by omega)
theorem gz_230_0 : mz_pg 230 0 = some (.iconst 1, 0, 0, 0) := by decide +kernel
theorem gz_230_1 : mz_pg 230 1 = some (.istore_n 3, 0, 0, 0) := by decide +kernel
theorem gz_230_2 : mz_pg 230 2 = some (.iconst 0, 0, 0, 0) := by decide +kernel
theorem gz_230_3 : mz_pg 230 3 = some (.istore 4, 0, 0, 0) := by decide +kernel
theorem gz_230_5 : mz_pg 230 5 = some (.iload 4, 0, 0, 0) := by decide +kernel
theorem gz_230_7 : mz_pg 230 7 = some (.bipush 60, 0, 0, 0) := by decide +kernel
theorem gz_230_9 : mz_pg 230 9 = some (.if_icmp .ge 123, 0, 0, 0) := by decide +kernel
theorem gz_230_12 : mz_pg 230 12 = some (.iload_n 3, 0, 0, 0) := by decide +kernel
theorem gz_230_13 : mz_pg 230 13 = some (.ifCond .eq 34, 0, 0, 0) := by decide +kernel
theorem gz_230_16 : mz_pg 230 16 = some (.aload_n 0, 0, 0, 0) := by decide +kernel
theorem gz_230_17 : mz_pg 230 17 = some (.getfield 77, 10, 15, 1228) := by decide +kernel
theorem gz_230_20 : mz_pg 230 20 = some (.bipush 60, 0, 0, 0) := by decide +kernel
theorem gz_230_22 : mz_pg 230 22 = some (.iload_n 1, 0, 0, 0) := by decide +kernel
theorem gz_230_23 : mz_pg 230 23 = some (.imul, 0, 0, 0) := by decide +kernel
theorem gz_230_24 : mz_pg 230 24 = some (.iload 4, 0, 0, 0) := by decide +kernel
theorem gz_230_26 : mz_pg 230 26 = some (.iadd, 0, 0, 0) := by decide +kernel
theorem gz_230_27 : mz_pg 230 27 = some (.baload, 0, 0, 0) := by decide +kernel
theorem gz_230_28 : mz_pg 230 28 = some (.aload_n 0, 0, 0, 0) := by decide +kernel
theorem gz_230_29 : mz_pg 230 29 = some (.getfield 77, 10, 15, 1228) := by decide +kernel
theorem gz_230_32 : mz_pg 230 32 = some (.bipush 60, 0, 0, 0) := by decide +kernel
theorem gz_230_34 : mz_pg 230 34 = some (.iload_n 2, 0, 0, 0) := by decide +kernel
theorem gz_230_35 : mz_pg 230 35 = some (.imul, 0, 0, 0) := by decide +kernel
theorem gz_230_36 : mz_pg 230 36 = some (.iload 4, 0, 0, 0) := by decide +kernel
theorem gz_230_38 : mz_pg 230 38 = some (.iadd, 0, 0, 0) := by decide +kernel
theorem gz_230_39 : mz_pg 230 39 = some (.baload, 0, 0, 0) := by decide +kernel
theorem gz_230_40 : mz_pg 230 40 = some (.if_icmp .ne 7, 0, 0, 0) := by decide +kernel
theorem gz_230_43 : mz_pg 230 43 = some (.iconst 1, 0, 0, 0) := by decide +kernel
theorem gz_230_44 : mz_pg 230 44 = some (.goto 4, 0, 0, 0) := by decide +kernel
theorem gz_230_47 : mz_pg 230 47 = some (.iconst 0, 0, 0, 0) := by decide +kernel
theorem gz_230_48 : mz_pg 230 48 = some (.istore_n 3, 0, 0, 0) := by decide +kernel
theorem gz_230_49 : mz_pg 230 49 = some (.iconst 0, 0, 0, 0) := by decide +kernel
theorem gz_230_50 : mz_pg 230 50 = some (.istore 5, 0, 0, 0) := by decide +kernel
theorem gz_230_52 : mz_pg 230 52 = some (.iload 5, 0, 0, 0) := by decide +kernel
theorem gz_230_54 : mz_pg 230 54 = some (.iconst 4, 0, 0, 0) := by decide +kernel
end MYG1
