/-! contracts, printed by wip/gen/gy.py -/
section MYG2
theorem gz_230_55 : mz_pg 230 55 = some (.if_icmp .ge 71, 0, 0, 0) := by decide +kernel
theorem gz_230_58 : mz_pg 230 58 = some (.iload_n 3, 0, 0, 0) := by decide +kernel
theorem gz_230_59 : mz_pg 230 59 = some (.ifCond .eq 67, 0, 0, 0) := by decide +kernel
theorem gz_230_62 : mz_pg 230 62 = some (.aload_n 0, 0, 0, 0) := by decide +kernel
theorem gz_230_63 : mz_pg 230 63 = some (.getfield 77, 10, 15, 1228) := by decide +kernel
theorem gz_230_66 : mz_pg 230 66 = some (.bipush 60, 0, 0, 0) := by decide +kernel
theorem gz_230_68 : mz_pg 230 68 = some (.iload_n 1, 0, 0, 0) := by decide +kernel
theorem gz_230_69 : mz_pg 230 69 = some (.imul, 0, 0, 0) := by decide +kernel
theorem gz_230_70 : mz_pg 230 70 = some (.iload 4, 0, 0, 0) := by decide +kernel
theorem gz_230_72 : mz_pg 230 72 = some (.iadd, 0, 0, 0) := by decide +kernel
theorem gz_230_73 : mz_pg 230 73 = some (.baload, 0, 0, 0) := by decide +kernel
theorem gz_230_74 : mz_pg 230 74 = some (.ifCond .eq 52, 0, 0, 0) := by decide +kernel
theorem gz_230_77 : mz_pg 230 77 = some (.aload_n 0, 0, 0, 0) := by decide +kernel
theorem gz_230_78 : mz_pg 230 78 = some (.getfield 80, 10, 16, 1229) := by decide +kernel
theorem gz_230_81 : mz_pg 230 81 = some (.iconst 4, 0, 0, 0) := by decide +kernel
theorem gz_230_82 : mz_pg 230 82 = some (.bipush 60, 0, 0, 0) := by decide +kernel
theorem gz_230_84 : mz_pg 230 84 = some (.iload_n 1, 0, 0, 0) := by decide +kernel
theorem gz_230_85 : mz_pg 230 85 = some (.imul, 0, 0, 0) := by decide +kernel
theorem gz_230_86 : mz_pg 230 86 = some (.iload 4, 0, 0, 0) := by decide +kernel
theorem gz_230_88 : mz_pg 230 88 = some (.iadd, 0, 0, 0) := by decide +kernel
theorem gz_230_89 : mz_pg 230 89 = some (.imul, 0, 0, 0) := by decide +kernel
theorem gz_230_90 : mz_pg 230 90 = some (.iload 5, 0, 0, 0) := by decide +kernel
theorem gz_230_92 : mz_pg 230 92 = some (.iadd, 0, 0, 0) := by decide +kernel
theorem gz_230_93 : mz_pg 230 93 = some (.iaload, 0, 0, 0) := by decide +kernel
theorem gz_230_94 : mz_pg 230 94 = some (.aload_n 0, 0, 0, 0) := by decide +kernel
theorem gz_230_95 : mz_pg 230 95 = some (.getfield 80, 10, 16, 1229) := by decide +kernel
theorem gz_230_98 : mz_pg 230 98 = some (.iconst 4, 0, 0, 0) := by decide +kernel
theorem gz_230_99 : mz_pg 230 99 = some (.bipush 60, 0, 0, 0) := by decide +kernel
theorem gz_230_101 : mz_pg 230 101 = some (.iload_n 2, 0, 0, 0) := by decide +kernel
theorem gz_230_102 : mz_pg 230 102 = some (.imul, 0, 0, 0) := by decide +kernel
theorem gz_230_103 : mz_pg 230 103 = some (.iload 4, 0, 0, 0) := by decide +kernel
theorem gz_230_105 : mz_pg 230 105 = some (.iadd, 0, 0, 0) := by decide +kernel
theorem gz_230_106 : mz_pg 230 106 = some (.imul, 0, 0, 0) := by decide +kernel
theorem gz_230_107 : mz_pg 230 107 = some (.iload 5, 0, 0, 0) := by decide +kernel
theorem gz_230_109 : mz_pg 230 109 = some (.iadd, 0, 0, 0) := by decide +kernel
theorem gz_230_110 : mz_pg 230 110 = some (.iaload, 0, 0, 0) := by decide +kernel
theorem gz_230_111 : mz_pg 230 111 = some (.if_icmp .ne 7, 0, 0, 0) := by decide +kernel
theorem gz_230_114 : mz_pg 230 114 = some (.iconst 1, 0, 0, 0) := by decide +kernel
theorem gz_230_115 : mz_pg 230 115 = some (.goto 4, 0, 0, 0) := by decide +kernel
theorem gz_230_118 : mz_pg 230 118 = some (.iconst 0, 0, 0, 0) := by decide +kernel
theorem gz_230_119 : mz_pg 230 119 = some (.istore_n 3, 0, 0, 0) := by decide +kernel
theorem gz_230_120 : mz_pg 230 120 = some (.iinc 5 1, 0, 0, 0) := by decide +kernel
theorem gz_230_123 : mz_pg 230 123 = some (.goto (-71), 0, 0, 0) := by decide +kernel
theorem gz_230_126 : mz_pg 230 126 = some (.iinc 4 1, 0, 0, 0) := by decide +kernel
theorem gz_230_129 : mz_pg 230 129 = some (.goto (-124), 0, 0, 0) := by decide +kernel
theorem gz_230_132 : mz_pg 230 132 = some (.iload_n 3, 0, 0, 0) := by decide +kernel
theorem gz_230_133 : mz_pg 230 133 = some (.ireturn, 0, 0, 0) := by decide +kernel
theorem gm_230 : my_mm 230 6 (some .boolean) 2 10 := by unfold my_mm; decide +kernel
theorem c41_Model_areAlike {l : Launch} {rho : Nat → Int32} {d : Nat} {h : my_H} {Q : my_H → my_V → Prop} {x1 x2 : Int} (a1 : 0 ≤ x1) (b1 : x1 ≤ 15) (a2 : 0 ≤ x2) (b2 : x2 ≤ 15) (k0 : ∀ (y : Int), 0 ≤ y → y ≤ 1 → Q h (0, y)) : wp l rho d 230 0 [(2, 151), (0, x1), (0, x2), (9, 0), (9, 0), (9, 0)] [] h Q := by
  have J5_0 : ∀ (n : Nat) (p5_0 p5_1 : Int), 0 ≤ p5_0 → p5_0 ≤ 1 → 0 ≤ p5_1 → p5_1 ≤ 60 → 61 - p5_1 ≤ (n : Int) → wp l rho d 230 5 [(2, 151), (0, x1), (0, x2), (0, p5_0), (0, p5_1), (9, 0)] [] h Q := by
    intro n
    induction n with
    | zero => intro p5_0 p5_1 q0_5_0 q1_5_0 q2_5_0 q3_5_0 hm_5_0; exfalso; omega
    | succ n ih_5_0 =>
      intro p5_0 p5_1 q0_5_0 q1_5_0 q2_5_0 q3_5_0 hm_5_0
      have J126_0 : ∀ (p126_0 p126_1 : Int), 0 ≤ p126_0 → p126_0 ≤ 1 → p5_1 ≤ 59 → 0 ≤ p126_1 → p126_1 ≤ 4 → p126_0 ≤ p5_0 → wp l rho d 230 126 [(2, 151), (0, x1), (0, x2), (0, p126_0), (0, p5_1), (0, p126_1)] [] h Q := by
        intro p126_0 p126_1 q0_126_0 q1_126_0 q2_126_0 q3_126_0 q4_126_0 q5_126_0
        refine w_iinc (ls' := [(2, 151), (0, x1), (0, x2), (0, p126_0), (0, (p5_1 + 1)), (0, p126_1)]) gz_230_126 rfl gm_230 rfl rfl rfl ⟨by omega, by omega⟩ ?_
        refine w_goto (t := 5) gz_230_129 rfl ?_
        refine w_weak (ls' := [(2, 151), (0, x1), (0, x2), (0, p126_0), (0, (p5_1 + 1)), (9, 0)]) (wk_e (wk_e (wk_e (wk_e (wk_e (wk_9 wk_n)))))) ?_
        exact ih_5_0 (p126_0) ((p5_1 + 1)) (by omega) (by omega) (by omega) (by omega) (by omega)
      have J52_0 : ∀ (n : Nat) (p52_0 p52_1 : Int), 0 ≤ p52_0 → p52_0 ≤ 1 → p5_1 ≤ 59 → 0 ≤ p52_1 → p52_1 ≤ 4 → p52_0 ≤ p5_0 → 5 - p52_1 ≤ (n : Int) → wp l rho d 230 52 [(2, 151), (0, x1), (0, x2), (0, p52_0), (0, p5_1), (0, p52_1)] [] h Q := by
        intro n
        induction n with
        | zero => intro p52_0 p52_1 q0_52_0 q1_52_0 q2_52_0 q3_52_0 q4_52_0 q5_52_0 hm_52_0; exfalso; omega
        | succ n ih_52_0 =>
          intro p52_0 p52_1 q0_52_0 q1_52_0 q2_52_0 q3_52_0 q4_52_0 q5_52_0 hm_52_0
          refine w_iload gz_230_52 rfl ?_
          refine w_iconst gz_230_54 (by decide) ?_
          refine w_icge (t := 126) gz_230_55 rfl (fun u1 => ?_) (fun u1 => ?_)
          ·
            exact J126_0 (p52_0) (p52_1) (by omega) (by omega) (by omega) (by omega) (by omega) (by omega)
          ·
            refine w_iload_n gz_230_58 rfl ?_
            refine w_ifeq (t := 126) gz_230_59 rfl (fun u2 => ?_) (fun u2 => ?_)
            ·
              exact J126_0 (p52_0) (p52_1) (by omega) (by omega) (by omega) (by omega) (by omega) (by omega)
            ·
              refine w_aload_n gz_230_62 rfl ?_
              refine w_getX (v := 162) gz_230_63 is_151 rd_10 rfl (by decide) rfl ?_
              refine w_bipush gz_230_66 (by decide) ?_
              refine w_iload_n gz_230_68 rfl ?_
              refine w_imul gz_230_69 ⟨by omega, by omega⟩ ?_
              refine w_iload gz_230_70 rfl ?_
              refine w_iadd gz_230_72 ⟨by omega, by omega⟩ ?_
              refine w_bald gz_230_73 is_162 rd_61 (by omega) (by omega) (fun v4 ev4 pv4 qv4 => ?_)
              refine w_ifeq (t := 126) gz_230_74 rfl (fun u5 => ?_) (fun u5 => ?_)
              ·
                exact J126_0 (p52_0) (p52_1) (by omega) (by omega) (by omega) (by omega) (by omega) (by omega)
              ·
                refine w_aload_n gz_230_77 rfl ?_
                refine w_getX (v := 163) gz_230_78 is_151 rd_10 rfl (by decide) rfl ?_
                refine w_iconst gz_230_81 (by decide) ?_
                refine w_bipush gz_230_82 (by decide) ?_
                refine w_iload_n gz_230_84 rfl ?_
                refine w_imul gz_230_85 ⟨by omega, by omega⟩ ?_
                refine w_iload gz_230_86 rfl ?_
                refine w_iadd gz_230_88 ⟨by omega, by omega⟩ ?_
                refine w_imul gz_230_89 ⟨by omega, by omega⟩ ?_
                refine w_iload gz_230_90 rfl ?_
                refine w_iadd gz_230_92 ⟨by omega, by omega⟩ ?_
                refine w_iald gz_230_93 is_163 rd_62 (by omega) (by omega) (fun v7 ev7 pv7 qv7 => ?_)
                refine w_aload_n gz_230_94 rfl ?_
                refine w_getX (v := 163) gz_230_95 is_151 rd_10 rfl (by decide) rfl ?_
                refine w_iconst gz_230_98 (by decide) ?_
                refine w_bipush gz_230_99 (by decide) ?_
                refine w_iload_n gz_230_101 rfl ?_
                refine w_imul gz_230_102 ⟨by omega, by omega⟩ ?_
                refine w_iload gz_230_103 rfl ?_
                refine w_iadd gz_230_105 ⟨by omega, by omega⟩ ?_
                refine w_imul gz_230_106 ⟨by omega, by omega⟩ ?_
                refine w_iload gz_230_107 rfl ?_
                refine w_iadd gz_230_109 ⟨by omega, by omega⟩ ?_
                refine w_iald gz_230_110 is_163 rd_62 (by omega) (by omega) (fun v9 ev9 pv9 qv9 => ?_)
                refine w_icne (t := 118) gz_230_111 rfl (fun u10 => ?_) (fun u10 => ?_)
                ·
                  refine w_iconst gz_230_118 (by decide) ?_
                  refine w_istore_n (ls' := [(2, 151), (0, x1), (0, x2), (0, 0), (0, p5_1), (0, p52_1)]) gz_230_119 gm_230 rfl rfl rfl ?_
                  refine w_iinc (ls' := [(2, 151), (0, x1), (0, x2), (0, 0), (0, p5_1), (0, (p52_1 + 1))]) gz_230_120 rfl gm_230 rfl rfl rfl ⟨by omega, by omega⟩ ?_
                  refine w_goto (t := 52) gz_230_123 rfl ?_
                  exact ih_52_0 (0) ((p52_1 + 1)) (by omega) (by omega) (by omega) (by omega) (by omega) (by omega) (by omega)
                ·
                  refine w_iconst gz_230_114 (by decide) ?_
                  refine w_goto (t := 119) gz_230_115 rfl ?_
                  refine w_istore_n (ls' := [(2, 151), (0, x1), (0, x2), (0, 1), (0, p5_1), (0, p52_1)]) gz_230_119 gm_230 rfl rfl rfl ?_
                  refine w_iinc (ls' := [(2, 151), (0, x1), (0, x2), (0, 1), (0, p5_1), (0, (p52_1 + 1))]) gz_230_120 rfl gm_230 rfl rfl rfl ⟨by omega, by omega⟩ ?_
                  refine w_goto (t := 52) gz_230_123 rfl ?_
                  exact ih_52_0 (1) ((p52_1 + 1)) (by omega) (by omega) (by omega) (by omega) (by omega) (by omega) (by omega)
      have J47_0 : ∀ (p47_0 : Int), 0 ≤ p47_0 → p47_0 ≤ 1 → p5_1 ≤ 59 → p47_0 ≤ p5_0 → p5_0 ≤ p47_0 → wp l rho d 230 47 [(2, 151), (0, x1), (0, x2), (0, p47_0), (0, p5_1), (9, 0)] [] h Q := by
        intro p47_0 q0_47_0 q1_47_0 q2_47_0 q3_47_0 q4_47_0
        refine w_iconst gz_230_47 (by decide) ?_
        refine w_istore_n (ls' := [(2, 151), (0, x1), (0, x2), (0, 0), (0, p5_1), (9, 0)]) gz_230_48 gm_230 rfl rfl rfl ?_
        refine w_iconst gz_230_49 (by decide) ?_
        refine w_istore (ls' := [(2, 151), (0, x1), (0, x2), (0, 0), (0, p5_1), (0, 0)]) gz_230_50 gm_230 rfl rfl rfl ?_
        exact J52_0 5 (0) (0) (by omega) (by omega) (by omega) (by omega) (by omega) (by omega) (by omega)
      refine w_iload gz_230_5 rfl ?_
      refine w_bipush gz_230_7 (by decide) ?_
      refine w_icge (t := 132) gz_230_9 rfl (fun u11 => ?_) (fun u11 => ?_)
      ·
        refine w_iload_n gz_230_132 rfl ?_
        exact w_bret gz_230_133 gm_230 (by omega) (by omega) (k0 (p5_0) (by omega) (by omega))
      ·
        refine w_iload_n gz_230_12 rfl ?_
        refine w_ifeq (t := 47) gz_230_13 rfl (fun u12 => ?_) (fun u12 => ?_)
        ·
          exact J47_0 (p5_0) (by omega) (by omega) (by omega) (by omega) (by omega)
        ·
          refine w_aload_n gz_230_16 rfl ?_
          refine w_getX (v := 162) gz_230_17 is_151 rd_10 rfl (by decide) rfl ?_
          refine w_bipush gz_230_20 (by decide) ?_
          refine w_iload_n gz_230_22 rfl ?_
          refine w_imul gz_230_23 ⟨by omega, by omega⟩ ?_
          refine w_iload gz_230_24 rfl ?_
          refine w_iadd gz_230_26 ⟨by omega, by omega⟩ ?_
          refine w_bald gz_230_27 is_162 rd_61 (by omega) (by omega) (fun v14 ev14 pv14 qv14 => ?_)
          refine w_aload_n gz_230_28 rfl ?_
          refine w_getX (v := 162) gz_230_29 is_151 rd_10 rfl (by decide) rfl ?_
          refine w_bipush gz_230_32 (by decide) ?_
          refine w_iload_n gz_230_34 rfl ?_
          refine w_imul gz_230_35 ⟨by omega, by omega⟩ ?_
          refine w_iload gz_230_36 rfl ?_
          refine w_iadd gz_230_38 ⟨by omega, by omega⟩ ?_
          refine w_bald gz_230_39 is_162 rd_61 (by omega) (by omega) (fun v16 ev16 pv16 qv16 => ?_)
          refine w_icne (t := 47) gz_230_40 rfl (fun u17 => ?_) (fun u17 => ?_)
          ·
            exact J47_0 (p5_0) (by omega) (by omega) (by omega) (by omega) (by omega)
          ·
            refine w_iconst gz_230_43 (by decide) ?_
            refine w_goto (t := 48) gz_230_44 rfl ?_
            refine w_istore_n (ls' := [(2, 151), (0, x1), (0, x2), (0, 1), (0, p5_1), (9, 0)]) gz_230_48 gm_230 rfl rfl rfl ?_
            refine w_iconst gz_230_49 (by decide) ?_
            refine w_istore (ls' := [(2, 151), (0, x1), (0, x2), (0, 1), (0, p5_1), (0, 0)]) gz_230_50 gm_230 rfl rfl rfl ?_
            exact J52_0 5 (1) (0) (by omega) (by omega) (by omega) (by omega) (by omega) (by omega) (by omega)
  refine w_iconst gz_230_0 (by decide) ?_
  refine w_istore_n (ls' := [(2, 151), (0, x1), (0, x2), (0, 1), (9, 0), (9, 0)]) gz_230_1 gm_230 rfl rfl rfl ?_
  refine w_iconst gz_230_2 (by decide) ?_
  refine w_istore (ls' := [(2, 151), (0, x1), (0, x2), (0, 1), (0, 0), (9, 0)]) gz_230_3 gm_230 rfl rfl rfl ?_
  exact J5_0 61 (1) (0) (by omega) (by omega) (by omega) (by omega) (by omega)
theorem gz_235_0 : mz_pg 235 0 = some (.iconst 0, 0, 0, 0) := by decide +kernel
theorem gz_235_1 : mz_pg 235 1 = some (.istore 6, 0, 0, 0) := by decide +kernel
theorem gz_235_3 : mz_pg 235 3 = some (.iconst 0, 0, 0, 0) := by decide +kernel
theorem gz_235_4 : mz_pg 235 4 = some (.istore 7, 0, 0, 0) := by decide +kernel
theorem gz_235_6 : mz_pg 235 6 = some (.iload 7, 0, 0, 0) := by decide +kernel
theorem gz_235_8 : mz_pg 235 8 = some (.bipush 20, 0, 0, 0) := by decide +kernel
theorem gz_235_10 : mz_pg 235 10 = some (.if_icmp .ge 115, 0, 0, 0) := by decide +kernel
theorem gz_235_13 : mz_pg 235 13 = some (.aload_n 0, 0, 0, 0) := by decide +kernel
theorem gz_235_14 : mz_pg 235 14 = some (.getfield 77, 10, 15, 1228) := by decide +kernel
theorem gz_235_17 : mz_pg 235 17 = some (.iconst 0, 0, 0, 0) := by decide +kernel
theorem gz_235_18 : mz_pg 235 18 = some (.iload_n 1, 0, 0, 0) := by decide +kernel
theorem gz_235_19 : mz_pg 235 19 = some (.iload 7, 0, 0, 0) := by decide +kernel
theorem gz_235_21 : mz_pg 235 21 = some (.invokestatic 242, 1, 150, 1429) := by decide +kernel
theorem gz_235_24 : mz_pg 235 24 = some (.baload, 0, 0, 0) := by decide +kernel
theorem gz_235_25 : mz_pg 235 25 = some (.ifCond .eq 94, 0, 0, 0) := by decide +kernel
theorem gz_235_28 : mz_pg 235 28 = some (.aload_n 0, 0, 0, 0) := by decide +kernel
theorem gz_235_29 : mz_pg 235 29 = some (.iconst 0, 0, 0, 0) := by decide +kernel
theorem gz_235_30 : mz_pg 235 30 = some (.iload_n 1, 0, 0, 0) := by decide +kernel
theorem gz_235_31 : mz_pg 235 31 = some (.iload 7, 0, 0, 0) := by decide +kernel
theorem gz_235_33 : mz_pg 235 33 = some (.iload_n 3, 0, 0, 0) := by decide +kernel
theorem gz_235_34 : mz_pg 235 34 = some (.invokevirtual 246, 1, 157, 1450) := by decide +kernel
theorem gz_235_37 : mz_pg 235 37 = some (.istore 8, 0, 0, 0) := by decide +kernel
theorem gz_235_39 : mz_pg 235 39 = some (.iload 4, 0, 0, 0) := by decide +kernel
theorem gz_235_41 : mz_pg 235 41 = some (.ifCond .ne 18, 0, 0, 0) := by decide +kernel
theorem gz_235_44 : mz_pg 235 44 = some (.iload 8, 0, 0, 0) := by decide +kernel
theorem gz_235_46 : mz_pg 235 46 = some (.iload 5, 0, 0, 0) := by decide +kernel
theorem gz_235_48 : mz_pg 235 48 = some (.if_icmp .ge 7, 0, 0, 0) := by decide +kernel
theorem gz_235_51 : mz_pg 235 51 = some (.iconst 1, 0, 0, 0) := by decide +kernel
theorem gz_235_52 : mz_pg 235 52 = some (.goto 40, 0, 0, 0) := by decide +kernel
theorem gz_235_55 : mz_pg 235 55 = some (.iconst 0, 0, 0, 0) := by decide +kernel
theorem gz_235_56 : mz_pg 235 56 = some (.goto 36, 0, 0, 0) := by decide +kernel
theorem gz_235_59 : mz_pg 235 59 = some (.iload 4, 0, 0, 0) := by decide +kernel
theorem gz_235_61 : mz_pg 235 61 = some (.iconst 1, 0, 0, 0) := by decide +kernel
theorem gz_235_62 : mz_pg 235 62 = some (.if_icmp .ne 18, 0, 0, 0) := by decide +kernel
theorem gz_235_65 : mz_pg 235 65 = some (.iload 8, 0, 0, 0) := by decide +kernel
theorem gz_235_67 : mz_pg 235 67 = some (.iload 5, 0, 0, 0) := by decide +kernel
theorem gz_235_69 : mz_pg 235 69 = some (.if_icmp .ne 7, 0, 0, 0) := by decide +kernel
theorem gz_235_72 : mz_pg 235 72 = some (.iconst 1, 0, 0, 0) := by decide +kernel
theorem gz_235_73 : mz_pg 235 73 = some (.goto 19, 0, 0, 0) := by decide +kernel
theorem gz_235_76 : mz_pg 235 76 = some (.iconst 0, 0, 0, 0) := by decide +kernel
theorem gz_235_77 : mz_pg 235 77 = some (.goto 15, 0, 0, 0) := by decide +kernel
theorem gz_235_80 : mz_pg 235 80 = some (.iload 8, 0, 0, 0) := by decide +kernel
theorem gz_235_82 : mz_pg 235 82 = some (.iload 5, 0, 0, 0) := by decide +kernel
theorem gz_235_84 : mz_pg 235 84 = some (.if_icmp .le 7, 0, 0, 0) := by decide +kernel
theorem gz_235_87 : mz_pg 235 87 = some (.iconst 1, 0, 0, 0) := by decide +kernel
theorem gz_235_88 : mz_pg 235 88 = some (.goto 4, 0, 0, 0) := by decide +kernel
theorem gz_235_91 : mz_pg 235 91 = some (.iconst 0, 0, 0, 0) := by decide +kernel
theorem gz_235_92 : mz_pg 235 92 = some (.istore 9, 0, 0, 0) := by decide +kernel
theorem gz_235_94 : mz_pg 235 94 = some (.iload 9, 0, 0, 0) := by decide +kernel
theorem gz_235_96 : mz_pg 235 96 = some (.iload_n 2, 0, 0, 0) := by decide +kernel
theorem gz_235_97 : mz_pg 235 97 = some (.iload 6, 0, 0, 0) := by decide +kernel
theorem gz_235_99 : mz_pg 235 99 = some (.ishr, 0, 0, 0) := by decide +kernel
theorem gz_235_100 : mz_pg 235 100 = some (.iconst 1, 0, 0, 0) := by decide +kernel
theorem gz_235_101 : mz_pg 235 101 = some (.iand, 0, 0, 0) := by decide +kernel
theorem gz_235_102 : mz_pg 235 102 = some (.iconst 1, 0, 0, 0) := by decide +kernel
theorem gz_235_103 : mz_pg 235 103 = some (.if_icmp .ne 7, 0, 0, 0) := by decide +kernel
theorem gz_235_106 : mz_pg 235 106 = some (.iconst 1, 0, 0, 0) := by decide +kernel
theorem gz_235_107 : mz_pg 235 107 = some (.goto 4, 0, 0, 0) := by decide +kernel
theorem gz_235_110 : mz_pg 235 110 = some (.iconst 0, 0, 0, 0) := by decide +kernel
theorem gz_235_111 : mz_pg 235 111 = some (.if_icmp .eq 5, 0, 0, 0) := by decide +kernel
theorem gz_235_114 : mz_pg 235 114 = some (.iconst 0, 0, 0, 0) := by decide +kernel
theorem gz_235_115 : mz_pg 235 115 = some (.ireturn, 0, 0, 0) := by decide +kernel
theorem gz_235_116 : mz_pg 235 116 = some (.iinc 6 1, 0, 0, 0) := by decide +kernel
theorem gz_235_119 : mz_pg 235 119 = some (.iinc 7 1, 0, 0, 0) := by decide +kernel
theorem gz_235_122 : mz_pg 235 122 = some (.goto (-116), 0, 0, 0) := by decide +kernel
theorem gz_235_125 : mz_pg 235 125 = some (.iconst 1, 0, 0, 0) := by decide +kernel
theorem gz_235_126 : mz_pg 235 126 = some (.ireturn, 0, 0, 0) := by decide +kernel
theorem gm_235 : my_mm 235 10 (some .boolean) 5 10 := by unfold my_mm; decide +kernel
theorem c42_Model_isCut {l : Launch} {rho : Nat → Int32} {d : Nat} {h : my_H} {Q : my_H → my_V → Prop} {x1 x2 x3 x4 x5 : Int} (a1 : 0 ≤ x1) (b1 : x1 ≤ 2) (a2 : 0 ≤ x2) (b2 : x2 ≤ 2147483646) (a3 : 0 ≤ x3) (b3 : x3 ≤ 3) (a4 : 0 ≤ x4) (b4 : x4 ≤ 2) (a5 : 0 ≤ x5) (b5 : x5 ≤ 199) (k0 : Q h (0, 0)) (k1 : Q h (0, 1)) : wp l rho (d + 2) 235 0 [(2, 151), (0, x1), (0, x2), (0, x3), (0, x4), (0, x5), (9, 0), (9, 0), (9, 0), (9, 0)] [] h Q := by
  have J6_0 : ∀ (n : Nat) (p6_0 p6_1 p6_2 : Int), 0 ≤ p6_0 → p6_0 ≤ 2 → 0 ≤ p6_1 → p6_1 ≤ 20 → 0 ≤ p6_2 → p6_2 ≤ 20 → p6_0 ≤ x4 → p6_1 ≤ p6_2 → x4 ≤ p6_0 → 21 - p6_2 ≤ (n : Int) → wp l rho (d + 2) 235 6 [(2, 151), (0, x1), (0, x2), (0, x3), (0, p6_0), (0, x5), (0, p6_1), (0, p6_2), (9, 0), (9, 0)] [] h Q := by
    intro n
    induction n with
    | zero => intro p6_0 p6_1 p6_2 q0_6_0 q1_6_0 q2_6_0 q3_6_0 q4_6_0 q5_6_0 q6_6_0 q7_6_0 q8_6_0 hm_6_0; exfalso; omega
    | succ n ih_6_0 =>
      intro p6_0 p6_1 p6_2 q0_6_0 q1_6_0 q2_6_0 q3_6_0 q4_6_0 q5_6_0 q6_6_0 q7_6_0 q8_6_0 hm_6_0
      have J92_1 : ∀ (p92_0 p92_1 : Int), 0 ≤ p92_0 → p92_0 ≤ 2 → p6_1 ≤ 19 → p6_2 ≤ 19 → 0 ≤ p92_1 → p92_1 ≤ 19 → p92_0 ≤ (p92_1 + 1) → p92_0 ≤ p6_0 → p92_0 ≤ x4 → p6_1 ≤ p6_2 → p6_0 ≤ p92_0 → p6_0 ≤ (p92_1 + 1) → p6_0 ≤ x4 → x4 ≤ p92_0 → x4 ≤ (p92_1 + 1) → x4 ≤ p6_0 → wp l rho (d + 2) 235 92 [(2, 151), (0, x1), (0, x2), (0, x3), (0, p92_0), (0, x5), (0, p6_1), (0, p6_2), (0, p92_1), (9, 0)] [(0, 1)] h Q := by
        intro p92_0 p92_1 q0_92_1 q1_92_1 q2_92_1 q3_92_1 q4_92_1 q5_92_1 q6_92_1 q7_92_1 q8_92_1 q9_92_1 q10_92_1 q11_92_1 q12_92_1 q13_92_1 q14_92_1 q15_92_1
        refine w_istore (ls' := [(2, 151), (0, x1), (0, x2), (0, x3), (0, p92_0), (0, x5), (0, p6_1), (0, p6_2), (0, p92_1), (0, 1)]) gz_235_92 gm_235 rfl rfl rfl ?_
        refine w_iload gz_235_94 rfl ?_
        refine w_iload_n gz_235_96 rfl ?_
        refine w_iload gz_235_97 rfl ?_
        refine w_ianyR gz_235_99 (fun v1 pv1 qv1 => ?_)
        refine w_iconst gz_235_100 (by decide) ?_
        refine w_iandM gz_235_101 (by decide) (fun v2 pv2 qv2 => ?_)
        refine w_iconst gz_235_102 (by decide) ?_
        refine w_icne (t := 110) gz_235_103 rfl (fun u3 => ?_) (fun u3 => ?_)
        ·
          refine w_iconst gz_235_110 (by decide) ?_
          refine w_iceq (t := 116) gz_235_111 rfl (fun u4 => by exfalso; omega) (fun u4 => ?_)
          refine w_iconst gz_235_114 (by decide) ?_
          exact w_bret gz_235_115 gm_235 (by omega) (by omega) (k0 )
        ·
          refine w_iconst gz_235_106 (by decide) ?_
          refine w_goto (t := 111) gz_235_107 rfl ?_
          refine w_iceq (t := 116) gz_235_111 rfl (fun u5 => ?_) (fun u5 => by exfalso; omega)
          refine w_iinc (ls' := [(2, 151), (0, x1), (0, x2), (0, x3), (0, p92_0), (0, x5), (0, (p6_1 + 1)), (0, p6_2), (0, p92_1), (0, 1)]) gz_235_116 rfl gm_235 rfl rfl rfl ⟨by omega, by omega⟩ ?_
          refine w_iinc (ls' := [(2, 151), (0, x1), (0, x2), (0, x3), (0, p92_0), (0, x5), (0, (p6_1 + 1)), (0, (p6_2 + 1)), (0, p92_1), (0, 1)]) gz_235_119 rfl gm_235 rfl rfl rfl ⟨by omega, by omega⟩ ?_
          refine w_goto (t := 6) gz_235_122 rfl ?_
          refine w_weak (ls' := [(2, 151), (0, x1), (0, x2), (0, x3), (0, p92_0), (0, x5), (0, (p6_1 + 1)), (0, (p6_2 + 1)), (9, 0), (9, 0)]) (wk_e (wk_e (wk_e (wk_e (wk_e (wk_e (wk_e (wk_e (wk_9 (wk_9 wk_n)))))))))) ?_
          exact ih_6_0 (p92_0) ((p6_1 + 1)) ((p6_2 + 1)) (by omega) (by omega) (by omega) (by omega) (by omega) (by omega) (by omega) (by omega) (by omega) (by omega)
      have J92_0 : ∀ (p92_0 p92_1 : Int), 0 ≤ p92_0 → p92_0 ≤ 2 → p6_1 ≤ 19 → p6_2 ≤ 19 → 0 ≤ p92_1 → p92_1 ≤ 19 → p92_0 ≤ p6_0 → p92_0 ≤ x4 → p6_1 ≤ p6_2 → p6_0 ≤ p92_0 → p6_0 ≤ x4 → x4 ≤ p92_0 → x4 ≤ p6_0 → wp l rho (d + 2) 235 92 [(2, 151), (0, x1), (0, x2), (0, x3), (0, p92_0), (0, x5), (0, p6_1), (0, p6_2), (0, p92_1), (9, 0)] [(0, 0)] h Q := by
        intro p92_0 p92_1 q0_92_0 q1_92_0 q2_92_0 q3_92_0 q4_92_0 q5_92_0 q6_92_0 q7_92_0 q8_92_0 q9_92_0 q10_92_0 q11_92_0 q12_92_0
        refine w_istore (ls' := [(2, 151), (0, x1), (0, x2), (0, x3), (0, p92_0), (0, x5), (0, p6_1), (0, p6_2), (0, p92_1), (0, 0)]) gz_235_92 gm_235 rfl rfl rfl ?_
        refine w_iload gz_235_94 rfl ?_
        refine w_iload_n gz_235_96 rfl ?_
        refine w_iload gz_235_97 rfl ?_
        refine w_ianyR gz_235_99 (fun v6 pv6 qv6 => ?_)
        refine w_iconst gz_235_100 (by decide) ?_
        refine w_iandM gz_235_101 (by decide) (fun v7 pv7 qv7 => ?_)
        refine w_iconst gz_235_102 (by decide) ?_
        refine w_icne (t := 110) gz_235_103 rfl (fun u8 => ?_) (fun u8 => ?_)
        ·
          refine w_iconst gz_235_110 (by decide) ?_
          refine w_iceq (t := 116) gz_235_111 rfl (fun u9 => ?_) (fun u9 => by exfalso; omega)
          refine w_iinc (ls' := [(2, 151), (0, x1), (0, x2), (0, x3), (0, p92_0), (0, x5), (0, (p6_1 + 1)), (0, p6_2), (0, p92_1), (0, 0)]) gz_235_116 rfl gm_235 rfl rfl rfl ⟨by omega, by omega⟩ ?_
          refine w_iinc (ls' := [(2, 151), (0, x1), (0, x2), (0, x3), (0, p92_0), (0, x5), (0, (p6_1 + 1)), (0, (p6_2 + 1)), (0, p92_1), (0, 0)]) gz_235_119 rfl gm_235 rfl rfl rfl ⟨by omega, by omega⟩ ?_
          refine w_goto (t := 6) gz_235_122 rfl ?_
          refine w_weak (ls' := [(2, 151), (0, x1), (0, x2), (0, x3), (0, p92_0), (0, x5), (0, (p6_1 + 1)), (0, (p6_2 + 1)), (9, 0), (9, 0)]) (wk_e (wk_e (wk_e (wk_e (wk_e (wk_e (wk_e (wk_e (wk_9 (wk_9 wk_n)))))))))) ?_
          exact ih_6_0 (p92_0) ((p6_1 + 1)) ((p6_2 + 1)) (by omega) (by omega) (by omega) (by omega) (by omega) (by omega) (by omega) (by omega) (by omega) (by omega)
        ·
          refine w_iconst gz_235_106 (by decide) ?_
          refine w_goto (t := 111) gz_235_107 rfl ?_
          refine w_iceq (t := 116) gz_235_111 rfl (fun u10 => by exfalso; omega) (fun u10 => ?_)
          refine w_iconst gz_235_114 (by decide) ?_
          exact w_bret gz_235_115 gm_235 (by omega) (by omega) (k0 )
      refine w_iload gz_235_6 rfl ?_
      refine w_bipush gz_235_8 (by decide) ?_
      refine w_icge (t := 125) gz_235_10 rfl (fun u11 => ?_) (fun u11 => ?_)
      ·
        refine w_iconst gz_235_125 (by decide) ?_
        exact w_bret gz_235_126 gm_235 (by omega) (by omega) (k1 )
      ·
        refine w_aload_n gz_235_13 rfl ?_
        refine w_getX (v := 162) gz_235_14 is_151 rd_10 rfl (by decide) rfl ?_
        refine w_iconst gz_235_17 (by decide) ?_
        refine w_iload_n gz_235_18 rfl ?_
        refine w_iload gz_235_19 rfl ?_
        refine w_inS (k := 0) (as := [(0, p6_2), (0, x1), (0, 0)]) (r := [(2, 162)]) (ls0 := [(0, 0), (0, x1), (0, p6_2)]) gz_235_21 gm_150 rfl rfl rfl rfl rfl rfl ?_
        refine w_bipush gz_150_0 (by decide) ?_
        refine w_iload_n gz_150_2 rfl ?_
        refine w_imul gz_150_3 ⟨by omega, by omega⟩ ?_
        refine w_bipush gz_150_4 (by decide) ?_
        refine w_iload_n gz_150_6 rfl ?_
        refine w_imul gz_150_7 ⟨by omega, by omega⟩ ?_
        refine w_iadd gz_150_8 ⟨by omega, by omega⟩ ?_
        refine w_iload_n gz_150_9 rfl ?_
        refine w_iadd gz_150_10 ⟨by omega, by omega⟩ ?_
        refine w_iret gz_150_11 gm_150 ?_
        show wp l rho (d + 2) 235 24 [(2, 151), (0, x1), (0, x2), (0, x3), (0, p6_0), (0, x5), (0, p6_1), (0, p6_2), (9, 0), (9, 0)] [(0, (((60 * 0) + (20 * x1)) + p6_2)), (2, 162)] h Q
        refine w_bald gz_235_24 is_162 rd_61 (by omega) (by omega) (fun v13 ev13 pv13 qv13 => ?_)
        refine w_ifeq (t := 119) gz_235_25 rfl (fun u14 => ?_) (fun u14 => ?_)
        ·
          refine w_iinc (ls' := [(2, 151), (0, x1), (0, x2), (0, x3), (0, p6_0), (0, x5), (0, p6_1), (0, (p6_2 + 1)), (9, 0), (9, 0)]) gz_235_119 rfl gm_235 rfl rfl rfl ⟨by omega, by omega⟩ ?_
          refine w_goto (t := 6) gz_235_122 rfl ?_
          exact ih_6_0 (p6_0) (p6_1) ((p6_2 + 1)) (by omega) (by omega) (by omega) (by omega) (by omega) (by omega) (by omega) (by omega) (by omega) (by omega)
        ·
          refine w_aload_n gz_235_28 rfl ?_
          refine w_iconst gz_235_29 (by decide) ?_
          refine w_iload_n gz_235_30 rfl ?_
          refine w_iload gz_235_31 rfl ?_
          refine w_iload_n gz_235_33 rfl ?_
          refine w_inv (k := 0) (as := [(0, x3), (0, p6_2), (0, x1), (0, 0)]) (r := []) (x := 151) (ls0 := [(2, 151), (0, 0), (0, x1), (0, p6_2), (0, x3)]) gz_235_34 gm_157 rfl is_151 rd_10 rfl rfl rfl rfl rfl ?_
          refine w_aload_n gz_157_0 rfl ?_
          refine w_getX (v := 163) gz_157_1 is_151 rd_10 rfl (by decide) rfl ?_
          refine w_iconst gz_157_4 (by decide) ?_
          refine w_iload_n gz_157_5 rfl ?_
          refine w_iload_n gz_157_6 rfl ?_
          refine w_iload_n gz_157_7 rfl ?_
          refine w_inS (k := 0) (as := [(0, p6_2), (0, x1), (0, 0)]) (r := [(0, 4), (2, 163)]) (ls0 := [(0, 0), (0, x1), (0, p6_2)]) gz_157_8 gm_150 rfl rfl rfl rfl rfl rfl ?_
          refine w_bipush gz_150_0 (by decide) ?_
          refine w_iload_n gz_150_2 rfl ?_
          refine w_imul gz_150_3 ⟨by omega, by omega⟩ ?_
          refine w_bipush gz_150_4 (by decide) ?_
          refine w_iload_n gz_150_6 rfl ?_
          refine w_imul gz_150_7 ⟨by omega, by omega⟩ ?_
          refine w_iadd gz_150_8 ⟨by omega, by omega⟩ ?_
          refine w_iload_n gz_150_9 rfl ?_
          refine w_iadd gz_150_10 ⟨by omega, by omega⟩ ?_
          refine w_iret gz_150_11 gm_150 ?_
          show wp l rho (d + 1) 157 11 [(2, 151), (0, 0), (0, x1), (0, p6_2), (0, x3)] [(0, (((60 * 0) + (20 * x1)) + p6_2)), (0, 4), (2, 163)] h _
          refine w_imul gz_157_11 ⟨by omega, by omega⟩ ?_
          refine w_iload gz_157_12 rfl ?_
          refine w_iadd gz_157_14 ⟨by omega, by omega⟩ ?_
          refine w_iald gz_157_15 is_163 rd_62 (by omega) (by omega) (fun v16 ev16 pv16 qv16 => ?_)
          refine w_iret gz_157_16 gm_157 ?_
          show wp l rho (d + 2) 235 37 [(2, 151), (0, x1), (0, x2), (0, x3), (0, p6_0), (0, x5), (0, p6_1), (0, p6_2), (9, 0), (9, 0)] [(0, v16)] h Q
          refine w_istore (ls' := [(2, 151), (0, x1), (0, x2), (0, x3), (0, p6_0), (0, x5), (0, p6_1), (0, p6_2), (0, v16), (9, 0)]) gz_235_37 gm_235 rfl rfl rfl ?_
          refine w_iload gz_235_39 rfl ?_
          refine w_ifne (t := 59) gz_235_41 rfl (fun u17 => ?_) (fun u17 => ?_)
          ·
            refine w_iload gz_235_59 rfl ?_
            refine w_iconst gz_235_61 (by decide) ?_
            refine w_icne (t := 80) gz_235_62 rfl (fun u18 => ?_) (fun u18 => ?_)
            ·
              refine w_iload gz_235_80 rfl ?_
              refine w_iload gz_235_82 rfl ?_
              refine w_icle (t := 91) gz_235_84 rfl (fun u19 => ?_) (fun u19 => ?_)
              ·
                refine w_iconst gz_235_91 (by decide) ?_
                exact J92_0 (p6_0) (v16) (by omega) (by omega) (by omega) (by omega) (by omega) (by omega) (by omega) (by omega) (by omega) (by omega) (by omega) (by omega) (by omega)
              ·
                refine w_iconst gz_235_87 (by decide) ?_
                refine w_goto (t := 92) gz_235_88 rfl ?_
                exact J92_1 (p6_0) (v16) (by omega) (by omega) (by omega) (by omega) (by omega) (by omega) (by omega) (by omega) (by omega) (by omega) (by omega) (by omega) (by omega) (by omega) (by omega) (by omega)
            ·
              refine w_iload gz_235_65 rfl ?_
              refine w_iload gz_235_67 rfl ?_
              refine w_icne (t := 76) gz_235_69 rfl (fun u20 => ?_) (fun u20 => ?_)
              ·
                refine w_iconst gz_235_76 (by decide) ?_
                refine w_goto (t := 92) gz_235_77 rfl ?_
                exact J92_0 (p6_0) (v16) (by omega) (by omega) (by omega) (by omega) (by omega) (by omega) (by omega) (by omega) (by omega) (by omega) (by omega) (by omega) (by omega)
              ·
                refine w_iconst gz_235_72 (by decide) ?_
                refine w_goto (t := 92) gz_235_73 rfl ?_
                exact J92_1 (p6_0) (v16) (by omega) (by omega) (by omega) (by omega) (by omega) (by omega) (by omega) (by omega) (by omega) (by omega) (by omega) (by omega) (by omega) (by omega) (by omega) (by omega)
          ·
            refine w_iload gz_235_44 rfl ?_
            refine w_iload gz_235_46 rfl ?_
            refine w_icge (t := 55) gz_235_48 rfl (fun u21 => ?_) (fun u21 => ?_)
            ·
              refine w_iconst gz_235_55 (by decide) ?_
              refine w_goto (t := 92) gz_235_56 rfl ?_
              exact J92_0 (p6_0) (v16) (by omega) (by omega) (by omega) (by omega) (by omega) (by omega) (by omega) (by omega) (by omega) (by omega) (by omega) (by omega) (by omega)
            ·
              refine w_iconst gz_235_51 (by decide) ?_
              refine w_goto (t := 92) gz_235_52 rfl ?_
              exact J92_1 (p6_0) (v16) (by omega) (by omega) (by omega) (by omega) (by omega) (by omega) (by omega) (by omega) (by omega) (by omega) (by omega) (by omega) (by omega) (by omega) (by omega) (by omega)
  refine w_iconst gz_235_0 (by decide) ?_
  refine w_istore (ls' := [(2, 151), (0, x1), (0, x2), (0, x3), (0, x4), (0, x5), (0, 0), (9, 0), (9, 0), (9, 0)]) gz_235_1 gm_235 rfl rfl rfl ?_
  refine w_iconst gz_235_3 (by decide) ?_
  refine w_istore (ls' := [(2, 151), (0, x1), (0, x2), (0, x3), (0, x4), (0, x5), (0, 0), (0, 0), (9, 0), (9, 0)]) gz_235_4 gm_235 rfl rfl rfl ?_
  exact J6_0 21 (x4) (0) (0) (by omega) (by omega) (by omega) (by omega) (by omega) (by omega) (by omega) (by omega) (by omega) (by omega)
theorem gz_240_0 : mz_pg 240 0 = some (.iconst 0, 0, 0, 0) := by decide +kernel
theorem gz_240_1 : mz_pg 240 1 = some (.istore 5, 0, 0, 0) := by decide +kernel
theorem gz_240_3 : mz_pg 240 3 = some (.iconst 0, 0, 0, 0) := by decide +kernel
theorem gz_240_4 : mz_pg 240 4 = some (.istore 6, 0, 0, 0) := by decide +kernel
theorem gz_240_6 : mz_pg 240 6 = some (.iconst 0, 0, 0, 0) := by decide +kernel
theorem gz_240_7 : mz_pg 240 7 = some (.istore 7, 0, 0, 0) := by decide +kernel
theorem gz_240_9 : mz_pg 240 9 = some (.iload 7, 0, 0, 0) := by decide +kernel
theorem gz_240_11 : mz_pg 240 11 = some (.bipush 20, 0, 0, 0) := by decide +kernel
theorem gz_240_13 : mz_pg 240 13 = some (.if_icmp .ge 87, 0, 0, 0) := by decide +kernel
theorem gz_240_16 : mz_pg 240 16 = some (.aload_n 0, 0, 0, 0) := by decide +kernel
theorem gz_240_17 : mz_pg 240 17 = some (.getfield 77, 10, 15, 1228) := by decide +kernel
theorem gz_240_20 : mz_pg 240 20 = some (.iconst 0, 0, 0, 0) := by decide +kernel
theorem gz_240_21 : mz_pg 240 21 = some (.iload_n 1, 0, 0, 0) := by decide +kernel
theorem gz_240_22 : mz_pg 240 22 = some (.iload 7, 0, 0, 0) := by decide +kernel
theorem gz_240_24 : mz_pg 240 24 = some (.invokestatic 242, 1, 150, 1429) := by decide +kernel
theorem gz_240_27 : mz_pg 240 27 = some (.baload, 0, 0, 0) := by decide +kernel
theorem gz_240_28 : mz_pg 240 28 = some (.ifCond .eq 66, 0, 0, 0) := by decide +kernel
theorem gz_240_31 : mz_pg 240 31 = some (.aload_n 0, 0, 0, 0) := by decide +kernel
theorem gz_240_32 : mz_pg 240 32 = some (.iconst 0, 0, 0, 0) := by decide +kernel
theorem gz_240_33 : mz_pg 240 33 = some (.iload_n 1, 0, 0, 0) := by decide +kernel
theorem gz_240_34 : mz_pg 240 34 = some (.iload 7, 0, 0, 0) := by decide +kernel
theorem gz_240_36 : mz_pg 240 36 = some (.iload_n 2, 0, 0, 0) := by decide +kernel
theorem gz_240_37 : mz_pg 240 37 = some (.invokevirtual 246, 1, 157, 1450) := by decide +kernel
theorem gz_240_40 : mz_pg 240 40 = some (.istore 8, 0, 0, 0) := by decide +kernel
theorem gz_240_42 : mz_pg 240 42 = some (.iload 5, 0, 0, 0) := by decide +kernel
theorem gz_240_44 : mz_pg 240 44 = some (.iload_n 3, 0, 0, 0) := by decide +kernel
theorem gz_240_45 : mz_pg 240 45 = some (.ifCond .ne 13, 0, 0, 0) := by decide +kernel
theorem gz_240_48 : mz_pg 240 48 = some (.iload 8, 0, 0, 0) := by decide +kernel
theorem gz_240_50 : mz_pg 240 50 = some (.iload 4, 0, 0, 0) := by decide +kernel
theorem gz_240_52 : mz_pg 240 52 = some (.if_icmp .ge 35, 0, 0, 0) := by decide +kernel
theorem gz_240_55 : mz_pg 240 55 = some (.goto 25, 0, 0, 0) := by decide +kernel
theorem gz_240_58 : mz_pg 240 58 = some (.iload_n 3, 0, 0, 0) := by decide +kernel
theorem gz_240_59 : mz_pg 240 59 = some (.iconst 1, 0, 0, 0) := by decide +kernel
theorem gz_240_60 : mz_pg 240 60 = some (.if_icmp .ne 13, 0, 0, 0) := by decide +kernel
theorem gz_240_63 : mz_pg 240 63 = some (.iload 8, 0, 0, 0) := by decide +kernel
theorem gz_240_65 : mz_pg 240 65 = some (.iload 4, 0, 0, 0) := by decide +kernel
theorem gz_240_67 : mz_pg 240 67 = some (.if_icmp .ne 20, 0, 0, 0) := by decide +kernel
theorem gz_240_70 : mz_pg 240 70 = some (.goto 10, 0, 0, 0) := by decide +kernel
theorem gz_240_73 : mz_pg 240 73 = some (.iload 8, 0, 0, 0) := by decide +kernel
theorem gz_240_75 : mz_pg 240 75 = some (.iload 4, 0, 0, 0) := by decide +kernel
theorem gz_240_77 : mz_pg 240 77 = some (.if_icmp .le 10, 0, 0, 0) := by decide +kernel
theorem gz_240_80 : mz_pg 240 80 = some (.iconst 1, 0, 0, 0) := by decide +kernel
theorem gz_240_81 : mz_pg 240 81 = some (.iload 6, 0, 0, 0) := by decide +kernel
theorem gz_240_83 : mz_pg 240 83 = some (.ishl, 0, 0, 0) := by decide +kernel
theorem gz_240_84 : mz_pg 240 84 = some (.goto 4, 0, 0, 0) := by decide +kernel
theorem gz_240_87 : mz_pg 240 87 = some (.iconst 0, 0, 0, 0) := by decide +kernel
theorem gz_240_88 : mz_pg 240 88 = some (.ior, 0, 0, 0) := by decide +kernel
theorem gz_240_89 : mz_pg 240 89 = some (.istore 5, 0, 0, 0) := by decide +kernel
theorem gz_240_91 : mz_pg 240 91 = some (.iinc 6 1, 0, 0, 0) := by decide +kernel
theorem gz_240_94 : mz_pg 240 94 = some (.iinc 7 1, 0, 0, 0) := by decide +kernel
theorem gz_240_97 : mz_pg 240 97 = some (.goto (-88), 0, 0, 0) := by decide +kernel
theorem gz_240_100 : mz_pg 240 100 = some (.iload 5, 0, 0, 0) := by decide +kernel
theorem gz_240_102 : mz_pg 240 102 = some (.ireturn, 0, 0, 0) := by decide +kernel
theorem gm_240 : my_mm 240 9 (some .int) 4 10 := by unfold my_mm; decide +kernel
theorem c43_Model_shownBy {l : Launch} {rho : Nat → Int32} {d : Nat} {h : my_H} {Q : my_H → my_V → Prop} {x1 x2 x3 x4 : Int} (a1 : 0 ≤ x1) (b1 : x1 ≤ 2) (a2 : 0 ≤ x2) (b2 : x2 ≤ 3) (a3 : 0 ≤ x3) (b3 : x3 ≤ 2) (a4 : 0 ≤ x4) (b4 : x4 ≤ 199) (k0 : ∀ (y : Int), Q h (0, y)) : wp l rho (d + 2) 240 0 [(2, 151), (0, x1), (0, x2), (0, x3), (0, x4), (9, 0), (9, 0), (9, 0), (9, 0)] [] h Q := by
  have J9_0 : ∀ (n : Nat) (p9_0 p9_1 p9_2 p9_3 : Int), 0 ≤ p9_0 → p9_0 ≤ 2 → 0 ≤ p9_2 → p9_2 ≤ 20 → 0 ≤ p9_3 → p9_3 ≤ 20 → p9_0 ≤ x3 → p9_2 ≤ p9_3 → x3 ≤ p9_0 → 21 - p9_3 ≤ (n : Int) → wp l rho (d + 2) 240 9 [(2, 151), (0, x1), (0, x2), (0, p9_0), (0, x4), (0, p9_1), (0, p9_2), (0, p9_3), (9, 0)] [] h Q := by
    intro n
    induction n with
    | zero => intro p9_0 p9_1 p9_2 p9_3 q0_9_0 q1_9_0 q2_9_0 q3_9_0 q4_9_0 q5_9_0 q6_9_0 q7_9_0 q8_9_0 hm_9_0; exfalso; omega
    | succ n ih_9_0 =>
      intro p9_0 p9_1 p9_2 p9_3 q0_9_0 q1_9_0 q2_9_0 q3_9_0 q4_9_0 q5_9_0 q6_9_0 q7_9_0 q8_9_0 hm_9_0
      have J94_0 : ∀ (p94_0 p94_1 p94_2 : Int), 0 ≤ p94_0 → p94_0 ≤ 2 → 0 ≤ p94_2 → p94_2 ≤ 20 → p9_3 ≤ 19 → p9_2 ≤ 19 → p94_0 ≤ p9_0 → p94_0 ≤ x3 → p94_2 ≤ (p9_3 + 1) → p94_2 ≤ (p9_2 + 1) → p9_2 ≤ p94_2 → p9_2 ≤ p9_3 → p9_0 ≤ p94_0 → p9_0 ≤ x3 → x3 ≤ p94_0 → x3 ≤ p9_0 → wp l rho (d + 2) 240 94 [(2, 151), (0, x1), (0, x2), (0, p94_0), (0, x4), (0, p94_1), (0, p94_2), (0, p9_3), (9, 0)] [] h Q := by
        intro p94_0 p94_1 p94_2 q0_94_0 q1_94_0 q2_94_0 q3_94_0 q4_94_0 q5_94_0 q6_94_0 q7_94_0 q8_94_0 q9_94_0 q10_94_0 q11_94_0 q12_94_0 q13_94_0 q14_94_0 q15_94_0
        refine w_iinc (ls' := [(2, 151), (0, x1), (0, x2), (0, p94_0), (0, x4), (0, p94_1), (0, p94_2), (0, (p9_3 + 1)), (9, 0)]) gz_240_94 rfl gm_240 rfl rfl rfl ⟨by omega, by omega⟩ ?_
        refine w_goto (t := 9) gz_240_97 rfl ?_
        exact ih_9_0 (p94_0) (p94_1) (p94_2) ((p9_3 + 1)) (by omega) (by omega) (by omega) (by omega) (by omega) (by omega) (by omega) (by omega) (by omega) (by omega)
      have J87_0 : ∀ (p87_0 p87_1 : Int), 0 ≤ p87_0 → p87_0 ≤ 2 → p9_2 ≤ 19 → p9_3 ≤ 19 → 0 ≤ p87_1 → p87_1 ≤ 19 → p87_0 ≤ p9_0 → p87_0 ≤ x3 → p9_2 ≤ p9_3 → p9_0 ≤ p87_0 → p9_0 ≤ x3 → x3 ≤ p87_0 → x3 ≤ p9_0 → wp l rho (d + 2) 240 87 [(2, 151), (0, x1), (0, x2), (0, p87_0), (0, x4), (0, p9_1), (0, p9_2), (0, p9_3), (0, p87_1)] [(0, p9_1)] h Q := by
        intro p87_0 p87_1 q0_87_0 q1_87_0 q2_87_0 q3_87_0 q4_87_0 q5_87_0 q6_87_0 q7_87_0 q8_87_0 q9_87_0 q10_87_0 q11_87_0 q12_87_0
        refine w_iconst gz_240_87 (by decide) ?_
        refine w_ianyO gz_240_88 (fun v1 pv1 qv1 => ?_)
        refine w_istore (ls' := [(2, 151), (0, x1), (0, x2), (0, p87_0), (0, x4), (0, v1), (0, p9_2), (0, p9_3), (0, p87_1)]) gz_240_89 gm_240 rfl rfl rfl ?_
        refine w_iinc (ls' := [(2, 151), (0, x1), (0, x2), (0, p87_0), (0, x4), (0, v1), (0, (p9_2 + 1)), (0, p9_3), (0, p87_1)]) gz_240_91 rfl gm_240 rfl rfl rfl ⟨by omega, by omega⟩ ?_
        refine w_weak (ls' := [(2, 151), (0, x1), (0, x2), (0, p87_0), (0, x4), (0, v1), (0, (p9_2 + 1)), (0, p9_3), (9, 0)]) (wk_e (wk_e (wk_e (wk_e (wk_e (wk_e (wk_e (wk_e (wk_9 wk_n))))))))) ?_
        exact J94_0 (p87_0) (v1) ((p9_2 + 1)) (by omega) (by omega) (by omega) (by omega) (by omega) (by omega) (by omega) (by omega) (by omega) (by omega) (by omega) (by omega) (by omega) (by omega) (by omega) (by omega)
      have J80_0 : ∀ (p80_0 p80_1 : Int), 0 ≤ p80_0 → p80_0 ≤ 2 → p9_2 ≤ 19 → p9_3 ≤ 19 → 0 ≤ p80_1 → p80_1 ≤ 19 → p80_0 ≤ (p80_1 + 1) → p80_0 ≤ p9_0 → p80_0 ≤ x3 → p9_2 ≤ p9_3 → p9_0 ≤ p80_0 → p9_0 ≤ (p80_1 + 1) → p9_0 ≤ x3 → x3 ≤ p80_0 → x3 ≤ (p80_1 + 1) → x3 ≤ p9_0 → wp l rho (d + 2) 240 80 [(2, 151), (0, x1), (0, x2), (0, p80_0), (0, x4), (0, p9_1), (0, p9_2), (0, p9_3), (0, p80_1)] [(0, p9_1)] h Q := by
        intro p80_0 p80_1 q0_80_0 q1_80_0 q2_80_0 q3_80_0 q4_80_0 q5_80_0 q6_80_0 q7_80_0 q8_80_0 q9_80_0 q10_80_0 q11_80_0 q12_80_0 q13_80_0 q14_80_0 q15_80_0
        refine w_iconst gz_240_80 (by decide) ?_
        refine w_iload gz_240_81 rfl ?_
        refine w_ianyL gz_240_83 (fun v2 pv2 qv2 => ?_)
        refine w_goto (t := 88) gz_240_84 rfl ?_
        refine w_ianyO gz_240_88 (fun v3 pv3 qv3 => ?_)
        refine w_istore (ls' := [(2, 151), (0, x1), (0, x2), (0, p80_0), (0, x4), (0, v3), (0, p9_2), (0, p9_3), (0, p80_1)]) gz_240_89 gm_240 rfl rfl rfl ?_
        refine w_iinc (ls' := [(2, 151), (0, x1), (0, x2), (0, p80_0), (0, x4), (0, v3), (0, (p9_2 + 1)), (0, p9_3), (0, p80_1)]) gz_240_91 rfl gm_240 rfl rfl rfl ⟨by omega, by omega⟩ ?_
        refine w_weak (ls' := [(2, 151), (0, x1), (0, x2), (0, p80_0), (0, x4), (0, v3), (0, (p9_2 + 1)), (0, p9_3), (9, 0)]) (wk_e (wk_e (wk_e (wk_e (wk_e (wk_e (wk_e (wk_e (wk_9 wk_n))))))))) ?_
        exact J94_0 (p80_0) (v3) ((p9_2 + 1)) (by omega) (by omega) (by omega) (by omega) (by omega) (by omega) (by omega) (by omega) (by omega) (by omega) (by omega) (by omega) (by omega) (by omega) (by omega) (by omega)
      refine w_iload gz_240_9 rfl ?_
      refine w_bipush gz_240_11 (by decide) ?_
      refine w_icge (t := 100) gz_240_13 rfl (fun u4 => ?_) (fun u4 => ?_)
      ·
        refine w_iload gz_240_100 rfl ?_
        exact w_iret gz_240_102 gm_240 (k0 (p9_1))
      ·
        refine w_aload_n gz_240_16 rfl ?_
        refine w_getX (v := 162) gz_240_17 is_151 rd_10 rfl (by decide) rfl ?_
        refine w_iconst gz_240_20 (by decide) ?_
        refine w_iload_n gz_240_21 rfl ?_
        refine w_iload gz_240_22 rfl ?_
        refine w_inS (k := 0) (as := [(0, p9_3), (0, x1), (0, 0)]) (r := [(2, 162)]) (ls0 := [(0, 0), (0, x1), (0, p9_3)]) gz_240_24 gm_150 rfl rfl rfl rfl rfl rfl ?_
        refine w_bipush gz_150_0 (by decide) ?_
        refine w_iload_n gz_150_2 rfl ?_
        refine w_imul gz_150_3 ⟨by omega, by omega⟩ ?_
        refine w_bipush gz_150_4 (by decide) ?_
        refine w_iload_n gz_150_6 rfl ?_
        refine w_imul gz_150_7 ⟨by omega, by omega⟩ ?_
        refine w_iadd gz_150_8 ⟨by omega, by omega⟩ ?_
        refine w_iload_n gz_150_9 rfl ?_
        refine w_iadd gz_150_10 ⟨by omega, by omega⟩ ?_
        refine w_iret gz_150_11 gm_150 ?_
        show wp l rho (d + 2) 240 27 [(2, 151), (0, x1), (0, x2), (0, p9_0), (0, x4), (0, p9_1), (0, p9_2), (0, p9_3), (9, 0)] [(0, (((60 * 0) + (20 * x1)) + p9_3)), (2, 162)] h Q
        refine w_bald gz_240_27 is_162 rd_61 (by omega) (by omega) (fun v6 ev6 pv6 qv6 => ?_)
        refine w_ifeq (t := 94) gz_240_28 rfl (fun u7 => ?_) (fun u7 => ?_)
        ·
          exact J94_0 (p9_0) (p9_1) (p9_2) (by omega) (by omega) (by omega) (by omega) (by omega) (by omega) (by omega) (by omega) (by omega) (by omega) (by omega) (by omega) (by omega) (by omega) (by omega) (by omega)
        ·
          refine w_aload_n gz_240_31 rfl ?_
          refine w_iconst gz_240_32 (by decide) ?_
          refine w_iload_n gz_240_33 rfl ?_
          refine w_iload gz_240_34 rfl ?_
          refine w_iload_n gz_240_36 rfl ?_
          refine w_inv (k := 0) (as := [(0, x2), (0, p9_3), (0, x1), (0, 0)]) (r := []) (x := 151) (ls0 := [(2, 151), (0, 0), (0, x1), (0, p9_3), (0, x2)]) gz_240_37 gm_157 rfl is_151 rd_10 rfl rfl rfl rfl rfl ?_
          refine w_aload_n gz_157_0 rfl ?_
          refine w_getX (v := 163) gz_157_1 is_151 rd_10 rfl (by decide) rfl ?_
          refine w_iconst gz_157_4 (by decide) ?_
          refine w_iload_n gz_157_5 rfl ?_
          refine w_iload_n gz_157_6 rfl ?_
          refine w_iload_n gz_157_7 rfl ?_
          refine w_inS (k := 0) (as := [(0, p9_3), (0, x1), (0, 0)]) (r := [(0, 4), (2, 163)]) (ls0 := [(0, 0), (0, x1), (0, p9_3)]) gz_157_8 gm_150 rfl rfl rfl rfl rfl rfl ?_
          refine w_bipush gz_150_0 (by decide) ?_
          refine w_iload_n gz_150_2 rfl ?_
          refine w_imul gz_150_3 ⟨by omega, by omega⟩ ?_
          refine w_bipush gz_150_4 (by decide) ?_
          refine w_iload_n gz_150_6 rfl ?_
          refine w_imul gz_150_7 ⟨by omega, by omega⟩ ?_
          refine w_iadd gz_150_8 ⟨by omega, by omega⟩ ?_
          refine w_iload_n gz_150_9 rfl ?_
          refine w_iadd gz_150_10 ⟨by omega, by omega⟩ ?_
          refine w_iret gz_150_11 gm_150 ?_
          show wp l rho (d + 1) 157 11 [(2, 151), (0, 0), (0, x1), (0, p9_3), (0, x2)] [(0, (((60 * 0) + (20 * x1)) + p9_3)), (0, 4), (2, 163)] h _
          refine w_imul gz_157_11 ⟨by omega, by omega⟩ ?_
          refine w_iload gz_157_12 rfl ?_
          refine w_iadd gz_157_14 ⟨by omega, by omega⟩ ?_
          refine w_iald gz_157_15 is_163 rd_62 (by omega) (by omega) (fun v9 ev9 pv9 qv9 => ?_)
          refine w_iret gz_157_16 gm_157 ?_
          show wp l rho (d + 2) 240 40 [(2, 151), (0, x1), (0, x2), (0, p9_0), (0, x4), (0, p9_1), (0, p9_2), (0, p9_3), (9, 0)] [(0, v9)] h Q
          refine w_istore (ls' := [(2, 151), (0, x1), (0, x2), (0, p9_0), (0, x4), (0, p9_1), (0, p9_2), (0, p9_3), (0, v9)]) gz_240_40 gm_240 rfl rfl rfl ?_
          refine w_iload gz_240_42 rfl ?_
          refine w_iload_n gz_240_44 rfl ?_
          refine w_ifne (t := 58) gz_240_45 rfl (fun u10 => ?_) (fun u10 => ?_)
          ·
            refine w_iload_n gz_240_58 rfl ?_
            refine w_iconst gz_240_59 (by decide) ?_
            refine w_icne (t := 73) gz_240_60 rfl (fun u11 => ?_) (fun u11 => ?_)
            ·
              refine w_iload gz_240_73 rfl ?_
              refine w_iload gz_240_75 rfl ?_
              refine w_icle (t := 87) gz_240_77 rfl (fun u12 => ?_) (fun u12 => ?_)
              ·
                exact J87_0 (p9_0) (v9) (by omega) (by omega) (by omega) (by omega) (by omega) (by omega) (by omega) (by omega) (by omega) (by omega) (by omega) (by omega) (by omega)
              ·
                exact J80_0 (p9_0) (v9) (by omega) (by omega) (by omega) (by omega) (by omega) (by omega) (by omega) (by omega) (by omega) (by omega) (by omega) (by omega) (by omega) (by omega) (by omega) (by omega)
            ·
              refine w_iload gz_240_63 rfl ?_
              refine w_iload gz_240_65 rfl ?_
              refine w_icne (t := 87) gz_240_67 rfl (fun u13 => ?_) (fun u13 => ?_)
              ·
                exact J87_0 (p9_0) (v9) (by omega) (by omega) (by omega) (by omega) (by omega) (by omega) (by omega) (by omega) (by omega) (by omega) (by omega) (by omega) (by omega)
              ·
                refine w_goto (t := 80) gz_240_70 rfl ?_
                exact J80_0 (p9_0) (v9) (by omega) (by omega) (by omega) (by omega) (by omega) (by omega) (by omega) (by omega) (by omega) (by omega) (by omega) (by omega) (by omega) (by omega) (by omega) (by omega)
          ·
            refine w_iload gz_240_48 rfl ?_
            refine w_iload gz_240_50 rfl ?_
            refine w_icge (t := 87) gz_240_52 rfl (fun u14 => ?_) (fun u14 => ?_)
            ·
              exact J87_0 (p9_0) (v9) (by omega) (by omega) (by omega) (by omega) (by omega) (by omega) (by omega) (by omega) (by omega) (by omega) (by omega) (by omega) (by omega)
            ·
              refine w_goto (t := 80) gz_240_55 rfl ?_
              exact J80_0 (p9_0) (v9) (by omega) (by omega) (by omega) (by omega) (by omega) (by omega) (by omega) (by omega) (by omega) (by omega) (by omega) (by omega) (by omega) (by omega) (by omega) (by omega)
  refine w_iconst gz_240_0 (by decide) ?_
  refine w_istore (ls' := [(2, 151), (0, x1), (0, x2), (0, x3), (0, x4), (0, 0), (9, 0), (9, 0), (9, 0)]) gz_240_1 gm_240 rfl rfl rfl ?_
  refine w_iconst gz_240_3 (by decide) ?_
  refine w_istore (ls' := [(2, 151), (0, x1), (0, x2), (0, x3), (0, x4), (0, 0), (0, 0), (9, 0), (9, 0)]) gz_240_4 gm_240 rfl rfl rfl ?_
  refine w_iconst gz_240_6 (by decide) ?_
  refine w_istore (ls' := [(2, 151), (0, x1), (0, x2), (0, x3), (0, x4), (0, 0), (0, 0), (0, 0), (9, 0)]) gz_240_7 gm_240 rfl rfl rfl ?_
  exact J9_0 21 (x3) (0) (0) (0) (by omega) (by omega) (by omega) (by omega) (by omega) (by omega) (by omega) (by omega) (by omega) (by omega)
theorem is_199 : my_is 98 199 := by unfold my_is; decide +kernel
theorem is_200 : my_is 99 200 := by unfold my_is; decide +kernel
theorem is_201 : my_is 100 201 := by unfold my_is; decide +kernel
theorem gz_193_0 : mz_pg 193 0 = some (.iload_n 1, 0, 0, 0) := by decide +kernel
theorem gz_193_1 : mz_pg 193 1 = some (.ifCond .lt 22, 0, 0, 0) := by decide +kernel
theorem gz_193_4 : mz_pg 193 4 = some (.iload_n 1, 0, 0, 0) := by decide +kernel
theorem gz_193_5 : mz_pg 193 5 = some (.bipush 6, 0, 0, 0) := by decide +kernel
theorem gz_193_7 : mz_pg 193 7 = some (.if_icmp .ge 16, 0, 0, 0) := by decide +kernel
theorem gz_193_10 : mz_pg 193 10 = some (.aload_n 0, 0, 0, 0) := by decide +kernel
theorem gz_193_11 : mz_pg 193 11 = some (.getfield 83, 10, 17, 1230) := by decide +kernel
theorem gz_193_14 : mz_pg 193 14 = some (.iload_n 1, 0, 0, 0) := by decide +kernel
theorem gz_193_15 : mz_pg 193 15 = some (.baload, 0, 0, 0) := by decide +kernel
theorem gz_193_16 : mz_pg 193 16 = some (.ifCond .eq 7, 0, 0, 0) := by decide +kernel
theorem gz_193_19 : mz_pg 193 19 = some (.iconst 1, 0, 0, 0) := by decide +kernel
theorem gz_193_20 : mz_pg 193 20 = some (.goto 4, 0, 0, 0) := by decide +kernel
theorem gz_193_23 : mz_pg 193 23 = some (.iconst 0, 0, 0, 0) := by decide +kernel
theorem gz_193_24 : mz_pg 193 24 = some (.ireturn, 0, 0, 0) := by decide +kernel
theorem gz_241_0 : mz_pg 241 0 = some (.aload_n 0, 0, 0, 0) := by decide +kernel
theorem gz_241_1 : mz_pg 241 1 = some (.iconst 0, 0, 0, 0) := by decide +kernel
theorem gz_241_2 : mz_pg 241 2 = some (.putfield 1, 10, 0, 1213) := by decide +kernel
theorem gz_241_5 : mz_pg 241 5 = some (.iload_n 1, 0, 0, 0) := by decide +kernel
theorem gz_241_6 : mz_pg 241 6 = some (.iconst 0, 0, 0, 0) := by decide +kernel
theorem gz_241_7 : mz_pg 241 7 = some (.iconst 2, 0, 0, 0) := by decide +kernel
theorem gz_241_8 : mz_pg 241 8 = some (.invokestatic 250, 1, 147, 1419) := by decide +kernel
theorem gz_241_11 : mz_pg 241 11 = some (.ifCond .eq 38, 0, 0, 0) := by decide +kernel
theorem gz_241_14 : mz_pg 241 14 = some (.iload_n 2, 0, 0, 0) := by decide +kernel
theorem gz_241_15 : mz_pg 241 15 = some (.iconst (-1), 0, 0, 0) := by decide +kernel
theorem gz_241_16 : mz_pg 241 16 = some (.if_icmp .eq 35, 0, 0, 0) := by decide +kernel
theorem gz_241_19 : mz_pg 241 19 = some (.aload_n 0, 0, 0, 0) := by decide +kernel
theorem gz_241_20 : mz_pg 241 20 = some (.iload_n 2, 0, 0, 0) := by decide +kernel
theorem gz_241_21 : mz_pg 241 21 = some (.invokevirtual 373, 1, 193, 1570) := by decide +kernel
theorem gz_241_24 : mz_pg 241 24 = some (.ifCond .eq 25, 0, 0, 0) := by decide +kernel
theorem gz_241_27 : mz_pg 241 27 = some (.iload_n 3, 0, 0, 0) := by decide +kernel
theorem gz_241_28 : mz_pg 241 28 = some (.iconst 0, 0, 0, 0) := by decide +kernel
theorem gz_241_29 : mz_pg 241 29 = some (.bipush 79, 0, 0, 0) := by decide +kernel
theorem gz_241_31 : mz_pg 241 31 = some (.invokestatic 250, 1, 147, 1419) := by decide +kernel
theorem gz_241_34 : mz_pg 241 34 = some (.ifCond .eq 15, 0, 0, 0) := by decide +kernel
theorem gz_241_37 : mz_pg 241 37 = some (.iload 4, 0, 0, 0) := by decide +kernel
theorem gz_241_39 : mz_pg 241 39 = some (.iconst 0, 0, 0, 0) := by decide +kernel
theorem gz_241_40 : mz_pg 241 40 = some (.sipush 199, 0, 0, 0) := by decide +kernel
theorem gz_241_43 : mz_pg 241 43 = some (.invokestatic 250, 1, 147, 1419) := by decide +kernel
theorem gz_241_46 : mz_pg 241 46 = some (.ifCond .ne 5, 0, 0, 0) := by decide +kernel
theorem gz_241_49 : mz_pg 241 49 = some (.iconst 0, 0, 0, 0) := by decide +kernel
theorem gz_241_50 : mz_pg 241 50 = some (.ireturn, 0, 0, 0) := by decide +kernel
theorem gz_241_51 : mz_pg 241 51 = some (.aload_n 0, 0, 0, 0) := by decide +kernel
theorem gz_241_52 : mz_pg 241 52 = some (.getfield 188, 10, 59, 1272) := by decide +kernel
theorem gz_241_55 : mz_pg 241 55 = some (.iload_n 1, 0, 0, 0) := by decide +kernel
theorem gz_241_56 : mz_pg 241 56 = some (.iload_n 2, 0, 0, 0) := by decide +kernel
theorem gz_241_57 : mz_pg 241 57 = some (.iastore, 0, 0, 0) := by decide +kernel
theorem gz_241_58 : mz_pg 241 58 = some (.aload_n 0, 0, 0, 0) := by decide +kernel
theorem gz_241_59 : mz_pg 241 59 = some (.getfield 191, 10, 60, 1273) := by decide +kernel
theorem gz_241_62 : mz_pg 241 62 = some (.iload_n 1, 0, 0, 0) := by decide +kernel
theorem gz_241_63 : mz_pg 241 63 = some (.iload_n 3, 0, 0, 0) := by decide +kernel
theorem gz_241_64 : mz_pg 241 64 = some (.iastore, 0, 0, 0) := by decide +kernel
theorem gz_241_65 : mz_pg 241 65 = some (.aload_n 0, 0, 0, 0) := by decide +kernel
theorem gz_241_66 : mz_pg 241 66 = some (.getfield 194, 10, 61, 1274) := by decide +kernel
theorem gz_241_69 : mz_pg 241 69 = some (.iload_n 1, 0, 0, 0) := by decide +kernel
theorem gz_241_70 : mz_pg 241 70 = some (.iload 4, 0, 0, 0) := by decide +kernel
theorem gz_241_72 : mz_pg 241 72 = some (.iastore, 0, 0, 0) := by decide +kernel
theorem gz_241_73 : mz_pg 241 73 = some (.iconst 1, 0, 0, 0) := by decide +kernel
theorem gz_241_74 : mz_pg 241 74 = some (.ireturn, 0, 0, 0) := by decide +kernel
theorem gm_193 : my_mm 193 2 (some .boolean) 1 10 := by unfold my_mm; decide +kernel
theorem gm_241 : my_mm 241 5 (some .boolean) 4 10 := by unfold my_mm; decide +kernel
theorem rd_98 : my_rd 98 = .inl (0, 3, [(0, -1, 5)]) := rfl
theorem rd_99 : my_rd 99 = .inl (0, 3, [(0, -2147483648, 2147483647)]) := rfl
theorem rd_100 : my_rd 100 = .inl (0, 3, [(0, -2147483648, 2147483647)]) := rfl
theorem c44_Model_clerk {l : Launch} {rho : Nat → Int32} {d : Nat} {h : my_H} {Q : my_H → my_V → Prop} {x1 x2 x3 x4 : Int} (k0 : ∀ (h' : my_H), my_fr [(10, 0), (98, -1), (99, -1), (100, -1)] h h' → h' 151 0 = 0 → Q h' (0, 0)) (k1 : ∀ (h' : my_H), my_fr [(10, 0), (98, -1), (99, -1), (100, -1)] h h' → 0 ≤ x1 → x1 ≤ 2 → (-1) ≤ x2 → x2 ≤ 5 → h' 151 0 = 0 → Q h' (0, 1)) : wp l rho (d + 1) 241 0 [(2, 151), (0, x1), (0, x2), (0, x3), (0, x4)] [] h Q := by
  have J51_0 : ∀ (h51_0 : my_H), my_fr [(10, 0), (98, -1), (99, -1), (100, -1)] h h51_0 → 0 ≤ x1 → x1 ≤ 2 → (-1) ≤ x2 → x2 ≤ 5 → h51_0 151 0 = 0 → wp l rho (d + 1) 241 51 [(2, 151), (0, x1), (0, x2), (0, x3), (0, x4)] [] h51_0 Q := by
    intro h51_0 gh_51_0 q0_51_0 q1_51_0 q2_51_0 q3_51_0 c151_0_51_0
    refine w_aload_n gz_241_51 rfl ?_
    refine w_getX (v := 199) gz_241_52 is_151 rd_10 rfl (by decide) rfl ?_
    refine w_iload_n gz_241_55 rfl ?_
    refine w_iload_n gz_241_56 rfl ?_
    refine w_iast gz_241_57 is_199 rd_98 (by omega) (by omega) (by omega) (by omega) (fun h2 fh2 => ?_)
    have gh2 : my_fr [(10, 0), (98, -1), (99, -1), (100, -1)] h h2 := my_fr.up gh_51_0 is_199 fh2 rfl
    refine w_aload_n gz_241_58 rfl ?_
    refine w_getX (v := 200) gz_241_59 is_151 rd_10 rfl (by decide) rfl ?_
    refine w_iload_n gz_241_62 rfl ?_
    refine w_iload_n gz_241_63 rfl ?_
    refine w_iastA gz_241_64 is_200 rd_99 (by omega) (by omega) (fun h4 fh4 => ?_)
    have gh4 : my_fr [(10, 0), (98, -1), (99, -1), (100, -1)] h h4 := my_fr.up gh2 is_200 fh4 rfl
    refine w_aload_n gz_241_65 rfl ?_
    refine w_getX (v := 201) gz_241_66 is_151 rd_10 rfl (by decide) rfl ?_
    refine w_iload_n gz_241_69 rfl ?_
    refine w_iload gz_241_70 rfl ?_
    refine w_iastA gz_241_72 is_201 rd_100 (by omega) (by omega) (fun h6 fh6 => ?_)
    have gh6 : my_fr [(10, 0), (98, -1), (99, -1), (100, -1)] h h6 := my_fr.up gh4 is_201 fh6 rfl
    refine w_iconst gz_241_73 (by decide) ?_
    have c7 := ((my_up_role fh6 is_151 is_201 rfl).trans ((my_up_role fh4 is_151 is_200 rfl).trans ((my_up_role fh2 is_151 is_199 rfl).trans c151_0_51_0)))
    exact w_bret gz_241_74 gm_241 (by omega) (by omega) (k1 h6 (gh6) (by omega) (by omega) (by omega) (by omega) (by omega))
  refine w_aload_n gz_241_0 rfl ?_
  refine w_iconst gz_241_1 (by decide) ?_
  refine v_putI (j := 0) gz_241_2 rfl is_151 rd_10 rfl (by omega) (by omega) rfl (fun h8 fh8 => ?_)
  have gh8 : my_fr [(10, 0), (98, -1), (99, -1), (100, -1)] h h8 := my_fr.up my_fr.rf is_151 fh8 rfl
  refine w_iload_n gz_241_5 rfl ?_
  refine w_iconst gz_241_6 (by decide) ?_
  refine w_iconst gz_241_7 (by decide) ?_
  refine w_inS (k := 0) (as := [(0, 2), (0, 0), (0, x1)]) (r := []) (ls0 := [(0, x1), (0, 0), (0, 2)]) gz_241_8 gm_147 rfl rfl rfl rfl rfl rfl ?_
  refine w_iload_n gz_147_0 rfl ?_
  refine w_iload_n gz_147_1 rfl ?_
  refine w_iclt (t := 14) gz_147_2 rfl (fun u9 => ?_) (fun u9 => ?_)
  ·
    refine w_iconst gz_147_14 (by decide) ?_
    refine w_bret gz_147_15 gm_147 (by omega) (by omega) ?_
    show wp l rho (d + 1) 241 11 [(2, 151), (0, x1), (0, x2), (0, x3), (0, x4)] [(0, 0)] h8 Q
    refine w_ifeq (t := 49) gz_241_11 rfl (fun u10 => ?_) (fun u10 => by exfalso; omega)
    refine w_iconst gz_241_49 (by decide) ?_
    have c11 := (my_up_self fh8)
    exact w_bret gz_241_50 gm_241 (by omega) (by omega) (k0 h8 (gh8) (by omega))
  ·
    refine w_iload_n gz_147_5 rfl ?_
    refine w_iload_n gz_147_6 rfl ?_
    refine w_icgt (t := 14) gz_147_7 rfl (fun u12 => ?_) (fun u12 => ?_)
    ·
      refine w_iconst gz_147_14 (by decide) ?_
      refine w_bret gz_147_15 gm_147 (by omega) (by omega) ?_
      show wp l rho (d + 1) 241 11 [(2, 151), (0, x1), (0, x2), (0, x3), (0, x4)] [(0, 0)] h8 Q
      refine w_ifeq (t := 49) gz_241_11 rfl (fun u13 => ?_) (fun u13 => by exfalso; omega)
      refine w_iconst gz_241_49 (by decide) ?_
      have c14 := (my_up_self fh8)
      exact w_bret gz_241_50 gm_241 (by omega) (by omega) (k0 h8 (gh8) (by omega))
    ·
      refine w_iconst gz_147_10 (by decide) ?_
      refine w_goto (t := 15) gz_147_11 rfl ?_
      refine w_bret gz_147_15 gm_147 (by omega) (by omega) ?_
      show wp l rho (d + 1) 241 11 [(2, 151), (0, x1), (0, x2), (0, x3), (0, x4)] [(0, 1)] h8 Q
      refine w_ifeq (t := 49) gz_241_11 rfl (fun u15 => by exfalso; omega) (fun u15 => ?_)
      refine w_iload_n gz_241_14 rfl ?_
      refine w_iconst gz_241_15 (by decide) ?_
      refine w_iceq (t := 51) gz_241_16 rfl (fun u16 => ?_) (fun u16 => ?_)
      ·
        exact J51_0 h8 (gh8) (by omega) (by omega) (by omega) (by omega) ((my_up_self fh8).trans (by omega))
      ·
        refine w_aload_n gz_241_19 rfl ?_
        refine w_iload_n gz_241_20 rfl ?_
        refine w_inv (k := 0) (as := [(0, x2)]) (r := []) (x := 151) (ls0 := [(2, 151), (0, x2)]) gz_241_21 gm_193 rfl is_151 rd_10 rfl rfl rfl rfl rfl ?_
        refine w_iload_n gz_193_0 rfl ?_
        refine w_iflt (t := 23) gz_193_1 rfl (fun u17 => ?_) (fun u17 => ?_)
        ·
          refine w_iconst gz_193_23 (by decide) ?_
          refine w_bret gz_193_24 gm_193 (by omega) (by omega) ?_
          show wp l rho (d + 1) 241 24 [(2, 151), (0, x1), (0, x2), (0, x3), (0, x4)] [(0, 0)] h8 Q
          refine w_ifeq (t := 49) gz_241_24 rfl (fun u18 => ?_) (fun u18 => by exfalso; omega)
          refine w_iconst gz_241_49 (by decide) ?_
          have c19 := (my_up_self fh8)
          exact w_bret gz_241_50 gm_241 (by omega) (by omega) (k0 h8 (gh8) (by omega))
        ·
          refine w_iload_n gz_193_4 rfl ?_
          refine w_bipush gz_193_5 (by decide) ?_
          refine w_icge (t := 23) gz_193_7 rfl (fun u20 => ?_) (fun u20 => ?_)
          ·
            refine w_iconst gz_193_23 (by decide) ?_
            refine w_bret gz_193_24 gm_193 (by omega) (by omega) ?_
            show wp l rho (d + 1) 241 24 [(2, 151), (0, x1), (0, x2), (0, x3), (0, x4)] [(0, 0)] h8 Q
            refine w_ifeq (t := 49) gz_241_24 rfl (fun u21 => ?_) (fun u21 => by exfalso; omega)
            refine w_iconst gz_241_49 (by decide) ?_
            have c22 := (my_up_self fh8)
            exact w_bret gz_241_50 gm_241 (by omega) (by omega) (k0 h8 (gh8) (by omega))
          ·
            refine w_aload_n gz_193_10 rfl ?_
            refine w_getX (v := 164) gz_193_11 is_151 rd_10 rfl (by decide) rfl ?_
            refine w_iload_n gz_193_14 rfl ?_
            refine w_bald gz_193_15 is_164 rd_63 (by omega) (by omega) (fun v24 ev24 pv24 qv24 => ?_)
            refine w_ifeq (t := 23) gz_193_16 rfl (fun u25 => ?_) (fun u25 => ?_)
            ·
              refine w_iconst gz_193_23 (by decide) ?_
              refine w_bret gz_193_24 gm_193 (by omega) (by omega) ?_
              show wp l rho (d + 1) 241 24 [(2, 151), (0, x1), (0, x2), (0, x3), (0, x4)] [(0, 0)] h8 Q
              refine w_ifeq (t := 49) gz_241_24 rfl (fun u26 => ?_) (fun u26 => by exfalso; omega)
              refine w_iconst gz_241_49 (by decide) ?_
              have c27 := (my_up_self fh8)
              exact w_bret gz_241_50 gm_241 (by omega) (by omega) (k0 h8 (gh8) (by omega))
            ·
              refine w_iconst gz_193_19 (by decide) ?_
              refine w_goto (t := 24) gz_193_20 rfl ?_
              refine w_bret gz_193_24 gm_193 (by omega) (by omega) ?_
              show wp l rho (d + 1) 241 24 [(2, 151), (0, x1), (0, x2), (0, x3), (0, x4)] [(0, 1)] h8 Q
              refine w_ifeq (t := 49) gz_241_24 rfl (fun u28 => by exfalso; omega) (fun u28 => ?_)
              refine w_iload_n gz_241_27 rfl ?_
              refine w_iconst gz_241_28 (by decide) ?_
              refine w_bipush gz_241_29 (by decide) ?_
              refine w_inS (k := 0) (as := [(0, 79), (0, 0), (0, x3)]) (r := []) (ls0 := [(0, x3), (0, 0), (0, 79)]) gz_241_31 gm_147 rfl rfl rfl rfl rfl rfl ?_
              refine w_iload_n gz_147_0 rfl ?_
              refine w_iload_n gz_147_1 rfl ?_
              refine w_iclt (t := 14) gz_147_2 rfl (fun u29 => ?_) (fun u29 => ?_)
              ·
                refine w_iconst gz_147_14 (by decide) ?_
                refine w_bret gz_147_15 gm_147 (by omega) (by omega) ?_
                show wp l rho (d + 1) 241 34 [(2, 151), (0, x1), (0, x2), (0, x3), (0, x4)] [(0, 0)] h8 Q
                refine w_ifeq (t := 49) gz_241_34 rfl (fun u30 => ?_) (fun u30 => by exfalso; omega)
                refine w_iconst gz_241_49 (by decide) ?_
                have c31 := (my_up_self fh8)
                exact w_bret gz_241_50 gm_241 (by omega) (by omega) (k0 h8 (gh8) (by omega))
              ·
                refine w_iload_n gz_147_5 rfl ?_
                refine w_iload_n gz_147_6 rfl ?_
                refine w_icgt (t := 14) gz_147_7 rfl (fun u32 => ?_) (fun u32 => ?_)
                ·
                  refine w_iconst gz_147_14 (by decide) ?_
                  refine w_bret gz_147_15 gm_147 (by omega) (by omega) ?_
                  show wp l rho (d + 1) 241 34 [(2, 151), (0, x1), (0, x2), (0, x3), (0, x4)] [(0, 0)] h8 Q
                  refine w_ifeq (t := 49) gz_241_34 rfl (fun u33 => ?_) (fun u33 => by exfalso; omega)
                  refine w_iconst gz_241_49 (by decide) ?_
                  have c34 := (my_up_self fh8)
                  exact w_bret gz_241_50 gm_241 (by omega) (by omega) (k0 h8 (gh8) (by omega))
                ·
                  refine w_iconst gz_147_10 (by decide) ?_
                  refine w_goto (t := 15) gz_147_11 rfl ?_
                  refine w_bret gz_147_15 gm_147 (by omega) (by omega) ?_
                  show wp l rho (d + 1) 241 34 [(2, 151), (0, x1), (0, x2), (0, x3), (0, x4)] [(0, 1)] h8 Q
                  refine w_ifeq (t := 49) gz_241_34 rfl (fun u35 => by exfalso; omega) (fun u35 => ?_)
                  refine w_iload gz_241_37 rfl ?_
                  refine w_iconst gz_241_39 (by decide) ?_
                  refine w_sipush gz_241_40 (by decide) ?_
                  refine w_inS (k := 0) (as := [(0, 199), (0, 0), (0, x4)]) (r := []) (ls0 := [(0, x4), (0, 0), (0, 199)]) gz_241_43 gm_147 rfl rfl rfl rfl rfl rfl ?_
                  refine w_iload_n gz_147_0 rfl ?_
                  refine w_iload_n gz_147_1 rfl ?_
                  refine w_iclt (t := 14) gz_147_2 rfl (fun u36 => ?_) (fun u36 => ?_)
                  ·
                    refine w_iconst gz_147_14 (by decide) ?_
                    refine w_bret gz_147_15 gm_147 (by omega) (by omega) ?_
                    show wp l rho (d + 1) 241 46 [(2, 151), (0, x1), (0, x2), (0, x3), (0, x4)] [(0, 0)] h8 Q
                    refine w_ifne (t := 51) gz_241_46 rfl (fun u37 => by exfalso; omega) (fun u37 => ?_)
                    refine w_iconst gz_241_49 (by decide) ?_
                    have c38 := (my_up_self fh8)
                    exact w_bret gz_241_50 gm_241 (by omega) (by omega) (k0 h8 (gh8) (by omega))
                  ·
                    refine w_iload_n gz_147_5 rfl ?_
                    refine w_iload_n gz_147_6 rfl ?_
                    refine w_icgt (t := 14) gz_147_7 rfl (fun u39 => ?_) (fun u39 => ?_)
                    ·
                      refine w_iconst gz_147_14 (by decide) ?_
                      refine w_bret gz_147_15 gm_147 (by omega) (by omega) ?_
                      show wp l rho (d + 1) 241 46 [(2, 151), (0, x1), (0, x2), (0, x3), (0, x4)] [(0, 0)] h8 Q
                      refine w_ifne (t := 51) gz_241_46 rfl (fun u40 => by exfalso; omega) (fun u40 => ?_)
                      refine w_iconst gz_241_49 (by decide) ?_
                      have c41 := (my_up_self fh8)
                      exact w_bret gz_241_50 gm_241 (by omega) (by omega) (k0 h8 (gh8) (by omega))
                    ·
                      refine w_iconst gz_147_10 (by decide) ?_
                      refine w_goto (t := 15) gz_147_11 rfl ?_
                      refine w_bret gz_147_15 gm_147 (by omega) (by omega) ?_
                      show wp l rho (d + 1) 241 46 [(2, 151), (0, x1), (0, x2), (0, x3), (0, x4)] [(0, 1)] h8 Q
                      refine w_ifne (t := 51) gz_241_46 rfl (fun u42 => ?_) (fun u42 => by exfalso; omega)
                      exact J51_0 h8 (gh8) (by omega) (by omega) (by omega) (by omega) ((my_up_self fh8).trans (by omega))
theorem gz_249_0 : mz_pg 249 0 = some (.aload_n 0, 0, 0, 0) := by decide +kernel
theorem gz_249_1 : mz_pg 249 1 = some (.iconst 0, 0, 0, 0) := by decide +kernel
theorem gz_249_2 : mz_pg 249 2 = some (.putfield 1, 10, 0, 1213) := by decide +kernel
theorem gz_249_5 : mz_pg 249 5 = some (.iload_n 1, 0, 0, 0) := by decide +kernel
theorem gz_249_6 : mz_pg 249 6 = some (.iconst 0, 0, 0, 0) := by decide +kernel
theorem gz_249_7 : mz_pg 249 7 = some (.iconst 2, 0, 0, 0) := by decide +kernel
theorem gz_249_8 : mz_pg 249 8 = some (.invokestatic 250, 1, 147, 1419) := by decide +kernel
theorem gz_249_11 : mz_pg 249 11 = some (.ifCond .eq 23, 0, 0, 0) := by decide +kernel
theorem gz_249_14 : mz_pg 249 14 = some (.aload_n 0, 0, 0, 0) := by decide +kernel
theorem gz_249_15 : mz_pg 249 15 = some (.getfield 61, 10, 10, 1223) := by decide +kernel
theorem gz_249_18 : mz_pg 249 18 = some (.iload_n 1, 0, 0, 0) := by decide +kernel
theorem gz_249_19 : mz_pg 249 19 = some (.iaload, 0, 0, 0) := by decide +kernel
theorem gz_249_20 : mz_pg 249 20 = some (.ifCond .ne 7, 0, 0, 0) := by decide +kernel
theorem gz_249_23 : mz_pg 249 23 = some (.iconst (-1), 0, 0, 0) := by decide +kernel
theorem gz_249_24 : mz_pg 249 24 = some (.goto 9, 0, 0, 0) := by decide +kernel
theorem gz_249_27 : mz_pg 249 27 = some (.aload_n 0, 0, 0, 0) := by decide +kernel
theorem gz_249_28 : mz_pg 249 28 = some (.iconst 0, 0, 0, 0) := by decide +kernel
theorem gz_249_29 : mz_pg 249 29 = some (.iload_n 1, 0, 0, 0) := by decide +kernel
theorem gz_249_30 : mz_pg 249 30 = some (.invokevirtual 267, 1, 151, 1432) := by decide +kernel
theorem gz_249_33 : mz_pg 249 33 = some (.ireturn, 0, 0, 0) := by decide +kernel
theorem gz_249_34 : mz_pg 249 34 = some (.iconst 0, 0, 0, 0) := by decide +kernel
theorem gz_249_35 : mz_pg 249 35 = some (.istore_n 2, 0, 0, 0) := by decide +kernel
theorem gz_249_36 : mz_pg 249 36 = some (.iload_n 1, 0, 0, 0) := by decide +kernel
theorem gz_249_37 : mz_pg 249 37 = some (.tableswitch 127 3 5 #[27, 60, 65], 0, 0, 0) := by decide +kernel
theorem gz_249_64 : mz_pg 249 64 = some (.iconst 0, 0, 0, 0) := by decide +kernel
theorem gz_249_65 : mz_pg 249 65 = some (.istore_n 3, 0, 0, 0) := by decide +kernel
theorem gz_249_66 : mz_pg 249 66 = some (.iload_n 3, 0, 0, 0) := by decide +kernel
theorem gz_249_67 : mz_pg 249 67 = some (.bipush 6, 0, 0, 0) := by decide +kernel
theorem gz_249_69 : mz_pg 249 69 = some (.if_icmp .ge 26, 0, 0, 0) := by decide +kernel
theorem gz_249_72 : mz_pg 249 72 = some (.iload_n 2, 0, 0, 0) := by decide +kernel
theorem gz_249_73 : mz_pg 249 73 = some (.aload_n 0, 0, 0, 0) := by decide +kernel
theorem gz_249_74 : mz_pg 249 74 = some (.getfield 83, 10, 17, 1230) := by decide +kernel
theorem gz_249_77 : mz_pg 249 77 = some (.iload_n 3, 0, 0, 0) := by decide +kernel
theorem gz_249_78 : mz_pg 249 78 = some (.baload, 0, 0, 0) := by decide +kernel
theorem gz_249_79 : mz_pg 249 79 = some (.ifCond .eq 7, 0, 0, 0) := by decide +kernel
theorem gz_249_82 : mz_pg 249 82 = some (.iconst 1, 0, 0, 0) := by decide +kernel
theorem gz_249_83 : mz_pg 249 83 = some (.goto 4, 0, 0, 0) := by decide +kernel
theorem gz_249_86 : mz_pg 249 86 = some (.iconst 0, 0, 0, 0) := by decide +kernel
theorem gz_249_87 : mz_pg 249 87 = some (.iadd, 0, 0, 0) := by decide +kernel
theorem gz_249_88 : mz_pg 249 88 = some (.istore_n 2, 0, 0, 0) := by decide +kernel
theorem gz_249_89 : mz_pg 249 89 = some (.iinc 3 1, 0, 0, 0) := by decide +kernel
theorem gz_249_92 : mz_pg 249 92 = some (.goto (-26), 0, 0, 0) := by decide +kernel
theorem gz_249_95 : mz_pg 249 95 = some (.iload_n 2, 0, 0, 0) := by decide +kernel
theorem gz_249_96 : mz_pg 249 96 = some (.ireturn, 0, 0, 0) := by decide +kernel
theorem gz_249_97 : mz_pg 249 97 = some (.aload_n 0, 0, 0, 0) := by decide +kernel
theorem gz_249_98 : mz_pg 249 98 = some (.getfield 11, 10, 2, 1215) := by decide +kernel
theorem gz_249_101 : mz_pg 249 101 = some (.ireturn, 0, 0, 0) := by decide +kernel
theorem gz_249_102 : mz_pg 249 102 = some (.iconst 0, 0, 0, 0) := by decide +kernel
theorem gz_249_103 : mz_pg 249 103 = some (.istore_n 3, 0, 0, 0) := by decide +kernel
theorem gz_249_104 : mz_pg 249 104 = some (.iload_n 3, 0, 0, 0) := by decide +kernel
theorem gz_249_105 : mz_pg 249 105 = some (.bipush 60, 0, 0, 0) := by decide +kernel
theorem gz_249_107 : mz_pg 249 107 = some (.if_icmp .ge 55, 0, 0, 0) := by decide +kernel
theorem gz_249_110 : mz_pg 249 110 = some (.iconst 0, 0, 0, 0) := by decide +kernel
theorem gz_249_111 : mz_pg 249 111 = some (.istore 4, 0, 0, 0) := by decide +kernel
theorem gz_249_113 : mz_pg 249 113 = some (.iload 4, 0, 0, 0) := by decide +kernel
theorem gz_249_115 : mz_pg 249 115 = some (.aload_n 0, 0, 0, 0) := by decide +kernel
theorem gz_249_116 : mz_pg 249 116 = some (.getfield 61, 10, 10, 1223) := by decide +kernel
theorem gz_249_119 : mz_pg 249 119 = some (.iload_n 3, 0, 0, 0) := by decide +kernel
theorem gz_249_120 : mz_pg 249 120 = some (.bipush 20, 0, 0, 0) := by decide +kernel
theorem gz_249_122 : mz_pg 249 122 = some (.idiv, 0, 0, 0) := by decide +kernel
theorem gz_249_123 : mz_pg 249 123 = some (.iaload, 0, 0, 0) := by decide +kernel
theorem gz_249_124 : mz_pg 249 124 = some (.if_icmp .ge 32, 0, 0, 0) := by decide +kernel
theorem gz_249_127 : mz_pg 249 127 = some (.aload_n 0, 0, 0, 0) := by decide +kernel
theorem gz_249_128 : mz_pg 249 128 = some (.getfield 77, 10, 15, 1228) := by decide +kernel
theorem gz_249_131 : mz_pg 249 131 = some (.iload_n 3, 0, 0, 0) := by decide +kernel
theorem gz_249_132 : mz_pg 249 132 = some (.baload, 0, 0, 0) := by decide +kernel
theorem gz_249_133 : mz_pg 249 133 = some (.ifCond .eq 23, 0, 0, 0) := by decide +kernel
theorem gz_249_136 : mz_pg 249 136 = some (.iload_n 2, 0, 0, 0) := by decide +kernel
theorem gz_249_137 : mz_pg 249 137 = some (.aload_n 0, 0, 0, 0) := by decide +kernel
theorem gz_249_138 : mz_pg 249 138 = some (.getfield 80, 10, 16, 1229) := by decide +kernel
theorem gz_249_141 : mz_pg 249 141 = some (.iconst 4, 0, 0, 0) := by decide +kernel
theorem gz_249_142 : mz_pg 249 142 = some (.iload_n 3, 0, 0, 0) := by decide +kernel
theorem gz_249_143 : mz_pg 249 143 = some (.imul, 0, 0, 0) := by decide +kernel
theorem gz_249_144 : mz_pg 249 144 = some (.iload 4, 0, 0, 0) := by decide +kernel
theorem gz_249_146 : mz_pg 249 146 = some (.iadd, 0, 0, 0) := by decide +kernel
theorem gz_249_147 : mz_pg 249 147 = some (.iaload, 0, 0, 0) := by decide +kernel
theorem gz_249_148 : mz_pg 249 148 = some (.iadd, 0, 0, 0) := by decide +kernel
theorem gz_249_149 : mz_pg 249 149 = some (.istore_n 2, 0, 0, 0) := by decide +kernel
theorem gz_249_150 : mz_pg 249 150 = some (.iinc 4 1, 0, 0, 0) := by decide +kernel
theorem gz_249_153 : mz_pg 249 153 = some (.goto (-40), 0, 0, 0) := by decide +kernel
theorem gz_249_156 : mz_pg 249 156 = some (.iinc 3 1, 0, 0, 0) := by decide +kernel
theorem gz_249_159 : mz_pg 249 159 = some (.goto (-55), 0, 0, 0) := by decide +kernel
theorem gz_249_162 : mz_pg 249 162 = some (.iload_n 2, 0, 0, 0) := by decide +kernel
theorem gz_249_163 : mz_pg 249 163 = some (.ireturn, 0, 0, 0) := by decide +kernel
theorem gz_249_164 : mz_pg 249 164 = some (.iconst (-1), 0, 0, 0) := by decide +kernel
theorem gz_249_165 : mz_pg 249 165 = some (.ireturn, 0, 0, 0) := by decide +kernel
theorem gm_249 : my_mm 249 5 (some .int) 1 10 := by unfold my_mm; decide +kernel
theorem c45_Model_count {l : Launch} {rho : Nat → Int32} {d : Nat} {h : my_H} {Q : my_H → my_V → Prop} {x1 : Int} (k0 : ∀ (h' : my_H), my_fr [(10, 0)] h h' → h' 151 0 = 0 → Q h' (0, (-1))) (k1 : ∀ (h' : my_H) (y : Int), my_fr [(10, 0)] h h' → 0 ≤ x1 → x1 ≤ 5 → h' 151 0 = 0 → Q h' (0, y)) : wp l rho (d + 2) 249 0 [(2, 151), (0, x1), (9, 0), (9, 0), (9, 0)] [] h Q := by
  have J66_0 : ∀ (n : Nat) (p66_0 p66_1 : Int) (h66_0 : my_H), my_fr [(10, 0)] h h66_0 → 0 ≤ p66_0 → p66_0 ≤ 6 → 0 ≤ p66_1 → p66_1 ≤ 6 → 3 ≤ x1 → x1 ≤ 3 → p66_0 ≤ p66_1 → h66_0 151 0 = 0 → 7 - p66_1 ≤ (n : Int) → wp l rho (d + 2) 249 66 [(2, 151), (0, 3), (0, p66_0), (0, p66_1), (9, 0)] [] h66_0 Q := by
    intro n
    induction n with
    | zero => intro p66_0 p66_1 h66_0 gh_66_0 q0_66_0 q1_66_0 q2_66_0 q3_66_0 q4_66_0 q5_66_0 q6_66_0 c151_0_66_0 hm_66_0; exfalso; omega
    | succ n ih_66_0 =>
      intro p66_0 p66_1 h66_0 gh_66_0 q0_66_0 q1_66_0 q2_66_0 q3_66_0 q4_66_0 q5_66_0 q6_66_0 c151_0_66_0 hm_66_0
      refine w_iload_n gz_249_66 rfl ?_
      refine w_bipush gz_249_67 (by decide) ?_
      refine w_icge (t := 95) gz_249_69 rfl (fun u1 => ?_) (fun u1 => ?_)
      ·
        refine w_iload_n gz_249_95 rfl ?_
        have c2 := c151_0_66_0
        exact w_iret gz_249_96 gm_249 (k1 h66_0 (p66_0) (gh_66_0) (by omega) (by omega) (by omega))
      ·
        refine w_iload_n gz_249_72 rfl ?_
        refine w_aload_n gz_249_73 rfl ?_
        refine w_getX (v := 164) gz_249_74 is_151 rd_10 rfl (by decide) rfl ?_
        refine w_iload_n gz_249_77 rfl ?_
        refine w_bald gz_249_78 is_164 rd_63 (by omega) (by omega) (fun v4 ev4 pv4 qv4 => ?_)
        refine w_ifeq (t := 86) gz_249_79 rfl (fun u5 => ?_) (fun u5 => ?_)
        ·
          refine w_iconst gz_249_86 (by decide) ?_
          refine w_iadd gz_249_87 ⟨by omega, by omega⟩ ?_
          refine w_istore_n (ls' := [(2, 151), (0, 3), (0, (p66_0 + 0)), (0, p66_1), (9, 0)]) gz_249_88 gm_249 rfl rfl rfl ?_
          refine w_iinc (ls' := [(2, 151), (0, 3), (0, (p66_0 + 0)), (0, (p66_1 + 1)), (9, 0)]) gz_249_89 rfl gm_249 rfl rfl rfl ⟨by omega, by omega⟩ ?_
          refine w_goto (t := 66) gz_249_92 rfl ?_
          exact ih_66_0 ((p66_0 + 0)) ((p66_1 + 1)) h66_0 (gh_66_0) (by omega) (by omega) (by omega) (by omega) (by omega) (by omega) (by omega) (c151_0_66_0.trans (by omega)) (by omega)
        ·
          refine w_iconst gz_249_82 (by decide) ?_
          refine w_goto (t := 87) gz_249_83 rfl ?_
          refine w_iadd gz_249_87 ⟨by omega, by omega⟩ ?_
          refine w_istore_n (ls' := [(2, 151), (0, 3), (0, (p66_0 + 1)), (0, p66_1), (9, 0)]) gz_249_88 gm_249 rfl rfl rfl ?_
          refine w_iinc (ls' := [(2, 151), (0, 3), (0, (p66_0 + 1)), (0, (p66_1 + 1)), (9, 0)]) gz_249_89 rfl gm_249 rfl rfl rfl ⟨by omega, by omega⟩ ?_
          refine w_goto (t := 66) gz_249_92 rfl ?_
          exact ih_66_0 ((p66_0 + 1)) ((p66_1 + 1)) h66_0 (gh_66_0) (by omega) (by omega) (by omega) (by omega) (by omega) (by omega) (by omega) (c151_0_66_0.trans (by omega)) (by omega)
  have J104_0 : ∀ (n : Nat) (p104_0 p104_1 : Int) (h104_0 : my_H), my_fr [(10, 0)] h h104_0 → 0 ≤ p104_1 → p104_1 ≤ 60 → 5 ≤ x1 → x1 ≤ 5 → h104_0 151 0 = 0 → 61 - p104_1 ≤ (n : Int) → wp l rho (d + 2) 249 104 [(2, 151), (0, 5), (0, p104_0), (0, p104_1), (9, 0)] [] h104_0 Q := by
    intro n
    induction n with
    | zero => intro p104_0 p104_1 h104_0 gh_104_0 q0_104_0 q1_104_0 q2_104_0 q3_104_0 c151_0_104_0 hm_104_0; exfalso; omega
    | succ n ih_104_0 =>
      intro p104_0 p104_1 h104_0 gh_104_0 q0_104_0 q1_104_0 q2_104_0 q3_104_0 c151_0_104_0 hm_104_0
      have J156_0 : ∀ (p156_0 p156_1 : Int) (h156_0 : my_H), my_fr [(10, 0)] h h156_0 → p104_1 ≤ 59 → 0 ≤ p156_1 → p156_1 ≤ 4 → h156_0 151 0 = 0 → wp l rho (d + 2) 249 156 [(2, 151), (0, 5), (0, p156_0), (0, p104_1), (0, p156_1)] [] h156_0 Q := by
        intro p156_0 p156_1 h156_0 gh_156_0 q0_156_0 q1_156_0 q2_156_0 c151_0_156_0
        refine w_iinc (ls' := [(2, 151), (0, 5), (0, p156_0), (0, (p104_1 + 1)), (0, p156_1)]) gz_249_156 rfl gm_249 rfl rfl rfl ⟨by omega, by omega⟩ ?_
        refine w_goto (t := 104) gz_249_159 rfl ?_
        refine w_weak (ls' := [(2, 151), (0, 5), (0, p156_0), (0, (p104_1 + 1)), (9, 0)]) (wk_e (wk_e (wk_e (wk_e (wk_9 wk_n))))) ?_
        exact ih_104_0 (p156_0) ((p104_1 + 1)) h156_0 (gh_156_0) (by omega) (by omega) (by omega) (by omega) (c151_0_156_0.trans (by omega)) (by omega)
      have J113_0 : ∀ (n : Nat) (p113_0 p113_1 : Int) (h113_0 : my_H), my_fr [(10, 0)] h h113_0 → p104_1 ≤ 59 → 0 ≤ p113_1 → p113_1 ≤ 4 → h113_0 151 0 = 0 → 5 - p113_1 ≤ (n : Int) → wp l rho (d + 2) 249 113 [(2, 151), (0, 5), (0, p113_0), (0, p104_1), (0, p113_1)] [] h113_0 Q := by
        intro n
        induction n with
        | zero => intro p113_0 p113_1 h113_0 gh_113_0 q0_113_0 q1_113_0 q2_113_0 c151_0_113_0 hm_113_0; exfalso; omega
        | succ n ih_113_0 =>
          intro p113_0 p113_1 h113_0 gh_113_0 q0_113_0 q1_113_0 q2_113_0 c151_0_113_0 hm_113_0
          refine w_iload gz_249_113 rfl ?_
          refine w_aload_n gz_249_115 rfl ?_
          refine w_getX (v := 157) gz_249_116 is_151 rd_10 rfl (by decide) rfl ?_
          refine w_iload_n gz_249_119 rfl ?_
          refine w_bipush gz_249_120 (by decide) ?_
          refine w_idiv gz_249_122 (by omega) (by decide) ?_
          refine w_iald gz_249_123 is_157 rd_56 (by omega) (by omega) (fun v7 ev7 pv7 qv7 => ?_)
          refine w_icge (t := 156) gz_249_124 rfl (fun u8 => ?_) (fun u8 => ?_)
          ·
            exact J156_0 (p113_0) (p113_1) h113_0 (gh_113_0) (by omega) (by omega) (by omega) (c151_0_113_0.trans (by omega))
          ·
            refine w_aload_n gz_249_127 rfl ?_
            refine w_getX (v := 162) gz_249_128 is_151 rd_10 rfl (by decide) rfl ?_
            refine w_iload_n gz_249_131 rfl ?_
            refine w_bald gz_249_132 is_162 rd_61 (by omega) (by omega) (fun v10 ev10 pv10 qv10 => ?_)
            refine w_ifeq (t := 156) gz_249_133 rfl (fun u11 => ?_) (fun u11 => ?_)
            ·
              exact J156_0 (p113_0) (p113_1) h113_0 (gh_113_0) (by omega) (by omega) (by omega) (c151_0_113_0.trans (by omega))
            ·
              refine w_iload_n gz_249_136 rfl ?_
              refine w_aload_n gz_249_137 rfl ?_
              refine w_getX (v := 163) gz_249_138 is_151 rd_10 rfl (by decide) rfl ?_
              refine w_iconst gz_249_141 (by decide) ?_
              refine w_iload_n gz_249_142 rfl ?_
              refine w_imul gz_249_143 ⟨by omega, by omega⟩ ?_
              refine w_iload gz_249_144 rfl ?_
              refine w_iadd gz_249_146 ⟨by omega, by omega⟩ ?_
              refine w_iald gz_249_147 is_163 rd_62 (by omega) (by omega) (fun v13 ev13 pv13 qv13 => ?_)
              refine w_ianyA gz_249_148 (fun v14 pv14 qv14 => ?_)
              refine w_istore_n (ls' := [(2, 151), (0, 5), (0, v14), (0, p104_1), (0, p113_1)]) gz_249_149 gm_249 rfl rfl rfl ?_
              refine w_iinc (ls' := [(2, 151), (0, 5), (0, v14), (0, p104_1), (0, (p113_1 + 1))]) gz_249_150 rfl gm_249 rfl rfl rfl ⟨by omega, by omega⟩ ?_
              refine w_goto (t := 113) gz_249_153 rfl ?_
              exact ih_113_0 (v14) ((p113_1 + 1)) h113_0 (gh_113_0) (by omega) (by omega) (by omega) (c151_0_113_0.trans (by omega)) (by omega)
      refine w_iload_n gz_249_104 rfl ?_
      refine w_bipush gz_249_105 (by decide) ?_
      refine w_icge (t := 162) gz_249_107 rfl (fun u15 => ?_) (fun u15 => ?_)
      ·
        refine w_iload_n gz_249_162 rfl ?_
        have c16 := c151_0_104_0
        exact w_iret gz_249_163 gm_249 (k1 h104_0 (p104_0) (gh_104_0) (by omega) (by omega) (by omega))
      ·
        refine w_iconst gz_249_110 (by decide) ?_
        refine w_istore (ls' := [(2, 151), (0, 5), (0, p104_0), (0, p104_1), (0, 0)]) gz_249_111 gm_249 rfl rfl rfl ?_
        exact J113_0 5 (p104_0) (0) h104_0 (gh_104_0) (by omega) (by omega) (by omega) (c151_0_104_0.trans (by omega)) (by omega)
  refine w_aload_n gz_249_0 rfl ?_
  refine w_iconst gz_249_1 (by decide) ?_
  refine v_putI (j := 0) gz_249_2 rfl is_151 rd_10 rfl (by omega) (by omega) rfl (fun h17 fh17 => ?_)
  have gh17 : my_fr [(10, 0)] h h17 := my_fr.up my_fr.rf is_151 fh17 rfl
  refine w_iload_n gz_249_5 rfl ?_
  refine w_iconst gz_249_6 (by decide) ?_
  refine w_iconst gz_249_7 (by decide) ?_
  refine w_inS (k := 0) (as := [(0, 2), (0, 0), (0, x1)]) (r := []) (ls0 := [(0, x1), (0, 0), (0, 2)]) gz_249_8 gm_147 rfl rfl rfl rfl rfl rfl ?_
  refine w_iload_n gz_147_0 rfl ?_
  refine w_iload_n gz_147_1 rfl ?_
  refine w_iclt (t := 14) gz_147_2 rfl (fun u18 => ?_) (fun u18 => ?_)
  ·
    refine w_iconst gz_147_14 (by decide) ?_
    refine w_bret gz_147_15 gm_147 (by omega) (by omega) ?_
    show wp l rho (d + 2) 249 11 [(2, 151), (0, x1), (9, 0), (9, 0), (9, 0)] [(0, 0)] h17 Q
    refine w_ifeq (t := 34) gz_249_11 rfl (fun u19 => ?_) (fun u19 => by exfalso; omega)
    refine w_iconst gz_249_34 (by decide) ?_
    refine w_istore_n (ls' := [(2, 151), (0, x1), (0, 0), (9, 0), (9, 0)]) gz_249_35 gm_249 rfl rfl rfl ?_
    refine w_iload_n gz_249_36 rfl ?_
    refine w_tswD (t := 164) gz_249_37 (by omega) rfl ?_
    refine w_iconst gz_249_164 (by decide) ?_
    have c20 := (my_up_self fh17)
    exact w_iret gz_249_165 gm_249 (k0 h17 (gh17) (by omega))
  ·
    refine w_iload_n gz_147_5 rfl ?_
    refine w_iload_n gz_147_6 rfl ?_
    refine w_icgt (t := 14) gz_147_7 rfl (fun u21 => ?_) (fun u21 => ?_)
    ·
      refine w_iconst gz_147_14 (by decide) ?_
      refine w_bret gz_147_15 gm_147 (by omega) (by omega) ?_
      show wp l rho (d + 2) 249 11 [(2, 151), (0, x1), (9, 0), (9, 0), (9, 0)] [(0, 0)] h17 Q
      refine w_ifeq (t := 34) gz_249_11 rfl (fun u22 => ?_) (fun u22 => by exfalso; omega)
      refine w_iconst gz_249_34 (by decide) ?_
      refine w_istore_n (ls' := [(2, 151), (0, x1), (0, 0), (9, 0), (9, 0)]) gz_249_35 gm_249 rfl rfl rfl ?_
      refine w_iload_n gz_249_36 rfl ?_
      by_cases u23 : x1 = 3
      ·
        refine w_tswE (t := 64) gz_249_37 u23 (by decide) (by decide) rfl rfl ?_
        refine w_iconst gz_249_64 (by decide) ?_
        refine w_istore_n (ls' := [(2, 151), (0, x1), (0, 0), (0, 0), (9, 0)]) gz_249_65 gm_249 rfl rfl rfl ?_
        rw [show (x1 : Int) = 3 from by omega]
        exact J66_0 7 (0) (0) h17 (gh17) (by omega) (by omega) (by omega) (by omega) (by omega) (by omega) (by omega) ((my_up_self fh17).trans (by omega)) (by omega)
      ·
        by_cases u24 : x1 = 4
        ·
          refine w_tswE (t := 97) gz_249_37 u24 (by decide) (by decide) rfl rfl ?_
          refine w_aload_n gz_249_97 rfl ?_
          refine v_getI (j := 2) gz_249_98 rfl is_151 rd_10 rfl (fun v25 ev25 pv25 qv25 => ?_)
          have c26 := (my_up_self fh17)
          exact w_iret gz_249_101 gm_249 (k1 h17 (v25) (gh17) (by omega) (by omega) (by omega))
        ·
          by_cases u27 : x1 = 5
          ·
            refine w_tswE (t := 102) gz_249_37 u27 (by decide) (by decide) rfl rfl ?_
            refine w_iconst gz_249_102 (by decide) ?_
            refine w_istore_n (ls' := [(2, 151), (0, x1), (0, 0), (0, 0), (9, 0)]) gz_249_103 gm_249 rfl rfl rfl ?_
            rw [show (x1 : Int) = 5 from by omega]
            exact J104_0 61 (0) (0) h17 (gh17) (by omega) (by omega) (by omega) (by omega) ((my_up_self fh17).trans (by omega)) (by omega)
          ·
            refine w_tswD (t := 164) gz_249_37 (by omega) rfl ?_
            refine w_iconst gz_249_164 (by decide) ?_
            have c28 := (my_up_self fh17)
            exact w_iret gz_249_165 gm_249 (k0 h17 (gh17) (by omega))
    ·
      refine w_iconst gz_147_10 (by decide) ?_
      refine w_goto (t := 15) gz_147_11 rfl ?_
      refine w_bret gz_147_15 gm_147 (by omega) (by omega) ?_
      show wp l rho (d + 2) 249 11 [(2, 151), (0, x1), (9, 0), (9, 0), (9, 0)] [(0, 1)] h17 Q
      refine w_ifeq (t := 34) gz_249_11 rfl (fun u29 => by exfalso; omega) (fun u29 => ?_)
      refine w_aload_n gz_249_14 rfl ?_
      refine w_getX (v := 157) gz_249_15 is_151 rd_10 rfl (by decide) rfl ?_
      refine w_iload_n gz_249_18 rfl ?_
      refine w_iald gz_249_19 is_157 rd_56 (by omega) (by omega) (fun v31 ev31 pv31 qv31 => ?_)
      refine w_ifne (t := 27) gz_249_20 rfl (fun u32 => ?_) (fun u32 => ?_)
      ·
        refine w_aload_n gz_249_27 rfl ?_
        refine w_iconst gz_249_28 (by decide) ?_
        refine w_iload_n gz_249_29 rfl ?_
        refine w_inv (k := 2) (as := [(0, x1), (0, 0)]) (r := []) (x := 151) (ls0 := [(2, 151), (0, 0), (0, x1), (9, 0), (9, 0)]) gz_249_30 gm_151 rfl is_151 rd_10 rfl rfl rfl rfl rfl (c14_Model_rowsOf (d := d) (x1 := 0) (x2 := x1) (by omega) (by omega) (by omega) (by omega) (fun v33 w34 w35 => ?_))
        show wp l rho (d + 2) 249 33 [(2, 151), (0, x1), (9, 0), (9, 0), (9, 0)] [(0, v33)] h17 Q
        have c36 := (my_up_self fh17)
        exact w_iret gz_249_33 gm_249 (k1 h17 (v33) (gh17) (by omega) (by omega) (by omega))
      ·
        refine w_iconst gz_249_23 (by decide) ?_
        refine w_goto (t := 33) gz_249_24 rfl ?_
        have c37 := (my_up_self fh17)
        exact w_iret gz_249_33 gm_249 (k0 h17 (gh17) (by omega))
theorem is_3 : my_is 26 3 := by unfold my_is; decide +kernel
theorem is_4 : my_is 27 4 := by unfold my_is; decide +kernel
theorem is_7 : my_is 6 7 := by unfold my_is; decide +kernel
theorem gz_26_0 : mz_pg 26 0 = some (.aload_n 0, 0, 0, 0) := by decide +kernel
theorem gz_26_1 : mz_pg 26 1 = some (.getfield 10, 9, 0, 528) := by decide +kernel
theorem gz_26_4 : mz_pg 26 4 = some (.iload_n 1, 0, 0, 0) := by decide +kernel
theorem gz_26_5 : mz_pg 26 5 = some (.iload_n 2, 0, 0, 0) := by decide +kernel
theorem gz_26_6 : mz_pg 26 6 = some (.invokevirtual 118, 1, 27, 634) := by decide +kernel
theorem gz_26_9 : mz_pg 26 9 = some (.ifCond .eq 27, 0, 0, 0) := by decide +kernel
theorem gz_26_12 : mz_pg 26 12 = some (.iload_n 3, 0, 0, 0) := by decide +kernel
theorem gz_26_13 : mz_pg 26 13 = some (.iload 4, 0, 0, 0) := by decide +kernel
theorem gz_26_15 : mz_pg 26 15 = some (.invokestatic 119, 1, 28, 639) := by decide +kernel
theorem gz_26_18 : mz_pg 26 18 = some (.ifCond .eq 18, 0, 0, 0) := by decide +kernel
theorem gz_26_21 : mz_pg 26 21 = some (.aload_n 0, 0, 0, 0) := by decide +kernel
theorem gz_26_22 : mz_pg 26 22 = some (.getfield 19, 9, 1, 529) := by decide +kernel
theorem gz_26_25 : mz_pg 26 25 = some (.iload_n 1, 0, 0, 0) := by decide +kernel
theorem gz_26_26 : mz_pg 26 26 = some (.iload_n 2, 0, 0, 0) := by decide +kernel
theorem gz_26_27 : mz_pg 26 27 = some (.iload_n 3, 0, 0, 0) := by decide +kernel
theorem gz_26_28 : mz_pg 26 28 = some (.iload 4, 0, 0, 0) := by decide +kernel
theorem gz_26_30 : mz_pg 26 30 = some (.invokevirtual 122, 1, 20, 642) := by decide +kernel
theorem gz_26_33 : mz_pg 26 33 = some (.ifCond .le 5, 0, 0, 0) := by decide +kernel
theorem gz_26_36 : mz_pg 26 36 = some (.iconst 0, 0, 0, 0) := by decide +kernel
theorem gz_26_37 : mz_pg 26 37 = some (.ireturn, 0, 0, 0) := by decide +kernel
theorem gz_26_38 : mz_pg 26 38 = some (.aload_n 0, 0, 0, 0) := by decide +kernel
theorem gz_26_39 : mz_pg 26 39 = some (.getfield 10, 9, 0, 528) := by decide +kernel
theorem gz_26_42 : mz_pg 26 42 = some (.getfield 126, 3, 1, 150) := by decide +kernel
theorem gz_26_45 : mz_pg 26 45 = some (.iload_n 1, 0, 0, 0) := by decide +kernel
theorem gz_26_46 : mz_pg 26 46 = some (.iload_n 2, 0, 0, 0) := by decide +kernel
theorem gz_26_47 : mz_pg 26 47 = some (.invokestatic 129, 1, 29, 643) := by decide +kernel
theorem gz_26_50 : mz_pg 26 50 = some (.iload_n 3, 0, 0, 0) := by decide +kernel
theorem gz_26_51 : mz_pg 26 51 = some (.iastore, 0, 0, 0) := by decide +kernel
theorem gz_26_52 : mz_pg 26 52 = some (.aload_n 0, 0, 0, 0) := by decide +kernel
theorem gz_26_53 : mz_pg 26 53 = some (.getfield 10, 9, 0, 528) := by decide +kernel
theorem gz_26_56 : mz_pg 26 56 = some (.getfield 133, 3, 2, 152) := by decide +kernel
theorem gz_26_59 : mz_pg 26 59 = some (.iload_n 1, 0, 0, 0) := by decide +kernel
theorem gz_26_60 : mz_pg 26 60 = some (.iload_n 2, 0, 0, 0) := by decide +kernel
theorem gz_26_61 : mz_pg 26 61 = some (.invokestatic 129, 1, 29, 643) := by decide +kernel
theorem gz_26_64 : mz_pg 26 64 = some (.iload 4, 0, 0, 0) := by decide +kernel
theorem gz_26_66 : mz_pg 26 66 = some (.iastore, 0, 0, 0) := by decide +kernel
theorem gz_26_67 : mz_pg 26 67 = some (.iconst 1, 0, 0, 0) := by decide +kernel
theorem gz_26_68 : mz_pg 26 68 = some (.ireturn, 0, 0, 0) := by decide +kernel
theorem gz_27_0 : mz_pg 27 0 = some (.aload_n 0, 0, 0, 0) := by decide +kernel
theorem gz_27_1 : mz_pg 27 1 = some (.iload_n 1, 0, 0, 0) := by decide +kernel
theorem gz_27_2 : mz_pg 27 2 = some (.invokevirtual 28, 1, 13, 638) := by decide +kernel
theorem gz_27_5 : mz_pg 27 5 = some (.ifCond .eq 21, 0, 0, 0) := by decide +kernel
theorem gz_27_8 : mz_pg 27 8 = some (.iload_n 2, 0, 0, 0) := by decide +kernel
theorem gz_27_9 : mz_pg 27 9 = some (.ifCond .lt 17, 0, 0, 0) := by decide +kernel
theorem gz_27_12 : mz_pg 27 12 = some (.iload_n 2, 0, 0, 0) := by decide +kernel
theorem gz_27_13 : mz_pg 27 13 = some (.aload_n 0, 0, 0, 0) := by decide +kernel
theorem gz_27_14 : mz_pg 27 14 = some (.getfield 9, 3, 0, 144) := by decide +kernel
theorem gz_27_17 : mz_pg 27 17 = some (.iload_n 1, 0, 0, 0) := by decide +kernel
theorem gz_27_18 : mz_pg 27 18 = some (.iaload, 0, 0, 0) := by decide +kernel
theorem gz_27_19 : mz_pg 27 19 = some (.if_icmp .ge 7, 0, 0, 0) := by decide +kernel
theorem gz_27_22 : mz_pg 27 22 = some (.iconst 1, 0, 0, 0) := by decide +kernel
theorem gz_27_23 : mz_pg 27 23 = some (.goto 4, 0, 0, 0) := by decide +kernel
theorem gz_27_26 : mz_pg 27 26 = some (.iconst 0, 0, 0, 0) := by decide +kernel
theorem gz_27_27 : mz_pg 27 27 = some (.ireturn, 0, 0, 0) := by decide +kernel
theorem gz_28_0 : mz_pg 28 0 = some (.iload_n 0, 0, 0, 0) := by decide +kernel
theorem gz_28_1 : mz_pg 28 1 = some (.ifCond .lt 18, 0, 0, 0) := by decide +kernel
theorem gz_28_4 : mz_pg 28 4 = some (.iload_n 0, 0, 0, 0) := by decide +kernel
theorem gz_28_5 : mz_pg 28 5 = some (.iload_n 1, 0, 0, 0) := by decide +kernel
theorem gz_28_6 : mz_pg 28 6 = some (.if_icmp .gt 13, 0, 0, 0) := by decide +kernel
theorem gz_28_9 : mz_pg 28 9 = some (.iload_n 1, 0, 0, 0) := by decide +kernel
theorem gz_28_10 : mz_pg 28 10 = some (.bipush 20, 0, 0, 0) := by decide +kernel
theorem gz_28_12 : mz_pg 28 12 = some (.if_icmp .ge 7, 0, 0, 0) := by decide +kernel
theorem gz_28_15 : mz_pg 28 15 = some (.iconst 1, 0, 0, 0) := by decide +kernel
theorem gz_28_16 : mz_pg 28 16 = some (.goto 4, 0, 0, 0) := by decide +kernel
theorem gz_28_19 : mz_pg 28 19 = some (.iconst 0, 0, 0, 0) := by decide +kernel
theorem gz_28_20 : mz_pg 28 20 = some (.ireturn, 0, 0, 0) := by decide +kernel
theorem gm_26 : my_mm 26 5 (some .boolean) 4 9 := by unfold my_mm; decide +kernel
theorem gm_27 : my_mm 27 3 (some .boolean) 2 3 := by unfold my_mm; decide +kernel
theorem gm_28 : my_mm 28 2 (some .boolean) 2 9 := by unfold my_mm; decide +kernel
theorem rd_26 : my_rd 26 = .inl (0, 12, [(0, 0, 19)]) := rfl
theorem rd_27 : my_rd 27 = .inl (0, 12, [(0, 0, 19)]) := rfl
theorem c46_ThroughWindow_span {l : Launch} {rho : Nat → Int32} {d : Nat} {h : my_H} {Q : my_H → my_V → Prop} {x1 x2 x3 x4 : Int} (k0 : ∀ (h' : my_H), my_fr [(26, -1), (27, -1)] h h' → Q h' (0, 0)) (k1 : ∀ (h' : my_H), my_fr [(26, -1), (27, -1)] h h' → 0 ≤ x1 → x1 ≤ 2 → 0 ≤ x2 → x2 ≤ 3 → 0 ≤ x3 → x3 ≤ 19 → 0 ≤ x4 → x4 ≤ 19 → Q h' (0, 1)) : wp l rho (d + 2) 26 0 [(2, 0), (0, x1), (0, x2), (0, x3), (0, x4)] [] h Q := by
  refine w_aload_n gz_26_0 rfl ?_
  refine w_getX (v := 1) gz_26_1 is_0 rd_9 rfl (by decide) rfl ?_
  refine w_iload_n gz_26_4 rfl ?_
  refine w_iload_n gz_26_5 rfl ?_
  refine w_inv (k := 0) (as := [(0, x2), (0, x1)]) (r := []) (x := 1) (ls0 := [(2, 1), (0, x1), (0, x2)]) gz_26_6 gm_27 rfl is_1 rd_3 rfl rfl rfl rfl rfl ?_
  refine w_aload_n gz_27_0 rfl ?_
  refine w_iload_n gz_27_1 rfl ?_
  refine w_inv (k := 0) (as := [(0, x1)]) (r := []) (x := 1) (ls0 := [(2, 1), (0, x1)]) gz_27_2 gm_13 rfl is_1 rd_3 rfl rfl rfl rfl rfl ?_
  refine w_iload_n gz_13_0 rfl ?_
  refine w_iflt (t := 22) gz_13_1 rfl (fun u2 => ?_) (fun u2 => ?_)
  ·
    refine w_iconst gz_13_22 (by decide) ?_
    refine w_bret gz_13_23 gm_13 (by omega) (by omega) ?_
    show wp l rho (d + 1) 27 5 [(2, 1), (0, x1), (0, x2)] [(0, 0)] h _
    refine w_ifeq (t := 26) gz_27_5 rfl (fun u3 => ?_) (fun u3 => by exfalso; omega)
    refine w_iconst gz_27_26 (by decide) ?_
    refine w_bret gz_27_27 gm_27 (by omega) (by omega) ?_
    show wp l rho (d + 2) 26 9 [(2, 0), (0, x1), (0, x2), (0, x3), (0, x4)] [(0, 0)] h Q
    refine w_ifeq (t := 36) gz_26_9 rfl (fun u4 => ?_) (fun u4 => by exfalso; omega)
    refine w_iconst gz_26_36 (by decide) ?_
    exact w_bret gz_26_37 gm_26 (by omega) (by omega) (k0 h (my_fr.rf))
  ·
    refine w_iload_n gz_13_4 rfl ?_
    refine w_iconst gz_13_5 (by decide) ?_
    refine w_icge (t := 22) gz_13_6 rfl (fun u5 => ?_) (fun u5 => ?_)
    ·
      refine w_iconst gz_13_22 (by decide) ?_
      refine w_bret gz_13_23 gm_13 (by omega) (by omega) ?_
      show wp l rho (d + 1) 27 5 [(2, 1), (0, x1), (0, x2)] [(0, 0)] h _
      refine w_ifeq (t := 26) gz_27_5 rfl (fun u6 => ?_) (fun u6 => by exfalso; omega)
      refine w_iconst gz_27_26 (by decide) ?_
      refine w_bret gz_27_27 gm_27 (by omega) (by omega) ?_
      show wp l rho (d + 2) 26 9 [(2, 0), (0, x1), (0, x2), (0, x3), (0, x4)] [(0, 0)] h Q
      refine w_ifeq (t := 36) gz_26_9 rfl (fun u7 => ?_) (fun u7 => by exfalso; omega)
      refine w_iconst gz_26_36 (by decide) ?_
      exact w_bret gz_26_37 gm_26 (by omega) (by omega) (k0 h (my_fr.rf))
    ·
      refine w_aload_n gz_13_9 rfl ?_
      refine w_getX (v := 2) gz_13_10 is_1 rd_3 rfl (by decide) rfl ?_
      refine w_iload_n gz_13_13 rfl ?_
      refine w_iald gz_13_14 is_2 rd_25 (by omega) (by omega) (fun v9 ev9 pv9 qv9 => ?_)
      refine w_ifle (t := 22) gz_13_15 rfl (fun u10 => ?_) (fun u10 => ?_)
      ·
        refine w_iconst gz_13_22 (by decide) ?_
        refine w_bret gz_13_23 gm_13 (by omega) (by omega) ?_
        show wp l rho (d + 1) 27 5 [(2, 1), (0, x1), (0, x2)] [(0, 0)] h _
        refine w_ifeq (t := 26) gz_27_5 rfl (fun u11 => ?_) (fun u11 => by exfalso; omega)
        refine w_iconst gz_27_26 (by decide) ?_
        refine w_bret gz_27_27 gm_27 (by omega) (by omega) ?_
        show wp l rho (d + 2) 26 9 [(2, 0), (0, x1), (0, x2), (0, x3), (0, x4)] [(0, 0)] h Q
        refine w_ifeq (t := 36) gz_26_9 rfl (fun u12 => ?_) (fun u12 => by exfalso; omega)
        refine w_iconst gz_26_36 (by decide) ?_
        exact w_bret gz_26_37 gm_26 (by omega) (by omega) (k0 h (my_fr.rf))
      ·
        refine w_iconst gz_13_18 (by decide) ?_
        refine w_goto (t := 23) gz_13_19 rfl ?_
        refine w_bret gz_13_23 gm_13 (by omega) (by omega) ?_
        show wp l rho (d + 1) 27 5 [(2, 1), (0, x1), (0, x2)] [(0, 1)] h _
        refine w_ifeq (t := 26) gz_27_5 rfl (fun u13 => by exfalso; omega) (fun u13 => ?_)
        refine w_iload_n gz_27_8 rfl ?_
        refine w_iflt (t := 26) gz_27_9 rfl (fun u14 => ?_) (fun u14 => ?_)
        ·
          refine w_iconst gz_27_26 (by decide) ?_
          refine w_bret gz_27_27 gm_27 (by omega) (by omega) ?_
          show wp l rho (d + 2) 26 9 [(2, 0), (0, x1), (0, x2), (0, x3), (0, x4)] [(0, 0)] h Q
          refine w_ifeq (t := 36) gz_26_9 rfl (fun u15 => ?_) (fun u15 => by exfalso; omega)
          refine w_iconst gz_26_36 (by decide) ?_
          exact w_bret gz_26_37 gm_26 (by omega) (by omega) (k0 h (my_fr.rf))
        ·
          refine w_iload_n gz_27_12 rfl ?_
          refine w_aload_n gz_27_13 rfl ?_
          refine w_getX (v := 2) gz_27_14 is_1 rd_3 rfl (by decide) rfl ?_
          refine w_iload_n gz_27_17 rfl ?_
          refine w_iald gz_27_18 is_2 rd_25 (by omega) (by omega) (fun v17 ev17 pv17 qv17 => ?_)
          have zv17 := ev17.trans ev9.symm
          refine w_icge (t := 26) gz_27_19 rfl (fun u18 => ?_) (fun u18 => ?_)
          ·
            refine w_iconst gz_27_26 (by decide) ?_
            refine w_bret gz_27_27 gm_27 (by omega) (by omega) ?_
            show wp l rho (d + 2) 26 9 [(2, 0), (0, x1), (0, x2), (0, x3), (0, x4)] [(0, 0)] h Q
            refine w_ifeq (t := 36) gz_26_9 rfl (fun u19 => ?_) (fun u19 => by exfalso; omega)
            refine w_iconst gz_26_36 (by decide) ?_
            exact w_bret gz_26_37 gm_26 (by omega) (by omega) (k0 h (my_fr.rf))
          ·
            refine w_iconst gz_27_22 (by decide) ?_
            refine w_goto (t := 27) gz_27_23 rfl ?_
            refine w_bret gz_27_27 gm_27 (by omega) (by omega) ?_
            show wp l rho (d + 2) 26 9 [(2, 0), (0, x1), (0, x2), (0, x3), (0, x4)] [(0, 1)] h Q
            refine w_ifeq (t := 36) gz_26_9 rfl (fun u20 => by exfalso; omega) (fun u20 => ?_)
            refine w_iload_n gz_26_12 rfl ?_
            refine w_iload gz_26_13 rfl ?_
            refine w_inS (k := 0) (as := [(0, x4), (0, x3)]) (r := []) (ls0 := [(0, x3), (0, x4)]) gz_26_15 gm_28 rfl rfl rfl rfl rfl rfl ?_
            refine w_iload_n gz_28_0 rfl ?_
            refine w_iflt (t := 19) gz_28_1 rfl (fun u21 => ?_) (fun u21 => ?_)
            ·
              refine w_iconst gz_28_19 (by decide) ?_
              refine w_bret gz_28_20 gm_28 (by omega) (by omega) ?_
              show wp l rho (d + 2) 26 18 [(2, 0), (0, x1), (0, x2), (0, x3), (0, x4)] [(0, 0)] h Q
              refine w_ifeq (t := 36) gz_26_18 rfl (fun u22 => ?_) (fun u22 => by exfalso; omega)
              refine w_iconst gz_26_36 (by decide) ?_
              exact w_bret gz_26_37 gm_26 (by omega) (by omega) (k0 h (my_fr.rf))
            ·
              refine w_iload_n gz_28_4 rfl ?_
              refine w_iload_n gz_28_5 rfl ?_
              refine w_icgt (t := 19) gz_28_6 rfl (fun u23 => ?_) (fun u23 => ?_)
              ·
                refine w_iconst gz_28_19 (by decide) ?_
                refine w_bret gz_28_20 gm_28 (by omega) (by omega) ?_
                show wp l rho (d + 2) 26 18 [(2, 0), (0, x1), (0, x2), (0, x3), (0, x4)] [(0, 0)] h Q
                refine w_ifeq (t := 36) gz_26_18 rfl (fun u24 => ?_) (fun u24 => by exfalso; omega)
                refine w_iconst gz_26_36 (by decide) ?_
                exact w_bret gz_26_37 gm_26 (by omega) (by omega) (k0 h (my_fr.rf))
              ·
                refine w_iload_n gz_28_9 rfl ?_
                refine w_bipush gz_28_10 (by decide) ?_
                refine w_icge (t := 19) gz_28_12 rfl (fun u25 => ?_) (fun u25 => ?_)
                ·
                  refine w_iconst gz_28_19 (by decide) ?_
                  refine w_bret gz_28_20 gm_28 (by omega) (by omega) ?_
                  show wp l rho (d + 2) 26 18 [(2, 0), (0, x1), (0, x2), (0, x3), (0, x4)] [(0, 0)] h Q
                  refine w_ifeq (t := 36) gz_26_18 rfl (fun u26 => ?_) (fun u26 => by exfalso; omega)
                  refine w_iconst gz_26_36 (by decide) ?_
                  exact w_bret gz_26_37 gm_26 (by omega) (by omega) (k0 h (my_fr.rf))
                ·
                  refine w_iconst gz_28_15 (by decide) ?_
                  refine w_goto (t := 20) gz_28_16 rfl ?_
                  refine w_bret gz_28_20 gm_28 (by omega) (by omega) ?_
                  show wp l rho (d + 2) 26 18 [(2, 0), (0, x1), (0, x2), (0, x3), (0, x4)] [(0, 1)] h Q
                  refine w_ifeq (t := 36) gz_26_18 rfl (fun u27 => by exfalso; omega) (fun u27 => ?_)
                  refine w_aload_n gz_26_21 rfl ?_
                  refine w_getX (v := 7) gz_26_22 is_0 rd_9 rfl (by decide) rfl ?_
                  refine w_iload_n gz_26_25 rfl ?_
                  refine w_iload_n gz_26_26 rfl ?_
                  refine w_iload_n gz_26_27 rfl ?_
                  refine w_iload gz_26_28 rfl ?_
                  refine w_inv (k := 3) (as := [(0, x4), (0, x3), (0, x2), (0, x1)]) (r := []) (x := 7) (ls0 := [(2, 7), (0, x1), (0, x2), (0, x3), (0, x4), (9, 0), (9, 0), (9, 0)]) gz_26_30 gm_20 rfl is_7 rd_6 rfl rfl rfl rfl rfl (c30_Rows_outside (d := d) (x0 := 7) (x1 := x1) (x2 := x2) (x3 := x3) (x4 := x4) is_7 (by omega) (by omega) (by omega) (by omega) (by omega) (by omega) (by omega) (by omega) (fun v29 w30 w31 => ?_))
                  show wp l rho (d + 2) 26 33 [(2, 0), (0, x1), (0, x2), (0, x3), (0, x4)] [(0, v29)] h Q
                  refine w_ifle (t := 38) gz_26_33 rfl (fun u32 => ?_) (fun u32 => ?_)
                  ·
                    refine w_aload_n gz_26_38 rfl ?_
                    refine w_getX (v := 1) gz_26_39 is_0 rd_9 rfl (by decide) rfl ?_
                    refine w_getX (v := 3) gz_26_42 is_1 rd_3 rfl (by decide) rfl ?_
                    refine w_iload_n gz_26_45 rfl ?_
                    refine w_iload_n gz_26_46 rfl ?_
                    refine w_inS (k := 0) (as := [(0, x2), (0, x1)]) (r := [(2, 3)]) (ls0 := [(0, x1), (0, x2)]) gz_26_47 gm_29 rfl rfl rfl rfl rfl rfl ?_
                    refine w_iload_n gz_29_0 rfl ?_
                    refine w_iconst gz_29_1 (by decide) ?_
                    refine w_imul gz_29_2 ⟨by omega, by omega⟩ ?_
                    refine w_iload_n gz_29_3 rfl ?_
                    refine w_iadd gz_29_4 ⟨by omega, by omega⟩ ?_
                    refine w_iret gz_29_5 gm_29 ?_
                    show wp l rho (d + 2) 26 50 [(2, 0), (0, x1), (0, x2), (0, x3), (0, x4)] [(0, ((x1 * 4) + x2)), (2, 3)] h Q
                    refine w_iload_n gz_26_50 rfl ?_
                    refine w_iast gz_26_51 is_3 rd_26 (by omega) (by omega) (by omega) (by omega) (fun h35 fh35 => ?_)
                    have gh35 : my_fr [(26, -1), (27, -1)] h h35 := my_fr.up my_fr.rf is_3 fh35 rfl
                    refine w_aload_n gz_26_52 rfl ?_
                    refine w_getX (v := 1) gz_26_53 is_0 rd_9 rfl (by decide) rfl ?_
                    refine w_getX (v := 4) gz_26_56 is_1 rd_3 rfl (by decide) rfl ?_
                    refine w_iload_n gz_26_59 rfl ?_
                    refine w_iload_n gz_26_60 rfl ?_
                    refine w_inS (k := 0) (as := [(0, x2), (0, x1)]) (r := [(2, 4)]) (ls0 := [(0, x1), (0, x2)]) gz_26_61 gm_29 rfl rfl rfl rfl rfl rfl ?_
                    refine w_iload_n gz_29_0 rfl ?_
                    refine w_iconst gz_29_1 (by decide) ?_
                    refine w_imul gz_29_2 ⟨by omega, by omega⟩ ?_
                    refine w_iload_n gz_29_3 rfl ?_
                    refine w_iadd gz_29_4 ⟨by omega, by omega⟩ ?_
                    refine w_iret gz_29_5 gm_29 ?_
                    show wp l rho (d + 2) 26 64 [(2, 0), (0, x1), (0, x2), (0, x3), (0, x4)] [(0, ((x1 * 4) + x2)), (2, 4)] h35 Q
                    refine w_iload gz_26_64 rfl ?_
                    refine w_iast gz_26_66 is_4 rd_27 (by omega) (by omega) (by omega) (by omega) (fun h38 fh38 => ?_)
                    have gh38 : my_fr [(26, -1), (27, -1)] h h38 := my_fr.up gh35 is_4 fh38 rfl
                    refine w_iconst gz_26_67 (by decide) ?_
                    exact w_bret gz_26_68 gm_26 (by omega) (by omega) (k1 h38 (gh38) (by omega) (by omega) (by omega) (by omega) (by omega) (by omega) (by omega) (by omega))
                  ·
                    refine w_iconst gz_26_36 (by decide) ?_
                    exact w_bret gz_26_37 gm_26 (by omega) (by omega) (k0 h (my_fr.rf))
theorem is_82 : my_is 5 82 := by unfold my_is; decide +kernel
theorem is_92 : my_is 40 92 := by unfold my_is; decide +kernel
theorem gz_33_0 : mz_pg 33 0 = some (.bipush 56, 0, 0, 0) := by decide +kernel
theorem gz_33_2 : mz_pg 33 2 = some (.istore_n 3, 0, 0, 0) := by decide +kernel
theorem gz_33_3 : mz_pg 33 3 = some (.iload_n 3, 0, 0, 0) := by decide +kernel
theorem gz_33_4 : mz_pg 33 4 = some (.ifCond .lt 69, 0, 0, 0) := by decide +kernel
theorem gz_33_7 : mz_pg 33 7 = some (.lload_n 1, 0, 0, 0) := by decide +kernel
theorem gz_33_8 : mz_pg 33 8 = some (.iload_n 3, 0, 0, 0) := by decide +kernel
theorem gz_33_9 : mz_pg 33 9 = some (.lshr, 0, 0, 0) := by decide +kernel
theorem gz_33_10 : mz_pg 33 10 = some (.l2i, 0, 0, 0) := by decide +kernel
theorem gz_33_11 : mz_pg 33 11 = some (.sipush 255, 0, 0, 0) := by decide +kernel
theorem gz_33_14 : mz_pg 33 14 = some (.iand, 0, 0, 0) := by decide +kernel
theorem gz_33_15 : mz_pg 33 15 = some (.istore 4, 0, 0, 0) := by decide +kernel
theorem gz_33_17 : mz_pg 33 17 = some (.iload 4, 0, 0, 0) := by decide +kernel
theorem gz_33_19 : mz_pg 33 19 = some (.bipush 10, 0, 0, 0) := by decide +kernel
theorem gz_33_21 : mz_pg 33 21 = some (.if_icmp .eq 17, 0, 0, 0) := by decide +kernel
theorem gz_33_24 : mz_pg 33 24 = some (.iload 4, 0, 0, 0) := by decide +kernel
theorem gz_33_26 : mz_pg 33 26 = some (.bipush 32, 0, 0, 0) := by decide +kernel
theorem gz_33_28 : mz_pg 33 28 = some (.if_icmp .lt 39, 0, 0, 0) := by decide +kernel
theorem gz_33_31 : mz_pg 33 31 = some (.iload 4, 0, 0, 0) := by decide +kernel
theorem gz_33_33 : mz_pg 33 33 = some (.bipush 126, 0, 0, 0) := by decide +kernel
theorem gz_33_35 : mz_pg 33 35 = some (.if_icmp .gt 32, 0, 0, 0) := by decide +kernel
theorem gz_33_38 : mz_pg 33 38 = some (.aload_n 0, 0, 0, 0) := by decide +kernel
theorem gz_33_39 : mz_pg 33 39 = some (.getfield 30, 5, 4, 285) := by decide +kernel
theorem gz_33_42 : mz_pg 33 42 = some (.sipush 1000, 0, 0, 0) := by decide +kernel
theorem gz_33_45 : mz_pg 33 45 = some (.if_icmp .ge 22, 0, 0, 0) := by decide +kernel
theorem gz_33_48 : mz_pg 33 48 = some (.aload_n 0, 0, 0, 0) := by decide +kernel
theorem gz_33_49 : mz_pg 33 49 = some (.getfield 18, 5, 3, 284) := by decide +kernel
theorem gz_33_52 : mz_pg 33 52 = some (.aload_n 0, 0, 0, 0) := by decide +kernel
theorem gz_33_53 : mz_pg 33 53 = some (.dup, 0, 0, 0) := by decide +kernel
theorem gz_33_54 : mz_pg 33 54 = some (.getfield 30, 5, 4, 285) := by decide +kernel
theorem gz_33_57 : mz_pg 33 57 = some (.dup_x1, 0, 0, 0) := by decide +kernel
theorem gz_33_58 : mz_pg 33 58 = some (.iconst 1, 0, 0, 0) := by decide +kernel
theorem gz_33_59 : mz_pg 33 59 = some (.iadd, 0, 0, 0) := by decide +kernel
theorem gz_33_60 : mz_pg 33 60 = some (.putfield 30, 5, 4, 285) := by decide +kernel
theorem gz_33_63 : mz_pg 33 63 = some (.iload 4, 0, 0, 0) := by decide +kernel
theorem gz_33_65 : mz_pg 33 65 = some (.i2b, 0, 0, 0) := by decide +kernel
theorem gz_33_66 : mz_pg 33 66 = some (.bastore, 0, 0, 0) := by decide +kernel
theorem gz_33_67 : mz_pg 33 67 = some (.iinc 3 (-8), 0, 0, 0) := by decide +kernel
theorem gz_33_70 : mz_pg 33 70 = some (.goto (-67), 0, 0, 0) := by decide +kernel
theorem gz_33_73 : mz_pg 33 73 = some (.return_, 0, 0, 0) := by decide +kernel
theorem gm_33 : my_mm 33 5 none 1 5 := by unfold my_mm; decide +kernel
theorem rd_5 : my_rd 5 = .inr (5, [(2, 3, -81), (2, 22, -55), (2, 4, 0), (2, 40, 10), (0, 0, 1000), (0, 0, 1000), (0, 0, 4), (0, 0, 1000), (0, 0, 999), (0, 0, 16005)]) := rfl
theorem rd_40 : my_rd 40 = .inl (3, 1000, [(0, 0, 126)]) := rfl
theorem c47_Reader_take {l : Launch} {rho : Nat → Int32} {d : Nat} {h : my_H} {Q : my_H → my_V → Prop} {x1 : Int} (k0 : ∀ (h' : my_H), my_fr [(5, 4), (40, -1)] h h' → Q h' (9, 0)) : wp l rho d 33 0 [(2, 82), (1, x1), (9, 0), (9, 0), (9, 0)] [] h Q := by
  have J3_0 : ∀ (n : Nat) (z3_l1 p3_0 : Int) (h3_0 : my_H), my_fr [(5, 4), (40, -1)] h h3_0 → (-8) ≤ p3_0 → p3_0 ≤ 56 → p3_0 - (-9) ≤ (n : Int) → wp l rho d 33 3 [(2, 82), (1, z3_l1), (9, 0), (0, p3_0), (9, 0)] [] h3_0 Q := by
    intro n
    induction n with
    | zero => intro z3_l1 p3_0 h3_0 gh_3_0 q0_3_0 q1_3_0 hm_3_0; exfalso; omega
    | succ n ih_3_0 =>
      intro z3_l1 p3_0 h3_0 gh_3_0 q0_3_0 q1_3_0 hm_3_0
      have J67_0 : ∀ (z67_l1 p67_0 : Int) (h67_0 : my_H), my_fr [(5, 4), (40, -1)] h h67_0 → 0 ≤ p3_0 → 0 ≤ p67_0 → p67_0 ≤ 255 → wp l rho d 33 67 [(2, 82), (1, z67_l1), (9, 0), (0, p3_0), (0, p67_0)] [] h67_0 Q := by
        intro z67_l1 p67_0 h67_0 gh_67_0 q0_67_0 q1_67_0 q2_67_0
        refine w_iinc (ls' := [(2, 82), (1, z67_l1), (9, 0), (0, (p3_0 + (-8))), (0, p67_0)]) gz_33_67 rfl gm_33 rfl rfl rfl ⟨by omega, by omega⟩ ?_
        refine w_goto (t := 3) gz_33_70 rfl ?_
        refine w_weak (ls' := [(2, 82), (1, z67_l1), (9, 0), (0, (p3_0 + (-8))), (9, 0)]) (wk_e (wk_e (wk_9 (wk_e (wk_9 wk_n))))) ?_
        exact ih_3_0 (z67_l1) ((p3_0 + (-8))) h67_0 (gh_67_0) (by omega) (by omega) (by omega)
      have J38_0 : ∀ (z38_l1 p38_0 : Int) (h38_0 : my_H), my_fr [(5, 4), (40, -1)] h h38_0 → 0 ≤ p3_0 → 10 ≤ p38_0 → p38_0 ≤ 126 → wp l rho d 33 38 [(2, 82), (1, z38_l1), (9, 0), (0, p3_0), (0, p38_0)] [] h38_0 Q := by
        intro z38_l1 p38_0 h38_0 gh_38_0 q0_38_0 q1_38_0 q2_38_0
        refine w_aload_n gz_33_38 rfl ?_
        refine v_getI (j := 4) gz_33_39 rfl is_82 rd_5 rfl (fun v1 ev1 pv1 qv1 => ?_)
        refine w_sipush gz_33_42 (by decide) ?_
        refine w_icge (t := 67) gz_33_45 rfl (fun u2 => ?_) (fun u2 => ?_)
        ·
          exact J67_0 (z38_l1) (p38_0) h38_0 (gh_38_0) (by omega) (by omega) (by omega)
        ·
          refine w_aload_n gz_33_48 rfl ?_
          refine w_getX (v := 92) gz_33_49 is_82 rd_5 rfl (by decide) rfl ?_
          refine w_aload_n gz_33_52 rfl ?_
          refine w_dup gz_33_53 rfl ?_
          refine v_getI (j := 4) gz_33_54 rfl is_82 rd_5 rfl (fun v4 ev4 pv4 qv4 => ?_)
          have zv4 := ev4.trans ev1.symm
          refine w_dupx gz_33_57 rfl rfl ?_
          refine w_iconst gz_33_58 (by decide) ?_
          refine w_iadd gz_33_59 ⟨by omega, by omega⟩ ?_
          refine v_putI (j := 4) gz_33_60 rfl is_82 rd_5 rfl (by omega) (by omega) rfl (fun h5 fh5 => ?_)
          have gh5 : my_fr [(5, 4), (40, -1)] h h5 := my_fr.up gh_38_0 is_82 fh5 rfl
          refine w_iload gz_33_63 rfl ?_
          refine w_i2b gz_33_65 (by omega) (by omega) ?_
          refine w_yast gz_33_66 is_92 rd_40 (by omega) (by omega) (by omega) (by omega) (by omega) (by omega) (fun h6 fh6 => ?_)
          have gh6 : my_fr [(5, 4), (40, -1)] h h6 := my_fr.up gh5 is_92 fh6 rfl
          exact J67_0 (z38_l1) (p38_0) h6 (gh6) (by omega) (by omega) (by omega)
      refine w_iload_n gz_33_3 rfl ?_
      refine w_iflt (t := 73) gz_33_4 rfl (fun u7 => ?_) (fun u7 => ?_)
      ·
        exact w_vret gz_33_73 gm_33 (k0 h3_0 (gh_3_0))
      ·
        refine w_lload_n gz_33_7 rfl ?_
        refine w_iload_n gz_33_8 rfl ?_
        refine w_jshf gz_33_9 (fun _ => rfl) rfl (fun v8 pv8 => ?_)
        refine w_l2i gz_33_10 (fun v9 pv9 qv9 => ?_)
        refine w_sipush gz_33_11 (by decide) ?_
        refine w_iandM gz_33_14 (by decide) (fun v10 pv10 qv10 => ?_)
        refine w_istore (ls' := [(2, 82), (1, z3_l1), (9, 0), (0, p3_0), (0, v10)]) gz_33_15 gm_33 rfl rfl rfl ?_
        refine w_iload gz_33_17 rfl ?_
        refine w_bipush gz_33_19 (by decide) ?_
        refine w_iceq (t := 38) gz_33_21 rfl (fun u11 => ?_) (fun u11 => ?_)
        ·
          exact J38_0 (z3_l1) (v10) h3_0 (gh_3_0) (by omega) (by omega) (by omega)
        ·
          refine w_iload gz_33_24 rfl ?_
          refine w_bipush gz_33_26 (by decide) ?_
          refine w_iclt (t := 67) gz_33_28 rfl (fun u12 => ?_) (fun u12 => ?_)
          ·
            exact J67_0 (z3_l1) (v10) h3_0 (gh_3_0) (by omega) (by omega) (by omega)
          ·
            refine w_iload gz_33_31 rfl ?_
            refine w_bipush gz_33_33 (by decide) ?_
            refine w_icgt (t := 67) gz_33_35 rfl (fun u13 => ?_) (fun u13 => ?_)
            ·
              exact J67_0 (z3_l1) (v10) h3_0 (gh_3_0) (by omega) (by omega) (by omega)
            ·
              exact J38_0 (z3_l1) (v10) h3_0 (gh_3_0) (by omega) (by omega) (by omega)
  refine w_bipush gz_33_0 (by decide) ?_
  refine w_istore_n (ls' := [(2, 82), (1, x1), (9, 0), (0, 56), (9, 0)]) gz_33_2 gm_33 rfl rfl rfl ?_
  exact J3_0 65 (x1) (56) h (my_fr.rf) (by omega) (by omega) (by omega)
theorem gz_35_0 : mz_pg 35 0 = some (.iconst 0, 0, 0, 0) := by decide +kernel
theorem gz_35_1 : mz_pg 35 1 = some (.istore_n 2, 0, 0, 0) := by decide +kernel
theorem gz_35_2 : mz_pg 35 2 = some (.iload_n 2, 0, 0, 0) := by decide +kernel
theorem gz_35_3 : mz_pg 35 3 = some (.bipush 6, 0, 0, 0) := by decide +kernel
theorem gz_35_5 : mz_pg 35 5 = some (.if_icmp .ge 36, 0, 0, 0) := by decide +kernel
theorem gz_35_8 : mz_pg 35 8 = some (.aload_n 0, 0, 0, 0) := by decide +kernel
theorem gz_35_9 : mz_pg 35 9 = some (.getfield 36, 9, 6, 534) := by decide +kernel
theorem gz_35_12 : mz_pg 35 12 = some (.iload_n 2, 0, 0, 0) := by decide +kernel
theorem gz_35_13 : mz_pg 35 13 = some (.aaload, 0, 0, 0) := by decide +kernel
theorem gz_35_14 : mz_pg 35 14 = some (.getfield 337, 4, 0, 197) := by decide +kernel
theorem gz_35_17 : mz_pg 35 17 = some (.ifCond .eq 18, 0, 0, 0) := by decide +kernel
theorem gz_35_20 : mz_pg 35 20 = some (.aload_n 0, 0, 0, 0) := by decide +kernel
theorem gz_35_21 : mz_pg 35 21 = some (.getfield 36, 9, 6, 534) := by decide +kernel
theorem gz_35_24 : mz_pg 35 24 = some (.iload_n 2, 0, 0, 0) := by decide +kernel
theorem gz_35_25 : mz_pg 35 25 = some (.aaload, 0, 0, 0) := by decide +kernel
theorem gz_35_26 : mz_pg 35 26 = some (.getfield 339, 4, 1, 200) := by decide +kernel
theorem gz_35_29 : mz_pg 35 29 = some (.iload_n 1, 0, 0, 0) := by decide +kernel
theorem gz_35_30 : mz_pg 35 30 = some (.if_icmp .ne 5, 0, 0, 0) := by decide +kernel
theorem gz_35_33 : mz_pg 35 33 = some (.iconst 1, 0, 0, 0) := by decide +kernel
theorem gz_35_34 : mz_pg 35 34 = some (.ireturn, 0, 0, 0) := by decide +kernel
theorem gz_35_35 : mz_pg 35 35 = some (.iinc 2 1, 0, 0, 0) := by decide +kernel
theorem gz_35_38 : mz_pg 35 38 = some (.goto (-36), 0, 0, 0) := by decide +kernel
theorem gz_35_41 : mz_pg 35 41 = some (.iconst 0, 0, 0, 0) := by decide +kernel
theorem gz_35_42 : mz_pg 35 42 = some (.ireturn, 0, 0, 0) := by decide +kernel
theorem gm_35 : my_mm 35 3 (some .boolean) 1 9 := by unfold my_mm; decide +kernel
theorem c48_ThroughWindow_isUnderAnother {l : Launch} {rho : Nat → Int32} {d : Nat} {h : my_H} {Q : my_H → my_V → Prop} {x1 : Int} (a1 : 0 ≤ x1) (b1 : x1 ≤ 5) (k0 : Q h (0, 0)) (k1 : Q h (0, 1)) : wp l rho d 35 0 [(2, 0), (0, x1), (9, 0)] [] h Q := by
  have J2_0 : ∀ (n : Nat) (p2_0 : Int), 0 ≤ p2_0 → p2_0 ≤ 6 → 7 - p2_0 ≤ (n : Int) → wp l rho d 35 2 [(2, 0), (0, x1), (0, p2_0)] [] h Q := by
    intro n
    induction n with
    | zero => intro p2_0 q0_2_0 q1_2_0 hm_2_0; exfalso; omega
    | succ n ih_2_0 =>
      intro p2_0 q0_2_0 q1_2_0 hm_2_0
      have J35_0 : p2_0 ≤ 5 → wp l rho d 35 35 [(2, 0), (0, x1), (0, p2_0)] [] h Q := by
        intro q0_35_0
        refine w_iinc (ls' := [(2, 0), (0, x1), (0, (p2_0 + 1))]) gz_35_35 rfl gm_35 rfl rfl rfl ⟨by omega, by omega⟩ ?_
        refine w_goto (t := 2) gz_35_38 rfl ?_
        exact ih_2_0 ((p2_0 + 1)) (by omega) (by omega) (by omega)
      refine w_iload_n gz_35_2 rfl ?_
      refine w_bipush gz_35_3 (by decide) ?_
      refine w_icge (t := 41) gz_35_5 rfl (fun u1 => ?_) (fun u1 => ?_)
      ·
        refine w_iconst gz_35_41 (by decide) ?_
        exact w_bret gz_35_42 gm_35 (by omega) (by omega) (k0 )
      ·
        refine w_aload_n gz_35_8 rfl ?_
        refine w_getX (v := 27) gz_35_9 is_0 rd_9 rfl (by decide) rfl ?_
        refine w_iload_n gz_35_12 rfl ?_
        refine w_aald gz_35_13 is_27 rd_22 rfl (by omega) (by omega) (fun v3 ev3 tv3 => ?_)
        refine v_getI (j := 0) gz_35_14 rfl tv3 rd_4 rfl (fun v4 ev4 pv4 qv4 => ?_)
        refine w_ifeq (t := 35) gz_35_17 rfl (fun u5 => ?_) (fun u5 => ?_)
        ·
          exact J35_0 (by omega)
        ·
          refine w_aload_n gz_35_20 rfl ?_
          refine w_getX (v := 27) gz_35_21 is_0 rd_9 rfl (by decide) rfl ?_
          refine w_iload_n gz_35_24 rfl ?_
          refine w_aald gz_35_25 is_27 rd_22 rfl (by omega) (by omega) (fun v7 ev7 tv7 => ?_)
          have zv7 : v3 = v7 := (ev7.trans ev3.symm).symm
          subst zv7
          refine v_getI (j := 1) gz_35_26 rfl tv3 rd_4 rfl (fun v8 ev8 pv8 qv8 => ?_)
          refine w_iload_n gz_35_29 rfl ?_
          refine w_icne (t := 35) gz_35_30 rfl (fun u9 => ?_) (fun u9 => ?_)
          ·
            exact J35_0 (by omega)
          ·
            refine w_iconst gz_35_33 (by decide) ?_
            exact w_bret gz_35_34 gm_35 (by omega) (by omega) (k1 )
  refine w_iconst gz_35_0 (by decide) ?_
  refine w_istore_n (ls' := [(2, 0), (0, x1), (0, 0)]) gz_35_1 gm_35 rfl rfl rfl ?_
  exact J2_0 7 (0) (by omega) (by omega) (by omega)
theorem gz_42_0 : mz_pg 42 0 = some (.aload_n 0, 0, 0, 0) := by decide +kernel
theorem gz_42_1 : mz_pg 42 1 = some (.getfield 37, 5, 9, 291) := by decide +kernel
theorem gz_42_4 : mz_pg 42 4 = some (.ifCond .ne 16, 0, 0, 0) := by decide +kernel
theorem gz_42_7 : mz_pg 42 7 = some (.aload_n 0, 0, 0, 0) := by decide +kernel
theorem gz_42_8 : mz_pg 42 8 = some (.iload_n 1, 0, 0, 0) := by decide +kernel
theorem gz_42_9 : mz_pg 42 9 = some (.bipush 16, 0, 0, 0) := by decide +kernel
theorem gz_42_11 : mz_pg 42 11 = some (.aload_n 0, 0, 0, 0) := by decide +kernel
theorem gz_42_12 : mz_pg 42 12 = some (.getfield 174, 5, 7, 289) := by decide +kernel
theorem gz_42_15 : mz_pg 42 15 = some (.imul, 0, 0, 0) := by decide +kernel
theorem gz_42_16 : mz_pg 42 16 = some (.iadd, 0, 0, 0) := by decide +kernel
theorem gz_42_17 : mz_pg 42 17 = some (.putfield 37, 5, 9, 291) := by decide +kernel
theorem gz_42_20 : mz_pg 42 20 = some (.return_, 0, 0, 0) := by decide +kernel
theorem gz_43_0 : mz_pg 43 0 = some (.aload_n 0, 0, 0, 0) := by decide +kernel
theorem gz_43_1 : mz_pg 43 1 = some (.iconst 3, 0, 0, 0) := by decide +kernel
theorem gz_43_2 : mz_pg 43 2 = some (.invokevirtual 87, 1, 44, 737) := by decide +kernel
theorem gz_43_5 : mz_pg 43 5 = some (.istore_n 1, 0, 0, 0) := by decide +kernel
theorem gz_43_6 : mz_pg 43 6 = some (.iload_n 1, 0, 0, 0) := by decide +kernel
theorem gz_43_7 : mz_pg 43 7 = some (.iconst (-1), 0, 0, 0) := by decide +kernel
theorem gz_43_8 : mz_pg 43 8 = some (.if_icmp .eq 21, 0, 0, 0) := by decide +kernel
theorem gz_43_11 : mz_pg 43 11 = some (.aload_n 0, 0, 0, 0) := by decide +kernel
theorem gz_43_12 : mz_pg 43 12 = some (.getfield 22, 5, 0, 281) := by decide +kernel
theorem gz_43_15 : mz_pg 43 15 = some (.iload_n 1, 0, 0, 0) := by decide +kernel
theorem gz_43_16 : mz_pg 43 16 = some (.invokevirtual 168, 1, 13, 740) := by decide +kernel
theorem gz_43_19 : mz_pg 43 19 = some (.ifCond .ne 10, 0, 0, 0) := by decide +kernel
theorem gz_43_22 : mz_pg 43 22 = some (.aload_n 0, 0, 0, 0) := by decide +kernel
theorem gz_43_23 : mz_pg 43 23 = some (.iconst 2, 0, 0, 0) := by decide +kernel
theorem gz_43_24 : mz_pg 43 24 = some (.invokevirtual 91, 1, 42, 731) := by decide +kernel
theorem gz_43_27 : mz_pg 43 27 = some (.iconst (-1), 0, 0, 0) := by decide +kernel
theorem gz_43_28 : mz_pg 43 28 = some (.ireturn, 0, 0, 0) := by decide +kernel
theorem gz_43_29 : mz_pg 43 29 = some (.iload_n 1, 0, 0, 0) := by decide +kernel
theorem gz_43_30 : mz_pg 43 30 = some (.ireturn, 0, 0, 0) := by decide +kernel
theorem gz_44_0 : mz_pg 44 0 = some (.aload_n 0, 0, 0, 0) := by decide +kernel
theorem gz_44_1 : mz_pg 44 1 = some (.getfield 47, 5, 6, 288) := by decide +kernel
theorem gz_44_4 : mz_pg 44 4 = some (.iconst 2, 0, 0, 0) := by decide +kernel
theorem gz_44_5 : mz_pg 44 5 = some (.if_icmp .eq 10, 0, 0, 0) := by decide +kernel
theorem gz_44_8 : mz_pg 44 8 = some (.aload_n 0, 0, 0, 0) := by decide +kernel
theorem gz_44_9 : mz_pg 44 9 = some (.iconst 1, 0, 0, 0) := by decide +kernel
theorem gz_44_10 : mz_pg 44 10 = some (.invokevirtual 91, 1, 42, 731) := by decide +kernel
theorem gz_44_13 : mz_pg 44 13 = some (.iconst (-1), 0, 0, 0) := by decide +kernel
theorem gz_44_14 : mz_pg 44 14 = some (.ireturn, 0, 0, 0) := by decide +kernel
theorem gz_44_15 : mz_pg 44 15 = some (.aload_n 0, 0, 0, 0) := by decide +kernel
theorem gz_44_16 : mz_pg 44 16 = some (.getfield 171, 5, 8, 290) := by decide +kernel
theorem gz_44_19 : mz_pg 44 19 = some (.iload_n 1, 0, 0, 0) := by decide +kernel
theorem gz_44_20 : mz_pg 44 20 = some (.if_icmp .lt 10, 0, 0, 0) := by decide +kernel
theorem gz_44_23 : mz_pg 44 23 = some (.aload_n 0, 0, 0, 0) := by decide +kernel
theorem gz_44_24 : mz_pg 44 24 = some (.iconst 4, 0, 0, 0) := by decide +kernel
theorem gz_44_25 : mz_pg 44 25 = some (.invokevirtual 91, 1, 42, 731) := by decide +kernel
theorem gz_44_28 : mz_pg 44 28 = some (.iconst (-1), 0, 0, 0) := by decide +kernel
theorem gz_44_29 : mz_pg 44 29 = some (.ireturn, 0, 0, 0) := by decide +kernel
theorem gz_44_30 : mz_pg 44 30 = some (.aload_n 0, 0, 0, 0) := by decide +kernel
theorem gz_44_31 : mz_pg 44 31 = some (.getfield 37, 5, 9, 291) := by decide +kernel
theorem gz_44_34 : mz_pg 44 34 = some (.ifCond .ne 10, 0, 0, 0) := by decide +kernel
theorem gz_44_37 : mz_pg 44 37 = some (.aload_n 0, 0, 0, 0) := by decide +kernel
theorem gz_44_38 : mz_pg 44 38 = some (.getfield 171, 5, 8, 290) := by decide +kernel
theorem gz_44_41 : mz_pg 44 41 = some (.goto 4, 0, 0, 0) := by decide +kernel
theorem gz_44_45 : mz_pg 44 45 = some (.ireturn, 0, 0, 0) := by decide +kernel
theorem gm_42 : my_mm 42 2 none 1 5 := by unfold my_mm; decide +kernel
theorem gm_43 : my_mm 43 2 (some .int) 0 5 := by unfold my_mm; decide +kernel
theorem gm_44 : my_mm 44 2 (some .int) 1 5 := by unfold my_mm; decide +kernel
theorem c49_Reader_wallNumber {l : Launch} {rho : Nat → Int32} {d : Nat} {h : my_H} {Q : my_H → my_V → Prop} (cf : h 82 9 = 0) (k0 : ∀ (h' : my_H), my_fr [(5, 9)] h h' → 1 ≤ h' 82 9 → h' 82 9 ≤ 16004 → Q h' (0, (-1))) (k1 : ∀ (h' : my_H) (y : Int), my_fr [(5, 9)] h h' → 0 ≤ y → y ≤ 2 → h' 82 6 = 2 → 0 ≤ h' 82 8 → h' 82 8 ≤ 2 → h' 82 9 = 0 → Q h' (0, y)) : wp l rho (d + 2) 43 0 [(2, 82), (9, 0)] [] h Q := by
  refine w_aload_n gz_43_0 rfl ?_
  refine w_iconst gz_43_1 (by decide) ?_
  refine w_inv (k := 0) (as := [(0, 3)]) (r := []) (x := 82) (ls0 := [(2, 82), (0, 3)]) gz_43_2 gm_44 rfl is_82 rd_5 rfl rfl rfl rfl rfl ?_
  refine w_aload_n gz_44_0 rfl ?_
  refine v_getI (j := 6) gz_44_1 rfl is_82 rd_5 rfl (fun v1 ev1 pv1 qv1 => ?_)
  refine w_iconst gz_44_4 (by decide) ?_
  refine w_iceq (t := 15) gz_44_5 rfl (fun u2 => ?_) (fun u2 => ?_)
  ·
    refine w_aload_n gz_44_15 rfl ?_
    refine v_getI (j := 8) gz_44_16 rfl is_82 rd_5 rfl (fun v3 ev3 pv3 qv3 => ?_)
    refine w_iload_n gz_44_19 rfl ?_
    refine w_iclt (t := 30) gz_44_20 rfl (fun u4 => ?_) (fun u4 => ?_)
    ·
      refine w_aload_n gz_44_30 rfl ?_
      refine v_getI (j := 9) gz_44_31 rfl is_82 rd_5 rfl (fun v5 ev5 pv5 qv5 => ?_)
      have zv5 := ev5.trans cf
      refine w_ifne (t := 44) gz_44_34 rfl (fun u6 => by exfalso; omega) (fun u6 => ?_)
      refine w_aload_n gz_44_37 rfl ?_
      refine v_getI (j := 8) gz_44_38 rfl is_82 rd_5 rfl (fun v7 ev7 pv7 qv7 => ?_)
      have zv7 := ev7.trans ev3.symm
      refine w_goto (t := 45) gz_44_41 rfl ?_
      refine w_iret gz_44_45 gm_44 ?_
      show wp l rho (d + 2) 43 5 [(2, 82), (9, 0)] [(0, v7)] h Q
      refine w_istore_n (ls' := [(2, 82), (0, v7)]) gz_43_5 gm_43 rfl rfl rfl ?_
      refine w_iload_n gz_43_6 rfl ?_
      refine w_iconst gz_43_7 (by decide) ?_
      refine w_iceq (t := 29) gz_43_8 rfl (fun u8 => by exfalso; omega) (fun u8 => ?_)
      refine w_aload_n gz_43_11 rfl ?_
      refine w_getX (v := 1) gz_43_12 is_82 rd_5 rfl (by decide) rfl ?_
      refine w_iload_n gz_43_15 rfl ?_
      refine w_inv (k := 0) (as := [(0, v7)]) (r := []) (x := 1) (ls0 := [(2, 1), (0, v7)]) gz_43_16 gm_13 rfl is_1 rd_3 rfl rfl rfl rfl rfl ?_
      refine w_iload_n gz_13_0 rfl ?_
      refine w_iflt (t := 22) gz_13_1 rfl (fun u10 => by exfalso; omega) (fun u10 => ?_)
      refine w_iload_n gz_13_4 rfl ?_
      refine w_iconst gz_13_5 (by decide) ?_
      refine w_icge (t := 22) gz_13_6 rfl (fun u11 => by exfalso; omega) (fun u11 => ?_)
      refine w_aload_n gz_13_9 rfl ?_
      refine w_getX (v := 2) gz_13_10 is_1 rd_3 rfl (by decide) rfl ?_
      refine w_iload_n gz_13_13 rfl ?_
      refine w_iald gz_13_14 is_2 rd_25 (by omega) (by omega) (fun v13 ev13 pv13 qv13 => ?_)
      refine w_ifle (t := 22) gz_13_15 rfl (fun u14 => ?_) (fun u14 => ?_)
      ·
        refine w_iconst gz_13_22 (by decide) ?_
        refine w_bret gz_13_23 gm_13 (by omega) (by omega) ?_
        show wp l rho (d + 2) 43 19 [(2, 82), (0, v7)] [(0, 0)] h Q
        refine w_ifne (t := 29) gz_43_19 rfl (fun u15 => by exfalso; omega) (fun u15 => ?_)
        refine w_aload_n gz_43_22 rfl ?_
        refine w_iconst gz_43_23 (by decide) ?_
        refine w_inv (k := 0) (as := [(0, 2)]) (r := []) (x := 82) (ls0 := [(2, 82), (0, 2)]) gz_43_24 gm_42 rfl is_82 rd_5 rfl rfl rfl rfl rfl ?_
        refine w_aload_n gz_42_0 rfl ?_
        refine v_getI (j := 9) gz_42_1 rfl is_82 rd_5 rfl (fun v16 ev16 pv16 qv16 => ?_)
        have zv16 := ev16.trans ev5.symm
        refine w_ifne (t := 20) gz_42_4 rfl (fun u17 => by exfalso; omega) (fun u17 => ?_)
        refine w_aload_n gz_42_7 rfl ?_
        refine w_iload_n gz_42_8 rfl ?_
        refine w_bipush gz_42_9 (by decide) ?_
        refine w_aload_n gz_42_11 rfl ?_
        refine v_getI (j := 7) gz_42_12 rfl is_82 rd_5 rfl (fun v18 ev18 pv18 qv18 => ?_)
        refine w_imul gz_42_15 ⟨by omega, by omega⟩ ?_
        refine w_iadd gz_42_16 ⟨by omega, by omega⟩ ?_
        refine v_putI (j := 9) gz_42_17 rfl is_82 rd_5 rfl (by omega) (by omega) rfl (fun h19 fh19 => ?_)
        have gh19 : my_fr [(5, 9)] h h19 := my_fr.up my_fr.rf is_82 fh19 rfl
        refine w_vret gz_42_20 gm_42 ?_
        show wp l rho (d + 2) 43 27 [(2, 82), (0, v7)] [] h19 Q
        refine w_iconst gz_43_27 (by decide) ?_
        have c20 := (my_up_self fh19)
        exact w_iret gz_43_28 gm_43 (k0 h19 (gh19) (by omega) (by omega))
      ·
        refine w_iconst gz_13_18 (by decide) ?_
        refine w_goto (t := 23) gz_13_19 rfl ?_
        refine w_bret gz_13_23 gm_13 (by omega) (by omega) ?_
        show wp l rho (d + 2) 43 19 [(2, 82), (0, v7)] [(0, 1)] h Q
        refine w_ifne (t := 29) gz_43_19 rfl (fun u21 => ?_) (fun u21 => by exfalso; omega)
        refine w_iload_n gz_43_29 rfl ?_
        have c22 := ev1.symm
        have c23 := ev7.symm
        have c24 := ev5.symm
        exact w_iret gz_43_30 gm_43 (k1 h (v7) (my_fr.rf) (by omega) (by omega) (by omega) (by omega) (by omega) (by omega))
    ·
      refine w_aload_n gz_44_23 rfl ?_
      refine w_iconst gz_44_24 (by decide) ?_
      refine w_inv (k := 0) (as := [(0, 4)]) (r := []) (x := 82) (ls0 := [(2, 82), (0, 4)]) gz_44_25 gm_42 rfl is_82 rd_5 rfl rfl rfl rfl rfl ?_
      refine w_aload_n gz_42_0 rfl ?_
      refine v_getI (j := 9) gz_42_1 rfl is_82 rd_5 rfl (fun v25 ev25 pv25 qv25 => ?_)
      have zv25 := ev25.trans cf
      refine w_ifne (t := 20) gz_42_4 rfl (fun u26 => by exfalso; omega) (fun u26 => ?_)
      refine w_aload_n gz_42_7 rfl ?_
      refine w_iload_n gz_42_8 rfl ?_
      refine w_bipush gz_42_9 (by decide) ?_
      refine w_aload_n gz_42_11 rfl ?_
      refine v_getI (j := 7) gz_42_12 rfl is_82 rd_5 rfl (fun v27 ev27 pv27 qv27 => ?_)
      refine w_imul gz_42_15 ⟨by omega, by omega⟩ ?_
      refine w_iadd gz_42_16 ⟨by omega, by omega⟩ ?_
      refine v_putI (j := 9) gz_42_17 rfl is_82 rd_5 rfl (by omega) (by omega) rfl (fun h28 fh28 => ?_)
      have gh28 : my_fr [(5, 9)] h h28 := my_fr.up my_fr.rf is_82 fh28 rfl
      refine w_vret gz_42_20 gm_42 ?_
      show wp l rho (d + 1) 44 28 [(2, 82), (0, 3)] [] h28 _
      refine w_iconst gz_44_28 (by decide) ?_
      refine w_iret gz_44_29 gm_44 ?_
      show wp l rho (d + 2) 43 5 [(2, 82), (9, 0)] [(0, (-1))] h28 Q
      refine w_istore_n (ls' := [(2, 82), (0, (-1))]) gz_43_5 gm_43 rfl rfl rfl ?_
      refine w_iload_n gz_43_6 rfl ?_
      refine w_iconst gz_43_7 (by decide) ?_
      refine w_iceq (t := 29) gz_43_8 rfl (fun u29 => ?_) (fun u29 => by exfalso; omega)
      refine w_iload_n gz_43_29 rfl ?_
      have c30 := (my_up_self fh28)
      exact w_iret gz_43_30 gm_43 (k0 h28 (gh28) (by omega) (by omega))
  ·
    refine w_aload_n gz_44_8 rfl ?_
    refine w_iconst gz_44_9 (by decide) ?_
    refine w_inv (k := 0) (as := [(0, 1)]) (r := []) (x := 82) (ls0 := [(2, 82), (0, 1)]) gz_44_10 gm_42 rfl is_82 rd_5 rfl rfl rfl rfl rfl ?_
    refine w_aload_n gz_42_0 rfl ?_
    refine v_getI (j := 9) gz_42_1 rfl is_82 rd_5 rfl (fun v31 ev31 pv31 qv31 => ?_)
    have zv31 := ev31.trans cf
    refine w_ifne (t := 20) gz_42_4 rfl (fun u32 => by exfalso; omega) (fun u32 => ?_)
    refine w_aload_n gz_42_7 rfl ?_
    refine w_iload_n gz_42_8 rfl ?_
    refine w_bipush gz_42_9 (by decide) ?_
    refine w_aload_n gz_42_11 rfl ?_
    refine v_getI (j := 7) gz_42_12 rfl is_82 rd_5 rfl (fun v33 ev33 pv33 qv33 => ?_)
    refine w_imul gz_42_15 ⟨by omega, by omega⟩ ?_
    refine w_iadd gz_42_16 ⟨by omega, by omega⟩ ?_
    refine v_putI (j := 9) gz_42_17 rfl is_82 rd_5 rfl (by omega) (by omega) rfl (fun h34 fh34 => ?_)
    have gh34 : my_fr [(5, 9)] h h34 := my_fr.up my_fr.rf is_82 fh34 rfl
    refine w_vret gz_42_20 gm_42 ?_
    show wp l rho (d + 1) 44 13 [(2, 82), (0, 3)] [] h34 _
    refine w_iconst gz_44_13 (by decide) ?_
    refine w_iret gz_44_14 gm_44 ?_
    show wp l rho (d + 2) 43 5 [(2, 82), (9, 0)] [(0, (-1))] h34 Q
    refine w_istore_n (ls' := [(2, 82), (0, (-1))]) gz_43_5 gm_43 rfl rfl rfl ?_
    refine w_iload_n gz_43_6 rfl ?_
    refine w_iconst gz_43_7 (by decide) ?_
    refine w_iceq (t := 29) gz_43_8 rfl (fun u35 => ?_) (fun u35 => by exfalso; omega)
    refine w_iload_n gz_43_29 rfl ?_
    have c36 := (my_up_self fh34)
    exact w_iret gz_43_30 gm_43 (k0 h34 (gh34) (by omega) (by omega))
theorem ix_4_7 {x : Int} (hx : my_is 4 x) : my_is 38 (x + 7) := my_isOff (δ := 7) hx (by decide +kernel)
theorem gz_45_0 : mz_pg 45 0 = some (.aload_n 0, 0, 0, 0) := by decide +kernel
theorem gz_45_1 : mz_pg 45 1 = some (.iconst (-1), 0, 0, 0) := by decide +kernel
theorem gz_45_2 : mz_pg 45 2 = some (.putfield 36, 4, 1, 198) := by decide +kernel
theorem gz_45_5 : mz_pg 45 5 = some (.aload_n 0, 0, 0, 0) := by decide +kernel
theorem gz_45_6 : mz_pg 45 6 = some (.iload_n 1, 0, 0, 0) := by decide +kernel
theorem gz_45_7 : mz_pg 45 7 = some (.putfield 40, 4, 2, 201) := by decide +kernel
theorem gz_45_10 : mz_pg 45 10 = some (.aload_n 0, 0, 0, 0) := by decide +kernel
theorem gz_45_11 : mz_pg 45 11 = some (.iload_n 2, 0, 0, 0) := by decide +kernel
theorem gz_45_12 : mz_pg 45 12 = some (.putfield 43, 4, 3, 205) := by decide +kernel
theorem gz_45_15 : mz_pg 45 15 = some (.aload_n 0, 0, 0, 0) := by decide +kernel
theorem gz_45_16 : mz_pg 45 16 = some (.iload_n 2, 0, 0, 0) := by decide +kernel
theorem gz_45_17 : mz_pg 45 17 = some (.putfield 46, 4, 4, 208) := by decide +kernel
theorem gz_45_20 : mz_pg 45 20 = some (.aload_n 0, 0, 0, 0) := by decide +kernel
theorem gz_45_21 : mz_pg 45 21 = some (.iconst 0, 0, 0, 0) := by decide +kernel
theorem gz_45_22 : mz_pg 45 22 = some (.putfield 49, 4, 5, 211) := by decide +kernel
theorem gz_45_25 : mz_pg 45 25 = some (.aload_n 0, 0, 0, 0) := by decide +kernel
theorem gz_45_26 : mz_pg 45 26 = some (.iconst 1, 0, 0, 0) := by decide +kernel
theorem gz_45_27 : mz_pg 45 27 = some (.iload_n 1, 0, 0, 0) := by decide +kernel
theorem gz_45_28 : mz_pg 45 28 = some (.ishl, 0, 0, 0) := by decide +kernel
theorem gz_45_29 : mz_pg 45 29 = some (.putfield 52, 4, 6, 213) := by decide +kernel
theorem gz_45_32 : mz_pg 45 32 = some (.aload_n 0, 0, 0, 0) := by decide +kernel
theorem gz_45_33 : mz_pg 45 33 = some (.iconst 0, 0, 0, 0) := by decide +kernel
theorem gz_45_34 : mz_pg 45 34 = some (.putfield 55, 4, 7, 216) := by decide +kernel
theorem gz_45_37 : mz_pg 45 37 = some (.aload_n 0, 0, 0, 0) := by decide +kernel
theorem gz_45_38 : mz_pg 45 38 = some (.iconst 0, 0, 0, 0) := by decide +kernel
theorem gz_45_39 : mz_pg 45 39 = some (.putfield 59, 4, 8, 218) := by decide +kernel
theorem gz_45_42 : mz_pg 45 42 = some (.aload_n 0, 0, 0, 0) := by decide +kernel
theorem gz_45_43 : mz_pg 45 43 = some (.iconst 0, 0, 0, 0) := by decide +kernel
theorem gz_45_44 : mz_pg 45 44 = some (.putfield 62, 4, 9, 219) := by decide +kernel
theorem gz_45_47 : mz_pg 45 47 = some (.iconst 0, 0, 0, 0) := by decide +kernel
theorem gz_45_48 : mz_pg 45 48 = some (.istore_n 3, 0, 0, 0) := by decide +kernel
theorem gz_45_49 : mz_pg 45 49 = some (.iload_n 3, 0, 0, 0) := by decide +kernel
theorem gz_45_50 : mz_pg 45 50 = some (.iconst 4, 0, 0, 0) := by decide +kernel
theorem gz_45_51 : mz_pg 45 51 = some (.if_icmp .ge 27, 0, 0, 0) := by decide +kernel
theorem gz_45_54 : mz_pg 45 54 = some (.aload_n 0, 0, 0, 0) := by decide +kernel
theorem gz_45_55 : mz_pg 45 55 = some (.getfield 30, 4, 16, 233) := by decide +kernel
theorem gz_45_58 : mz_pg 45 58 = some (.iload_n 3, 0, 0, 0) := by decide +kernel
theorem gz_45_59 : mz_pg 45 59 = some (.iconst 0, 0, 0, 0) := by decide +kernel
theorem gz_45_60 : mz_pg 45 60 = some (.iastore, 0, 0, 0) := by decide +kernel
theorem gz_45_61 : mz_pg 45 61 = some (.aload_n 0, 0, 0, 0) := by decide +kernel
theorem gz_45_62 : mz_pg 45 62 = some (.getfield 27, 4, 15, 232) := by decide +kernel
theorem gz_45_65 : mz_pg 45 65 = some (.iload_n 3, 0, 0, 0) := by decide +kernel
theorem gz_45_66 : mz_pg 45 66 = some (.iload_n 1, 0, 0, 0) := by decide +kernel
theorem gz_45_67 : mz_pg 45 67 = some (.iload_n 3, 0, 0, 0) := by decide +kernel
theorem gz_45_68 : mz_pg 45 68 = some (.invokestatic 65, 2, 29, 6) := by decide +kernel
theorem gz_45_71 : mz_pg 45 71 = some (.iastore, 0, 0, 0) := by decide +kernel
theorem gz_45_72 : mz_pg 45 72 = some (.iinc 3 1, 0, 0, 0) := by decide +kernel
theorem gz_45_75 : mz_pg 45 75 = some (.goto (-26), 0, 0, 0) := by decide +kernel
theorem gz_45_78 : mz_pg 45 78 = some (.return_, 0, 0, 0) := by decide +kernel
theorem gm_45 : my_mm 45 4 none 2 4 := by unfold my_mm; decide +kernel
theorem rd_38 : my_rd 38 = .inl (0, 4, [(0, 0, 19)]) := rfl
theorem c50_Lens_startOnWall {l : Launch} {rho : Nat → Int32} {d : Nat} {h : my_H} {Q : my_H → my_V → Prop} {x0 x1 x2 : Int} (t0 : my_is 4 x0) (a1 : 0 ≤ x1) (b1 : x1 ≤ 2) (a2 : 0 ≤ x2) (b2 : x2 ≤ 4) (k0 : ∀ (h' : my_H), my_fr [(4, 1), (4, 2), (4, 3), (4, 4), (4, 5), (4, 6), (4, 7), (4, 8), (4, 9), (37, -1), (38, -1)] h h' → my_fx x0 8 h h' → h' x0 1 = (-1) → 0 ≤ h' x0 4 → h' x0 4 ≤ 4 → h' x0 5 = 0 → h' x0 7 = 0 → h' x0 8 = 0 → h' x0 9 = 0 → Q h' (9, 0)) : wp l rho (d + 1) 45 0 [(2, x0), (0, x1), (0, x2), (9, 0)] [] h Q := by
  have J49_0 : ∀ (n : Nat) (p49_0 p49_1 : Int) (h49_0 : my_H), my_fr [(4, 1), (4, 2), (4, 3), (4, 4), (4, 5), (4, 6), (4, 7), (4, 8), (4, 9), (37, -1), (38, -1)] h h49_0 → my_fx x0 8 h h49_0 → 0 ≤ p49_0 → p49_0 ≤ 4 → h49_0 x0 1 = (-1) → h49_0 x0 2 = x1 → h49_0 x0 3 = x2 → h49_0 x0 4 = x2 → h49_0 x0 5 = 0 → h49_0 x0 6 = p49_1 → h49_0 x0 7 = 0 → h49_0 x0 8 = 0 → h49_0 x0 9 = 0 → 5 - p49_0 ≤ (n : Int) → wp l rho (d + 1) 45 49 [(2, x0), (0, x1), (0, x2), (0, p49_0)] [] h49_0 Q := by
    intro n
    induction n with
    | zero => intro p49_0 p49_1 h49_0 gh_49_0 gx_49_0 q0_49_0 q1_49_0 ca0_1_49_0 ca0_2_49_0 ca0_3_49_0 ca0_4_49_0 ca0_5_49_0 ca0_6_49_0 ca0_7_49_0 ca0_8_49_0 ca0_9_49_0 hm_49_0; exfalso; omega
    | succ n ih_49_0 =>
      intro p49_0 p49_1 h49_0 gh_49_0 gx_49_0 q0_49_0 q1_49_0 ca0_1_49_0 ca0_2_49_0 ca0_3_49_0 ca0_4_49_0 ca0_5_49_0 ca0_6_49_0 ca0_7_49_0 ca0_8_49_0 ca0_9_49_0 hm_49_0
      refine w_iload_n gz_45_49 rfl ?_
      refine w_iconst gz_45_50 (by decide) ?_
      refine w_icge (t := 78) gz_45_51 rfl (fun u1 => ?_) (fun u1 => ?_)
      ·
        have c2 := ca0_1_49_0
        have c3 := ca0_4_49_0
        have c4 := ca0_5_49_0
        have c5 := ca0_7_49_0
        have c6 := ca0_8_49_0
        have c7 := ca0_9_49_0
        exact w_vret gz_45_78 gm_45 (k0 h49_0 (gh_49_0) (gx_49_0) (by omega) (by omega) (by omega) (by omega) (by omega) (by omega) (by omega))
      ·
        refine w_aload_n gz_45_54 rfl ?_
        refine w_getX (v := (x0 + 7)) gz_45_55 t0 rd_4 rfl (by decide) rfl ?_
        refine w_iload_n gz_45_58 rfl ?_
        refine w_iconst gz_45_59 (by decide) ?_
        refine w_iast gz_45_60 (ix_4_7 t0) rd_38 (by omega) (by omega) (by omega) (by omega) (fun h9 fh9 => ?_)
        have gh9 : my_fr [(4, 1), (4, 2), (4, 3), (4, 4), (4, 5), (4, 6), (4, 7), (4, 8), (4, 9), (37, -1), (38, -1)] h h9 := my_fr.up gh_49_0 (ix_4_7 t0) fh9 rfl
        have gxh9 : my_fx x0 8 h h9 := my_fx.up gx_49_0 fh9 (by omega)
        refine w_aload_n gz_45_61 rfl ?_
        refine w_getX (v := (x0 + 6)) gz_45_62 t0 rd_4 rfl (by decide) rfl ?_
        refine w_iload_n gz_45_65 rfl ?_
        refine w_iload_n gz_45_66 rfl ?_
        refine w_iload_n gz_45_67 rfl ?_
        refine w_inS (k := 0) (as := [(0, p49_0), (0, x1)]) (r := [(0, p49_0), (2, (x0 + 6))]) (ls0 := [(0, x1), (0, p49_0)]) gz_45_68 gm_29 rfl rfl rfl rfl rfl rfl ?_
        refine w_iload_n gz_29_0 rfl ?_
        refine w_iconst gz_29_1 (by decide) ?_
        refine w_imul gz_29_2 ⟨by omega, by omega⟩ ?_
        refine w_iload_n gz_29_3 rfl ?_
        refine w_iadd gz_29_4 ⟨by omega, by omega⟩ ?_
        refine w_iret gz_29_5 gm_29 ?_
        show wp l rho (d + 1) 45 71 [(2, x0), (0, x1), (0, x2), (0, p49_0)] [(0, ((x1 * 4) + p49_0)), (0, p49_0), (2, (x0 + 6))] h9 Q
        refine w_iast gz_45_71 (ix_4_6 t0) rd_37 (by omega) (by omega) (by omega) (by omega) (fun h11 fh11 => ?_)
        have gh11 : my_fr [(4, 1), (4, 2), (4, 3), (4, 4), (4, 5), (4, 6), (4, 7), (4, 8), (4, 9), (37, -1), (38, -1)] h h11 := my_fr.up gh9 (ix_4_6 t0) fh11 rfl
        have gxh11 : my_fx x0 8 h h11 := my_fx.up gxh9 fh11 (by omega)
        refine w_iinc (ls' := [(2, x0), (0, x1), (0, x2), (0, (p49_0 + 1))]) gz_45_72 rfl gm_45 rfl rfl rfl ⟨by omega, by omega⟩ ?_
        refine w_goto (t := 49) gz_45_75 rfl ?_
        exact ih_49_0 ((p49_0 + 1)) (p49_1) h11 (gh11) (gxh11) (by omega) (by omega) (((my_up_role fh11 t0 (ix_4_6 t0) rfl).trans ((my_up_role fh9 t0 (ix_4_7 t0) rfl).trans ca0_1_49_0)).trans (by omega)) (((my_up_role fh11 t0 (ix_4_6 t0) rfl).trans ((my_up_role fh9 t0 (ix_4_7 t0) rfl).trans ca0_2_49_0)).trans (by omega)) (((my_up_role fh11 t0 (ix_4_6 t0) rfl).trans ((my_up_role fh9 t0 (ix_4_7 t0) rfl).trans ca0_3_49_0)).trans (by omega)) (((my_up_role fh11 t0 (ix_4_6 t0) rfl).trans ((my_up_role fh9 t0 (ix_4_7 t0) rfl).trans ca0_4_49_0)).trans (by omega)) (((my_up_role fh11 t0 (ix_4_6 t0) rfl).trans ((my_up_role fh9 t0 (ix_4_7 t0) rfl).trans ca0_5_49_0)).trans (by omega)) (((my_up_role fh11 t0 (ix_4_6 t0) rfl).trans ((my_up_role fh9 t0 (ix_4_7 t0) rfl).trans ca0_6_49_0)).trans (by omega)) (((my_up_role fh11 t0 (ix_4_6 t0) rfl).trans ((my_up_role fh9 t0 (ix_4_7 t0) rfl).trans ca0_7_49_0)).trans (by omega)) (((my_up_role fh11 t0 (ix_4_6 t0) rfl).trans ((my_up_role fh9 t0 (ix_4_7 t0) rfl).trans ca0_8_49_0)).trans (by omega)) (((my_up_role fh11 t0 (ix_4_6 t0) rfl).trans ((my_up_role fh9 t0 (ix_4_7 t0) rfl).trans ca0_9_49_0)).trans (by omega)) (by omega)
  refine w_aload_n gz_45_0 rfl ?_
  refine w_iconst gz_45_1 (by decide) ?_
  refine v_putI (j := 1) gz_45_2 rfl t0 rd_4 rfl (by omega) (by omega) rfl (fun h12 fh12 => ?_)
  have gh12 : my_fr [(4, 1), (4, 2), (4, 3), (4, 4), (4, 5), (4, 6), (4, 7), (4, 8), (4, 9), (37, -1), (38, -1)] h h12 := my_fr.up my_fr.rf t0 fh12 rfl
  have gxh12 : my_fx x0 8 h h12 := my_fx.up my_fx.rf fh12 (by omega)
  refine w_aload_n gz_45_5 rfl ?_
  refine w_iload_n gz_45_6 rfl ?_
  refine v_putI (j := 2) gz_45_7 rfl t0 rd_4 rfl (by omega) (by omega) rfl (fun h13 fh13 => ?_)
  have gh13 : my_fr [(4, 1), (4, 2), (4, 3), (4, 4), (4, 5), (4, 6), (4, 7), (4, 8), (4, 9), (37, -1), (38, -1)] h h13 := my_fr.up gh12 t0 fh13 rfl
  have gxh13 : my_fx x0 8 h h13 := my_fx.up gxh12 fh13 (by omega)
  refine w_aload_n gz_45_10 rfl ?_
  refine w_iload_n gz_45_11 rfl ?_
  refine v_putI (j := 3) gz_45_12 rfl t0 rd_4 rfl (by omega) (by omega) rfl (fun h14 fh14 => ?_)
  have gh14 : my_fr [(4, 1), (4, 2), (4, 3), (4, 4), (4, 5), (4, 6), (4, 7), (4, 8), (4, 9), (37, -1), (38, -1)] h h14 := my_fr.up gh13 t0 fh14 rfl
  have gxh14 : my_fx x0 8 h h14 := my_fx.up gxh13 fh14 (by omega)
  refine w_aload_n gz_45_15 rfl ?_
  refine w_iload_n gz_45_16 rfl ?_
  refine v_putI (j := 4) gz_45_17 rfl t0 rd_4 rfl (by omega) (by omega) rfl (fun h15 fh15 => ?_)
  have gh15 : my_fr [(4, 1), (4, 2), (4, 3), (4, 4), (4, 5), (4, 6), (4, 7), (4, 8), (4, 9), (37, -1), (38, -1)] h h15 := my_fr.up gh14 t0 fh15 rfl
  have gxh15 : my_fx x0 8 h h15 := my_fx.up gxh14 fh15 (by omega)
  refine w_aload_n gz_45_20 rfl ?_
  refine w_iconst gz_45_21 (by decide) ?_
  refine v_putA (j := 5) gz_45_22 rfl t0 rd_4 rfl rfl (fun h16 fh16 => ?_)
  have gh16 : my_fr [(4, 1), (4, 2), (4, 3), (4, 4), (4, 5), (4, 6), (4, 7), (4, 8), (4, 9), (37, -1), (38, -1)] h h16 := my_fr.up gh15 t0 fh16 rfl
  have gxh16 : my_fx x0 8 h h16 := my_fx.up gxh15 fh16 (by omega)
  refine w_aload_n gz_45_25 rfl ?_
  refine w_iconst gz_45_26 (by decide) ?_
  refine w_iload_n gz_45_27 rfl ?_
  refine w_ianyL gz_45_28 (fun v17 pv17 qv17 => ?_)
  refine v_putA (j := 6) gz_45_29 rfl t0 rd_4 rfl rfl (fun h18 fh18 => ?_)
  have gh18 : my_fr [(4, 1), (4, 2), (4, 3), (4, 4), (4, 5), (4, 6), (4, 7), (4, 8), (4, 9), (37, -1), (38, -1)] h h18 := my_fr.up gh16 t0 fh18 rfl
  have gxh18 : my_fx x0 8 h h18 := my_fx.up gxh16 fh18 (by omega)
  refine w_aload_n gz_45_32 rfl ?_
  refine w_iconst gz_45_33 (by decide) ?_
  refine v_putB (j := 7) gz_45_34 rfl t0 rd_4 rfl (by omega) (by omega) rfl (fun h19 fh19 => ?_)
  have gh19 : my_fr [(4, 1), (4, 2), (4, 3), (4, 4), (4, 5), (4, 6), (4, 7), (4, 8), (4, 9), (37, -1), (38, -1)] h h19 := my_fr.up gh18 t0 fh19 rfl
  have gxh19 : my_fx x0 8 h h19 := my_fx.up gxh18 fh19 (by omega)
  refine w_aload_n gz_45_37 rfl ?_
  refine w_iconst gz_45_38 (by decide) ?_
  refine v_putA (j := 8) gz_45_39 rfl t0 rd_4 rfl rfl (fun h20 fh20 => ?_)
  have gh20 : my_fr [(4, 1), (4, 2), (4, 3), (4, 4), (4, 5), (4, 6), (4, 7), (4, 8), (4, 9), (37, -1), (38, -1)] h h20 := my_fr.up gh19 t0 fh20 rfl
  have gxh20 : my_fx x0 8 h h20 := my_fx.up gxh19 fh20 (by omega)
  refine w_aload_n gz_45_42 rfl ?_
  refine w_iconst gz_45_43 (by decide) ?_
  refine v_putI (j := 9) gz_45_44 rfl t0 rd_4 rfl (by omega) (by omega) rfl (fun h21 fh21 => ?_)
  have gh21 : my_fr [(4, 1), (4, 2), (4, 3), (4, 4), (4, 5), (4, 6), (4, 7), (4, 8), (4, 9), (37, -1), (38, -1)] h h21 := my_fr.up gh20 t0 fh21 rfl
  have gxh21 : my_fx x0 8 h h21 := my_fx.up gxh20 fh21 (by omega)
  refine w_iconst gz_45_47 (by decide) ?_
  refine w_istore_n (ls' := [(2, x0), (0, x1), (0, x2), (0, 0)]) gz_45_48 gm_45 rfl rfl rfl ?_
  exact J49_0 5 (0) (v17) h21 (gh21) (gxh21) (by omega) (by omega) (((my_up_fld fh21 (by decide)).trans ((my_up_fld fh20 (by decide)).trans ((my_up_fld fh19 (by decide)).trans ((my_up_fld fh18 (by decide)).trans ((my_up_fld fh16 (by decide)).trans ((my_up_fld fh15 (by decide)).trans ((my_up_fld fh14 (by decide)).trans ((my_up_fld fh13 (by decide)).trans (my_up_self fh12))))))))).trans (by omega)) (((my_up_fld fh21 (by decide)).trans ((my_up_fld fh20 (by decide)).trans ((my_up_fld fh19 (by decide)).trans ((my_up_fld fh18 (by decide)).trans ((my_up_fld fh16 (by decide)).trans ((my_up_fld fh15 (by decide)).trans ((my_up_fld fh14 (by decide)).trans (my_up_self fh13)))))))).trans (by omega)) (((my_up_fld fh21 (by decide)).trans ((my_up_fld fh20 (by decide)).trans ((my_up_fld fh19 (by decide)).trans ((my_up_fld fh18 (by decide)).trans ((my_up_fld fh16 (by decide)).trans ((my_up_fld fh15 (by decide)).trans (my_up_self fh14))))))).trans (by omega)) (((my_up_fld fh21 (by decide)).trans ((my_up_fld fh20 (by decide)).trans ((my_up_fld fh19 (by decide)).trans ((my_up_fld fh18 (by decide)).trans ((my_up_fld fh16 (by decide)).trans (my_up_self fh15)))))).trans (by omega)) (((my_up_fld fh21 (by decide)).trans ((my_up_fld fh20 (by decide)).trans ((my_up_fld fh19 (by decide)).trans ((my_up_fld fh18 (by decide)).trans (my_up_self fh16))))).trans (by omega)) (((my_up_fld fh21 (by decide)).trans ((my_up_fld fh20 (by decide)).trans ((my_up_fld fh19 (by decide)).trans (my_up_self fh18)))).trans (by omega)) (((my_up_fld fh21 (by decide)).trans ((my_up_fld fh20 (by decide)).trans (my_up_self fh19))).trans (by omega)) (((my_up_fld fh21 (by decide)).trans (my_up_self fh20)).trans (by omega)) ((my_up_self fh21).trans (by omega)) (by omega)
theorem gz_48_0 : mz_pg 48 0 = some (.aload_n 0, 0, 0, 0) := by decide +kernel
theorem gz_48_1 : mz_pg 48 1 = some (.iload_n 1, 0, 0, 0) := by decide +kernel
theorem gz_48_2 : mz_pg 48 2 = some (.putfield 36, 4, 1, 198) := by decide +kernel
theorem gz_48_5 : mz_pg 48 5 = some (.aload_n 0, 0, 0, 0) := by decide +kernel
theorem gz_48_6 : mz_pg 48 6 = some (.aload_n 2, 0, 0, 0) := by decide +kernel
theorem gz_48_7 : mz_pg 48 7 = some (.getfield 40, 4, 2, 201) := by decide +kernel
theorem gz_48_10 : mz_pg 48 10 = some (.putfield 40, 4, 2, 201) := by decide +kernel
theorem gz_48_13 : mz_pg 48 13 = some (.aload_n 0, 0, 0, 0) := by decide +kernel
theorem gz_48_14 : mz_pg 48 14 = some (.aload_n 2, 0, 0, 0) := by decide +kernel
theorem gz_48_15 : mz_pg 48 15 = some (.getfield 43, 4, 3, 205) := by decide +kernel
theorem gz_48_18 : mz_pg 48 18 = some (.putfield 43, 4, 3, 205) := by decide +kernel
theorem gz_48_21 : mz_pg 48 21 = some (.aload_n 0, 0, 0, 0) := by decide +kernel
theorem gz_48_22 : mz_pg 48 22 = some (.aload_n 2, 0, 0, 0) := by decide +kernel
theorem gz_48_23 : mz_pg 48 23 = some (.getfield 46, 4, 4, 208) := by decide +kernel
theorem gz_48_26 : mz_pg 48 26 = some (.putfield 46, 4, 4, 208) := by decide +kernel
theorem gz_48_29 : mz_pg 48 29 = some (.aload_n 0, 0, 0, 0) := by decide +kernel
theorem gz_48_30 : mz_pg 48 30 = some (.aload_n 2, 0, 0, 0) := by decide +kernel
theorem gz_48_31 : mz_pg 48 31 = some (.getfield 49, 4, 5, 211) := by decide +kernel
theorem gz_48_34 : mz_pg 48 34 = some (.putfield 49, 4, 5, 211) := by decide +kernel
theorem gz_48_37 : mz_pg 48 37 = some (.aload_n 0, 0, 0, 0) := by decide +kernel
theorem gz_48_38 : mz_pg 48 38 = some (.aload_n 2, 0, 0, 0) := by decide +kernel
theorem gz_48_39 : mz_pg 48 39 = some (.getfield 52, 4, 6, 213) := by decide +kernel
theorem gz_48_42 : mz_pg 48 42 = some (.putfield 52, 4, 6, 213) := by decide +kernel
theorem gz_48_45 : mz_pg 48 45 = some (.aload_n 0, 0, 0, 0) := by decide +kernel
theorem gz_48_46 : mz_pg 48 46 = some (.aload_n 2, 0, 0, 0) := by decide +kernel
theorem gz_48_47 : mz_pg 48 47 = some (.getfield 55, 4, 7, 216) := by decide +kernel
theorem gz_48_50 : mz_pg 48 50 = some (.putfield 55, 4, 7, 216) := by decide +kernel
theorem gz_48_53 : mz_pg 48 53 = some (.aload_n 0, 0, 0, 0) := by decide +kernel
theorem gz_48_54 : mz_pg 48 54 = some (.aload_n 2, 0, 0, 0) := by decide +kernel
theorem gz_48_55 : mz_pg 48 55 = some (.getfield 59, 4, 8, 218) := by decide +kernel
theorem gz_48_58 : mz_pg 48 58 = some (.putfield 59, 4, 8, 218) := by decide +kernel
theorem gz_48_61 : mz_pg 48 61 = some (.aload_n 0, 0, 0, 0) := by decide +kernel
theorem gz_48_62 : mz_pg 48 62 = some (.iconst 0, 0, 0, 0) := by decide +kernel
theorem gz_48_63 : mz_pg 48 63 = some (.putfield 62, 4, 9, 219) := by decide +kernel
theorem gz_48_66 : mz_pg 48 66 = some (.aload_n 2, 0, 0, 0) := by decide +kernel
theorem gz_48_67 : mz_pg 48 67 = some (.getfield 30, 4, 16, 233) := by decide +kernel
theorem gz_48_70 : mz_pg 48 70 = some (.iconst 0, 0, 0, 0) := by decide +kernel
theorem gz_48_71 : mz_pg 48 71 = some (.aload_n 0, 0, 0, 0) := by decide +kernel
theorem gz_48_72 : mz_pg 48 72 = some (.getfield 30, 4, 16, 233) := by decide +kernel
theorem gz_48_75 : mz_pg 48 75 = some (.iconst 0, 0, 0, 0) := by decide +kernel
theorem gz_48_76 : mz_pg 48 76 = some (.iconst 4, 0, 0, 0) := by decide +kernel
theorem gz_48_77 : mz_pg 48 77 = some (.invokestatic 69, 0, 0, 755) := by decide +kernel
theorem gz_48_80 : mz_pg 48 80 = some (.aload_n 2, 0, 0, 0) := by decide +kernel
theorem gz_48_81 : mz_pg 48 81 = some (.getfield 27, 4, 15, 232) := by decide +kernel
theorem gz_48_84 : mz_pg 48 84 = some (.iconst 0, 0, 0, 0) := by decide +kernel
theorem gz_48_85 : mz_pg 48 85 = some (.aload_n 0, 0, 0, 0) := by decide +kernel
theorem gz_48_86 : mz_pg 48 86 = some (.getfield 27, 4, 15, 232) := by decide +kernel
theorem gz_48_89 : mz_pg 48 89 = some (.iconst 0, 0, 0, 0) := by decide +kernel
theorem gz_48_90 : mz_pg 48 90 = some (.bipush 8, 0, 0, 0) := by decide +kernel
theorem gz_48_92 : mz_pg 48 92 = some (.invokestatic 69, 0, 0, 755) := by decide +kernel
theorem gz_48_95 : mz_pg 48 95 = some (.return_, 0, 0, 0) := by decide +kernel
theorem gm_48 : my_mm 48 3 none 2 4 := by unfold my_mm; decide +kernel
theorem c51_Lens_startOnWindow {l : Launch} {rho : Nat → Int32} {d : Nat} {h : my_H} {Q : my_H → my_V → Prop} {x0 x1 x2 : Int} (t0 : my_is 4 x0) (a1 : 0 ≤ x1) (b1 : x1 ≤ 4) (t2 : my_is 4 x2) (k0 : ∀ (h' : my_H), my_fr [(4, 1), (4, 2), (4, 3), (4, 4), (4, 5), (4, 6), (4, 7), (4, 8), (4, 9), (37, -1), (38, -1)] h h' → my_fx x0 8 h h' → 0 ≤ h' x0 1 → h' x0 1 ≤ 4 → h' x0 9 = 0 → Q h' (9, 0)) : wp l rho (d + 1) 48 0 [(2, x0), (0, x1), (2, x2)] [] h Q := by
  refine w_aload_n gz_48_0 rfl ?_
  refine w_iload_n gz_48_1 rfl ?_
  refine v_putI (j := 1) gz_48_2 rfl t0 rd_4 rfl (by omega) (by omega) rfl (fun h1 fh1 => ?_)
  have gh1 : my_fr [(4, 1), (4, 2), (4, 3), (4, 4), (4, 5), (4, 6), (4, 7), (4, 8), (4, 9), (37, -1), (38, -1)] h h1 := my_fr.up my_fr.rf t0 fh1 rfl
  have gxh1 : my_fx x0 8 h h1 := my_fx.up my_fx.rf fh1 (by omega)
  refine w_aload_n gz_48_5 rfl ?_
  refine w_aload_n gz_48_6 rfl ?_
  refine v_getI (j := 2) gz_48_7 rfl t2 rd_4 rfl (fun v2 ev2 pv2 qv2 => ?_)
  refine v_putI (j := 2) gz_48_10 rfl t0 rd_4 rfl (by omega) (by omega) rfl (fun h3 fh3 => ?_)
  have gh3 : my_fr [(4, 1), (4, 2), (4, 3), (4, 4), (4, 5), (4, 6), (4, 7), (4, 8), (4, 9), (37, -1), (38, -1)] h h3 := my_fr.up gh1 t0 fh3 rfl
  have gxh3 : my_fx x0 8 h h3 := my_fx.up gxh1 fh3 (by omega)
  refine w_aload_n gz_48_13 rfl ?_
  refine w_aload_n gz_48_14 rfl ?_
  refine v_getI (j := 3) gz_48_15 rfl t2 rd_4 rfl (fun v4 ev4 pv4 qv4 => ?_)
  refine v_putI (j := 3) gz_48_18 rfl t0 rd_4 rfl (by omega) (by omega) rfl (fun h5 fh5 => ?_)
  have gh5 : my_fr [(4, 1), (4, 2), (4, 3), (4, 4), (4, 5), (4, 6), (4, 7), (4, 8), (4, 9), (37, -1), (38, -1)] h h5 := my_fr.up gh3 t0 fh5 rfl
  have gxh5 : my_fx x0 8 h h5 := my_fx.up gxh3 fh5 (by omega)
  refine w_aload_n gz_48_21 rfl ?_
  refine w_aload_n gz_48_22 rfl ?_
  refine v_getI (j := 4) gz_48_23 rfl t2 rd_4 rfl (fun v6 ev6 pv6 qv6 => ?_)
  refine v_putI (j := 4) gz_48_26 rfl t0 rd_4 rfl (by omega) (by omega) rfl (fun h7 fh7 => ?_)
  have gh7 : my_fr [(4, 1), (4, 2), (4, 3), (4, 4), (4, 5), (4, 6), (4, 7), (4, 8), (4, 9), (37, -1), (38, -1)] h h7 := my_fr.up gh5 t0 fh7 rfl
  have gxh7 : my_fx x0 8 h h7 := my_fx.up gxh5 fh7 (by omega)
  refine w_aload_n gz_48_29 rfl ?_
  refine w_aload_n gz_48_30 rfl ?_
  refine v_getI (j := 5) gz_48_31 rfl t2 rd_4 rfl (fun v8 ev8 pv8 qv8 => ?_)
  refine v_putA (j := 5) gz_48_34 rfl t0 rd_4 rfl rfl (fun h9 fh9 => ?_)
  have gh9 : my_fr [(4, 1), (4, 2), (4, 3), (4, 4), (4, 5), (4, 6), (4, 7), (4, 8), (4, 9), (37, -1), (38, -1)] h h9 := my_fr.up gh7 t0 fh9 rfl
  have gxh9 : my_fx x0 8 h h9 := my_fx.up gxh7 fh9 (by omega)
  refine w_aload_n gz_48_37 rfl ?_
  refine w_aload_n gz_48_38 rfl ?_
  refine v_getI (j := 6) gz_48_39 rfl t2 rd_4 rfl (fun v10 ev10 pv10 qv10 => ?_)
  refine v_putA (j := 6) gz_48_42 rfl t0 rd_4 rfl rfl (fun h11 fh11 => ?_)
  have gh11 : my_fr [(4, 1), (4, 2), (4, 3), (4, 4), (4, 5), (4, 6), (4, 7), (4, 8), (4, 9), (37, -1), (38, -1)] h h11 := my_fr.up gh9 t0 fh11 rfl
  have gxh11 : my_fx x0 8 h h11 := my_fx.up gxh9 fh11 (by omega)
  refine w_aload_n gz_48_45 rfl ?_
  refine w_aload_n gz_48_46 rfl ?_
  refine v_getI (j := 7) gz_48_47 rfl t2 rd_4 rfl (fun v12 ev12 pv12 qv12 => ?_)
  refine v_putB (j := 7) gz_48_50 rfl t0 rd_4 rfl (by omega) (by omega) rfl (fun h13 fh13 => ?_)
  have gh13 : my_fr [(4, 1), (4, 2), (4, 3), (4, 4), (4, 5), (4, 6), (4, 7), (4, 8), (4, 9), (37, -1), (38, -1)] h h13 := my_fr.up gh11 t0 fh13 rfl
  have gxh13 : my_fx x0 8 h h13 := my_fx.up gxh11 fh13 (by omega)
  refine w_aload_n gz_48_53 rfl ?_
  refine w_aload_n gz_48_54 rfl ?_
  refine v_getI (j := 8) gz_48_55 rfl t2 rd_4 rfl (fun v14 ev14 pv14 qv14 => ?_)
  refine v_putA (j := 8) gz_48_58 rfl t0 rd_4 rfl rfl (fun h15 fh15 => ?_)
  have gh15 : my_fr [(4, 1), (4, 2), (4, 3), (4, 4), (4, 5), (4, 6), (4, 7), (4, 8), (4, 9), (37, -1), (38, -1)] h h15 := my_fr.up gh13 t0 fh15 rfl
  have gxh15 : my_fx x0 8 h h15 := my_fx.up gxh13 fh15 (by omega)
  refine w_aload_n gz_48_61 rfl ?_
  refine w_iconst gz_48_62 (by decide) ?_
  refine v_putI (j := 9) gz_48_63 rfl t0 rd_4 rfl (by omega) (by omega) rfl (fun h16 fh16 => ?_)
  have gh16 : my_fr [(4, 1), (4, 2), (4, 3), (4, 4), (4, 5), (4, 6), (4, 7), (4, 8), (4, 9), (37, -1), (38, -1)] h h16 := my_fr.up gh15 t0 fh16 rfl
  have gxh16 : my_fx x0 8 h h16 := my_fx.up gxh15 fh16 (by omega)
  refine w_aload_n gz_48_66 rfl ?_
  refine w_getX (v := (x2 + 7)) gz_48_67 t2 rd_4 rfl (by decide) rfl ?_
  refine w_iconst gz_48_70 (by decide) ?_
  refine w_aload_n gz_48_71 rfl ?_
  refine w_getX (v := (x0 + 7)) gz_48_72 t0 rd_4 rfl (by decide) rfl ?_
  refine w_iconst gz_48_75 (by decide) ?_
  refine w_iconst gz_48_76 (by decide) ?_
  refine w_cpU gz_48_77 (ix_4_7 t2) rd_38 (ix_4_7 t0) rd_38 (by omega) (by omega) (by omega) (by omega) (by omega) rfl (by decide) (by decide) (fun h19 fh19 => ?_)
  have gh19 : my_fr [(4, 1), (4, 2), (4, 3), (4, 4), (4, 5), (4, 6), (4, 7), (4, 8), (4, 9), (37, -1), (38, -1)] h h19 := my_fr.cp gh16 (ix_4_7 t0) fh19 rfl
  have gxh19 : my_fx x0 8 h h19 := my_fx.cp gxh16 fh19 (by omega)
  refine w_aload_n gz_48_80 rfl ?_
  refine w_getX (v := (x2 + 6)) gz_48_81 t2 rd_4 rfl (by decide) rfl ?_
  refine w_iconst gz_48_84 (by decide) ?_
  refine w_aload_n gz_48_85 rfl ?_
  refine w_getX (v := (x0 + 6)) gz_48_86 t0 rd_4 rfl (by decide) rfl ?_
  refine w_iconst gz_48_89 (by decide) ?_
  refine w_bipush gz_48_90 (by decide) ?_
  refine w_cpU gz_48_92 (ix_4_6 t2) rd_37 (ix_4_6 t0) rd_37 (by omega) (by omega) (by omega) (by omega) (by omega) rfl (by decide) (by decide) (fun h22 fh22 => ?_)
  have gh22 : my_fr [(4, 1), (4, 2), (4, 3), (4, 4), (4, 5), (4, 6), (4, 7), (4, 8), (4, 9), (37, -1), (38, -1)] h h22 := my_fr.cp gh19 (ix_4_6 t0) fh22 rfl
  have gxh22 : my_fx x0 8 h h22 := my_fx.cp gxh19 fh22 (by omega)
  have c23 := ((my_cp_role fh22 t0 (ix_4_6 t0) rfl).trans ((my_cp_role fh19 t0 (ix_4_7 t0) rfl).trans ((my_up_fld fh16 (by decide)).trans ((my_up_fld fh15 (by decide)).trans ((my_up_fld fh13 (by decide)).trans ((my_up_fld fh11 (by decide)).trans ((my_up_fld fh9 (by decide)).trans ((my_up_fld fh7 (by decide)).trans ((my_up_fld fh5 (by decide)).trans ((my_up_fld fh3 (by decide)).trans (my_up_self fh1)))))))))))
  have c24 := ((my_cp_role fh22 t0 (ix_4_6 t0) rfl).trans ((my_cp_role fh19 t0 (ix_4_7 t0) rfl).trans (my_up_self fh16)))
  exact w_vret gz_48_95 gm_48 (k0 h22 (gh22) (gxh22) (by omega) (by omega) (by omega))
theorem gz_44_44 : mz_pg 44 44 = some (.iconst (-1), 0, 0, 0) := by decide +kernel
theorem gz_51_0 : mz_pg 51 0 = some (.aload_n 0, 0, 0, 0) := by decide +kernel
theorem gz_51_1 : mz_pg 51 1 = some (.iload_n 1, 0, 0, 0) := by decide +kernel
theorem gz_51_2 : mz_pg 51 2 = some (.invokevirtual 87, 1, 44, 737) := by decide +kernel
theorem gz_51_5 : mz_pg 51 5 = some (.istore_n 2, 0, 0, 0) := by decide +kernel
theorem gz_51_6 : mz_pg 51 6 = some (.iload_n 2, 0, 0, 0) := by decide +kernel
theorem gz_51_7 : mz_pg 51 7 = some (.iconst (-1), 0, 0, 0) := by decide +kernel
theorem gz_51_8 : mz_pg 51 8 = some (.if_icmp .eq 7, 0, 0, 0) := by decide +kernel
theorem gz_51_15 : mz_pg 51 15 = some (.iload_n 2, 0, 0, 0) := by decide +kernel
theorem gz_51_16 : mz_pg 51 16 = some (.ireturn, 0, 0, 0) := by decide +kernel
theorem gm_51 : my_mm 51 3 (some .int) 1 5 := by unfold my_mm; decide +kernel
theorem c52_Reader_takeNumber {l : Launch} {rho : Nat → Int32} {d : Nat} {h : my_H} {Q : my_H → my_V → Prop} {x1 : Int} (a1 : 20 ≤ x1) (b1 : x1 ≤ 200) (xf : Int) (cf : h 82 9 = xf) (cf1 : 1 ≤ xf) (cf2 : xf ≤ 16005) (k0 : 1 ≤ h 82 9 → h 82 9 ≤ 16005 → Q h (0, (-1))) : wp l rho (d + 2) 51 0 [(2, 82), (0, x1), (9, 0)] [] h Q := by
  refine w_aload_n gz_51_0 rfl ?_
  refine w_iload_n gz_51_1 rfl ?_
  refine w_inv (k := 0) (as := [(0, x1)]) (r := []) (x := 82) (ls0 := [(2, 82), (0, x1)]) gz_51_2 gm_44 rfl is_82 rd_5 rfl rfl rfl rfl rfl ?_
  refine w_aload_n gz_44_0 rfl ?_
  refine v_getI (j := 6) gz_44_1 rfl is_82 rd_5 rfl (fun v1 ev1 pv1 qv1 => ?_)
  refine w_iconst gz_44_4 (by decide) ?_
  refine w_iceq (t := 15) gz_44_5 rfl (fun u2 => ?_) (fun u2 => ?_)
  ·
    refine w_aload_n gz_44_15 rfl ?_
    refine v_getI (j := 8) gz_44_16 rfl is_82 rd_5 rfl (fun v3 ev3 pv3 qv3 => ?_)
    refine w_iload_n gz_44_19 rfl ?_
    refine w_iclt (t := 30) gz_44_20 rfl (fun u4 => ?_) (fun u4 => ?_)
    ·
      refine w_aload_n gz_44_30 rfl ?_
      refine v_getI (j := 9) gz_44_31 rfl is_82 rd_5 rfl (fun v5 ev5 pv5 qv5 => ?_)
      have zv5 := ev5.trans cf
      refine w_ifne (t := 44) gz_44_34 rfl (fun u6 => ?_) (fun u6 => by exfalso; omega)
      refine w_iconst gz_44_44 (by decide) ?_
      refine w_iret gz_44_45 gm_44 ?_
      show wp l rho (d + 2) 51 5 [(2, 82), (0, x1), (9, 0)] [(0, (-1))] h Q
      refine w_istore_n (ls' := [(2, 82), (0, x1), (0, (-1))]) gz_51_5 gm_51 rfl rfl rfl ?_
      refine w_iload_n gz_51_6 rfl ?_
      refine w_iconst gz_51_7 (by decide) ?_
      refine w_iceq (t := 15) gz_51_8 rfl (fun u7 => ?_) (fun u7 => by exfalso; omega)
      refine w_iload_n gz_51_15 rfl ?_
      have c8 := ev5.symm
      exact w_iret gz_51_16 gm_51 (k0 (by omega) (by omega))
    ·
      refine w_aload_n gz_44_23 rfl ?_
      refine w_iconst gz_44_24 (by decide) ?_
      refine w_inv (k := 0) (as := [(0, 4)]) (r := []) (x := 82) (ls0 := [(2, 82), (0, 4)]) gz_44_25 gm_42 rfl is_82 rd_5 rfl rfl rfl rfl rfl ?_
      refine w_aload_n gz_42_0 rfl ?_
      refine v_getI (j := 9) gz_42_1 rfl is_82 rd_5 rfl (fun v9 ev9 pv9 qv9 => ?_)
      have zv9 := ev9.trans cf
      refine w_ifne (t := 20) gz_42_4 rfl (fun u10 => ?_) (fun u10 => by exfalso; omega)
      refine w_vret gz_42_20 gm_42 ?_
      show wp l rho (d + 1) 44 28 [(2, 82), (0, x1)] [] h _
      refine w_iconst gz_44_28 (by decide) ?_
      refine w_iret gz_44_29 gm_44 ?_
      show wp l rho (d + 2) 51 5 [(2, 82), (0, x1), (9, 0)] [(0, (-1))] h Q
      refine w_istore_n (ls' := [(2, 82), (0, x1), (0, (-1))]) gz_51_5 gm_51 rfl rfl rfl ?_
      refine w_iload_n gz_51_6 rfl ?_
      refine w_iconst gz_51_7 (by decide) ?_
      refine w_iceq (t := 15) gz_51_8 rfl (fun u11 => ?_) (fun u11 => by exfalso; omega)
      refine w_iload_n gz_51_15 rfl ?_
      have c12 := ev9.symm
      exact w_iret gz_51_16 gm_51 (k0 (by omega) (by omega))
  ·
    refine w_aload_n gz_44_8 rfl ?_
    refine w_iconst gz_44_9 (by decide) ?_
    refine w_inv (k := 0) (as := [(0, 1)]) (r := []) (x := 82) (ls0 := [(2, 82), (0, 1)]) gz_44_10 gm_42 rfl is_82 rd_5 rfl rfl rfl rfl rfl ?_
    refine w_aload_n gz_42_0 rfl ?_
    refine v_getI (j := 9) gz_42_1 rfl is_82 rd_5 rfl (fun v13 ev13 pv13 qv13 => ?_)
    have zv13 := ev13.trans cf
    refine w_ifne (t := 20) gz_42_4 rfl (fun u14 => ?_) (fun u14 => by exfalso; omega)
    refine w_vret gz_42_20 gm_42 ?_
    show wp l rho (d + 1) 44 13 [(2, 82), (0, x1)] [] h _
    refine w_iconst gz_44_13 (by decide) ?_
    refine w_iret gz_44_14 gm_44 ?_
    show wp l rho (d + 2) 51 5 [(2, 82), (0, x1), (9, 0)] [(0, (-1))] h Q
    refine w_istore_n (ls' := [(2, 82), (0, x1), (0, (-1))]) gz_51_5 gm_51 rfl rfl rfl ?_
    refine w_iload_n gz_51_6 rfl ?_
    refine w_iconst gz_51_7 (by decide) ?_
    refine w_iceq (t := 15) gz_51_8 rfl (fun u15 => ?_) (fun u15 => by exfalso; omega)
    refine w_iload_n gz_51_15 rfl ?_
    have c16 := ev13.symm
    exact w_iret gz_51_16 gm_51 (k0 (by omega) (by omega))
theorem ix_8_1 {x : Int} (hx : my_is 8 x) : my_is 42 (x + 1) := my_isOff (δ := 1) hx (by decide +kernel)
theorem gz_74_0 : mz_pg 74 0 = some (.aload_n 0, 0, 0, 0) := by decide +kernel
theorem gz_74_1 : mz_pg 74 1 = some (.getfield 11, 8, 2, 333) := by decide +kernel
theorem gz_74_4 : mz_pg 74 4 = some (.iload_n 1, 0, 0, 0) := by decide +kernel
theorem gz_74_5 : mz_pg 74 5 = some (.bipush 17, 0, 0, 0) := by decide +kernel
theorem gz_74_7 : mz_pg 74 7 = some (.imul, 0, 0, 0) := by decide +kernel
theorem gz_74_8 : mz_pg 74 8 = some (.iload_n 2, 0, 0, 0) := by decide +kernel
theorem gz_74_9 : mz_pg 74 9 = some (.iadd, 0, 0, 0) := by decide +kernel
theorem gz_74_10 : mz_pg 74 10 = some (.iaload, 0, 0, 0) := by decide +kernel
theorem gz_74_11 : mz_pg 74 11 = some (.ireturn, 0, 0, 0) := by decide +kernel
theorem gz_76_0 : mz_pg 76 0 = some (.iconst 0, 0, 0, 0) := by decide +kernel
theorem gz_76_1 : mz_pg 76 1 = some (.istore_n 3, 0, 0, 0) := by decide +kernel
theorem gz_76_2 : mz_pg 76 2 = some (.iconst 0, 0, 0, 0) := by decide +kernel
theorem gz_76_3 : mz_pg 76 3 = some (.istore 4, 0, 0, 0) := by decide +kernel
theorem gz_76_5 : mz_pg 76 5 = some (.iload 4, 0, 0, 0) := by decide +kernel
theorem gz_76_7 : mz_pg 76 7 = some (.aload_n 0, 0, 0, 0) := by decide +kernel
theorem gz_76_8 : mz_pg 76 8 = some (.getfield 22, 8, 0, 327) := by decide +kernel
theorem gz_76_11 : mz_pg 76 11 = some (.if_icmp .ge 142, 0, 0, 0) := by decide +kernel
theorem gz_76_14 : mz_pg 76 14 = some (.aload_n 0, 0, 0, 0) := by decide +kernel
theorem gz_76_15 : mz_pg 76 15 = some (.iload 4, 0, 0, 0) := by decide +kernel
theorem gz_76_17 : mz_pg 76 17 = some (.iload_n 2, 0, 0, 0) := by decide +kernel
theorem gz_76_18 : mz_pg 76 18 = some (.invokevirtual 102, 1, 74, 843) := by decide +kernel
theorem gz_76_21 : mz_pg 76 21 = some (.istore 5, 0, 0, 0) := by decide +kernel
theorem gz_76_23 : mz_pg 76 23 = some (.aload_n 0, 0, 0, 0) := by decide +kernel
theorem gz_76_24 : mz_pg 76 24 = some (.iload 4, 0, 0, 0) := by decide +kernel
theorem gz_76_26 : mz_pg 76 26 = some (.iload_n 1, 0, 0, 0) := by decide +kernel
theorem gz_76_27 : mz_pg 76 27 = some (.invokevirtual 102, 1, 74, 843) := by decide +kernel
theorem gz_76_30 : mz_pg 76 30 = some (.istore 6, 0, 0, 0) := by decide +kernel
theorem gz_76_32 : mz_pg 76 32 = some (.iconst 0, 0, 0, 0) := by decide +kernel
theorem gz_76_33 : mz_pg 76 33 = some (.istore 7, 0, 0, 0) := by decide +kernel
theorem gz_76_35 : mz_pg 76 35 = some (.iload 7, 0, 0, 0) := by decide +kernel
theorem gz_76_37 : mz_pg 76 37 = some (.iload_n 3, 0, 0, 0) := by decide +kernel
theorem gz_76_38 : mz_pg 76 38 = some (.if_icmp .ge 21, 0, 0, 0) := by decide +kernel
theorem gz_76_41 : mz_pg 76 41 = some (.aload_n 0, 0, 0, 0) := by decide +kernel
theorem gz_76_42 : mz_pg 76 42 = some (.iload 7, 0, 0, 0) := by decide +kernel
theorem gz_76_44 : mz_pg 76 44 = some (.iconst 0, 0, 0, 0) := by decide +kernel
theorem gz_76_45 : mz_pg 76 45 = some (.invokevirtual 102, 1, 74, 843) := by decide +kernel
theorem gz_76_48 : mz_pg 76 48 = some (.iload 5, 0, 0, 0) := by decide +kernel
theorem gz_76_50 : mz_pg 76 50 = some (.if_icmp .eq 9, 0, 0, 0) := by decide +kernel
theorem gz_76_53 : mz_pg 76 53 = some (.iinc 7 1, 0, 0, 0) := by decide +kernel
theorem gz_76_56 : mz_pg 76 56 = some (.goto (-21), 0, 0, 0) := by decide +kernel
theorem gz_76_59 : mz_pg 76 59 = some (.iload 7, 0, 0, 0) := by decide +kernel
theorem gz_76_61 : mz_pg 76 61 = some (.bipush 17, 0, 0, 0) := by decide +kernel
theorem gz_76_63 : mz_pg 76 63 = some (.imul, 0, 0, 0) := by decide +kernel
theorem gz_76_64 : mz_pg 76 64 = some (.istore 8, 0, 0, 0) := by decide +kernel
theorem gz_76_66 : mz_pg 76 66 = some (.iload 7, 0, 0, 0) := by decide +kernel
theorem gz_76_68 : mz_pg 76 68 = some (.iload_n 3, 0, 0, 0) := by decide +kernel
theorem gz_76_69 : mz_pg 76 69 = some (.if_icmp .ge 20, 0, 0, 0) := by decide +kernel
theorem gz_76_72 : mz_pg 76 72 = some (.aload_n 0, 0, 0, 0) := by decide +kernel
theorem gz_76_73 : mz_pg 76 73 = some (.getfield 11, 8, 2, 333) := by decide +kernel
theorem gz_76_76 : mz_pg 76 76 = some (.iload 8, 0, 0, 0) := by decide +kernel
theorem gz_76_78 : mz_pg 76 78 = some (.iconst 1, 0, 0, 0) := by decide +kernel
theorem gz_76_79 : mz_pg 76 79 = some (.iadd, 0, 0, 0) := by decide +kernel
theorem gz_76_80 : mz_pg 76 80 = some (.dup2, 0, 0, 0) := by decide +kernel
theorem gz_76_81 : mz_pg 76 81 = some (.iaload, 0, 0, 0) := by decide +kernel
theorem gz_76_82 : mz_pg 76 82 = some (.iload 6, 0, 0, 0) := by decide +kernel
theorem gz_76_84 : mz_pg 76 84 = some (.iadd, 0, 0, 0) := by decide +kernel
theorem gz_76_85 : mz_pg 76 85 = some (.iastore, 0, 0, 0) := by decide +kernel
theorem gz_76_86 : mz_pg 76 86 = some (.goto 61, 0, 0, 0) := by decide +kernel
theorem gz_76_89 : mz_pg 76 89 = some (.aload_n 0, 0, 0, 0) := by decide +kernel
theorem gz_76_90 : mz_pg 76 90 = some (.getfield 11, 8, 2, 333) := by decide +kernel
theorem gz_76_93 : mz_pg 76 93 = some (.iload 8, 0, 0, 0) := by decide +kernel
theorem gz_76_95 : mz_pg 76 95 = some (.iload 5, 0, 0, 0) := by decide +kernel
theorem gz_76_97 : mz_pg 76 97 = some (.iastore, 0, 0, 0) := by decide +kernel
theorem gz_76_98 : mz_pg 76 98 = some (.aload_n 0, 0, 0, 0) := by decide +kernel
theorem gz_76_99 : mz_pg 76 99 = some (.getfield 11, 8, 2, 333) := by decide +kernel
theorem gz_76_102 : mz_pg 76 102 = some (.iload 8, 0, 0, 0) := by decide +kernel
theorem gz_76_104 : mz_pg 76 104 = some (.iconst 1, 0, 0, 0) := by decide +kernel
theorem gz_76_105 : mz_pg 76 105 = some (.iadd, 0, 0, 0) := by decide +kernel
theorem gz_76_106 : mz_pg 76 106 = some (.iload 6, 0, 0, 0) := by decide +kernel
theorem gz_76_108 : mz_pg 76 108 = some (.iastore, 0, 0, 0) := by decide +kernel
theorem gz_76_109 : mz_pg 76 109 = some (.aload_n 0, 0, 0, 0) := by decide +kernel
theorem gz_76_110 : mz_pg 76 110 = some (.getfield 11, 8, 2, 333) := by decide +kernel
theorem gz_76_113 : mz_pg 76 113 = some (.iload 8, 0, 0, 0) := by decide +kernel
theorem gz_76_115 : mz_pg 76 115 = some (.bipush 8, 0, 0, 0) := by decide +kernel
theorem gz_76_117 : mz_pg 76 117 = some (.iadd, 0, 0, 0) := by decide +kernel
theorem gz_76_118 : mz_pg 76 118 = some (.iconst (-1), 0, 0, 0) := by decide +kernel
theorem gz_76_119 : mz_pg 76 119 = some (.iastore, 0, 0, 0) := by decide +kernel
theorem gz_76_120 : mz_pg 76 120 = some (.aload_n 0, 0, 0, 0) := by decide +kernel
theorem gz_76_121 : mz_pg 76 121 = some (.getfield 11, 8, 2, 333) := by decide +kernel
theorem gz_76_124 : mz_pg 76 124 = some (.iload 8, 0, 0, 0) := by decide +kernel
theorem gz_76_126 : mz_pg 76 126 = some (.bipush 8, 0, 0, 0) := by decide +kernel
theorem gz_76_128 : mz_pg 76 128 = some (.iadd, 0, 0, 0) := by decide +kernel
theorem gz_76_129 : mz_pg 76 129 = some (.iconst 1, 0, 0, 0) := by decide +kernel
theorem gz_76_130 : mz_pg 76 130 = some (.iadd, 0, 0, 0) := by decide +kernel
theorem gz_76_131 : mz_pg 76 131 = some (.iconst (-1), 0, 0, 0) := by decide +kernel
theorem gz_76_132 : mz_pg 76 132 = some (.iastore, 0, 0, 0) := by decide +kernel
theorem gz_76_133 : mz_pg 76 133 = some (.aload_n 0, 0, 0, 0) := by decide +kernel
theorem gz_76_134 : mz_pg 76 134 = some (.getfield 11, 8, 2, 333) := by decide +kernel
theorem gz_76_137 : mz_pg 76 137 = some (.iload 8, 0, 0, 0) := by decide +kernel
theorem gz_76_139 : mz_pg 76 139 = some (.bipush 16, 0, 0, 0) := by decide +kernel
theorem gz_76_141 : mz_pg 76 141 = some (.iadd, 0, 0, 0) := by decide +kernel
theorem gz_76_142 : mz_pg 76 142 = some (.iload_n 3, 0, 0, 0) := by decide +kernel
theorem gz_76_143 : mz_pg 76 143 = some (.iinc 3 1, 0, 0, 0) := by decide +kernel
theorem gz_76_146 : mz_pg 76 146 = some (.iastore, 0, 0, 0) := by decide +kernel
theorem gz_76_147 : mz_pg 76 147 = some (.iinc 4 1, 0, 0, 0) := by decide +kernel
theorem gz_76_150 : mz_pg 76 150 = some (.goto (-145), 0, 0, 0) := by decide +kernel
theorem gz_76_153 : mz_pg 76 153 = some (.aload_n 0, 0, 0, 0) := by decide +kernel
theorem gz_76_154 : mz_pg 76 154 = some (.iload_n 3, 0, 0, 0) := by decide +kernel
theorem gz_76_155 : mz_pg 76 155 = some (.putfield 22, 8, 0, 327) := by decide +kernel
theorem gz_76_158 : mz_pg 76 158 = some (.aload_n 0, 0, 0, 0) := by decide +kernel
theorem gz_76_159 : mz_pg 76 159 = some (.iconst 2, 0, 0, 0) := by decide +kernel
theorem gz_76_160 : mz_pg 76 160 = some (.putfield 26, 8, 1, 331) := by decide +kernel
theorem gz_76_163 : mz_pg 76 163 = some (.return_, 0, 0, 0) := by decide +kernel
theorem gm_74 : my_mm 74 3 (some .int) 2 8 := by unfold my_mm; decide +kernel
theorem gm_76 : my_mm 76 9 none 2 8 := by unfold my_mm; decide +kernel
theorem rd_8 : my_rd 8 = .inr (8, [(0, 0, 11), (0, 0, 8), (2, 42, 1), (2, 43, 2), (2, 44, 3)]) := rfl
theorem rd_42 : my_rd 42 = .inl (0, 204, my_gE) := rfl
theorem c53_View_sum {l : Launch} {rho : Nat → Int32} {d : Nat} {h : my_H} {Q : my_H → my_V → Prop} {x0 x1 x2 : Int} (t0 : my_is 8 x0) (a1 : 0 ≤ x1) (b1 : x1 ≤ 7) (a2 : 0 ≤ x2) (b2 : x2 ≤ 7) (k0 : ∀ (h' : my_H), my_fr [(8, 0), (8, 1), (42, -1)] h h' → my_fx x0 3 h h' → h' x0 1 = 2 → Q h' (9, 0)) : wp l rho (d + 1) 76 0 [(2, x0), (0, x1), (0, x2), (9, 0), (9, 0), (9, 0), (9, 0), (9, 0), (9, 0)] [] h Q := by
  have J5_0 : ∀ (n : Nat) (p5_0 p5_1 : Int) (h5_0 : my_H), my_fr [(8, 0), (8, 1), (42, -1)] h h5_0 → my_fx x0 3 h h5_0 → 0 ≤ p5_0 → p5_0 ≤ 11 → 0 ≤ p5_1 → p5_1 ≤ 11 → p5_0 ≤ p5_1 → 12 - p5_1 ≤ (n : Int) → wp l rho (d + 1) 76 5 [(2, x0), (0, x1), (0, x2), (0, p5_0), (0, p5_1), (9, 0), (9, 0), (9, 0), (9, 0)] [] h5_0 Q := by
    intro n
    induction n with
    | zero => intro p5_0 p5_1 h5_0 gh_5_0 gx_5_0 q0_5_0 q1_5_0 q2_5_0 q3_5_0 q4_5_0 hm_5_0; exfalso; omega
    | succ n ih_5_0 =>
      intro p5_0 p5_1 h5_0 gh_5_0 gx_5_0 q0_5_0 q1_5_0 q2_5_0 q3_5_0 q4_5_0 hm_5_0
      have J147_0 : ∀ (p147_0 p147_1 p147_2 p147_3 p147_4 p147_5 : Int) (h147_0 : my_H), my_fr [(8, 0), (8, 1), (42, -1)] h h147_0 → my_fx x0 3 h h147_0 → 1 ≤ p147_0 → p147_0 ≤ 11 → p5_1 ≤ 10 → 0 ≤ p147_3 → p147_3 ≤ 10 → 0 ≤ p147_4 → p147_4 ≤ 170 → 1 ≤ p147_5 → p147_5 ≤ 11 → p5_0 ≤ 10 → p147_0 ≤ (p147_3 + 10) → p147_0 ≤ p147_5 → p147_0 ≤ (p5_1 + 1) → p147_0 ≤ (p5_0 + 1) → p147_3 ≤ (p147_0 - 1) → p147_3 ≤ (p147_5 - 1) → p147_3 ≤ p5_1 → p147_3 ≤ p5_0 → p5_1 ≤ (p147_5 - 1) → p5_0 ≤ p147_0 → p5_0 ≤ (p147_5 - 1) → p5_0 ≤ p5_1 → h147_0 x0 0 = p147_5 → wp l rho (d + 1) 76 147 [(2, x0), (0, x1), (0, x2), (0, p147_0), (0, p5_1), (0, p147_1), (0, p147_2), (0, p147_3), (0, p147_4)] [] h147_0 Q := by
        intro p147_0 p147_1 p147_2 p147_3 p147_4 p147_5 h147_0 gh_147_0 gx_147_0 q0_147_0 q1_147_0 q2_147_0 q3_147_0 q4_147_0 q5_147_0 q6_147_0 q7_147_0 q8_147_0 q9_147_0 q10_147_0 q11_147_0 q12_147_0 q13_147_0 q14_147_0 q15_147_0 q16_147_0 q17_147_0 q18_147_0 q19_147_0 q20_147_0 q21_147_0 ca0_0_147_0
        refine w_iinc (ls' := [(2, x0), (0, x1), (0, x2), (0, p147_0), (0, (p5_1 + 1)), (0, p147_1), (0, p147_2), (0, p147_3), (0, p147_4)]) gz_76_147 rfl gm_76 rfl rfl rfl ⟨by omega, by omega⟩ ?_
        refine w_goto (t := 5) gz_76_150 rfl ?_
        refine w_weak (ls' := [(2, x0), (0, x1), (0, x2), (0, p147_0), (0, (p5_1 + 1)), (9, 0), (9, 0), (9, 0), (9, 0)]) (wk_e (wk_e (wk_e (wk_e (wk_e (wk_9 (wk_9 (wk_9 (wk_9 wk_n))))))))) ?_
        exact ih_5_0 (p147_0) ((p5_1 + 1)) h147_0 (gh_147_0) (gx_147_0) (by omega) (by omega) (by omega) (by omega) (by omega) (by omega)
      have J59_0 : ∀ (p59_0 p59_1 p59_2 p59_3 : Int) (h59_0 : my_H), my_fr [(8, 0), (8, 1), (42, -1)] h h59_0 → my_fx x0 3 h h59_0 → p5_0 ≤ 10 → p5_1 ≤ 10 → 0 ≤ p59_2 → p59_2 ≤ 10 → 1 ≤ p59_3 → p59_3 ≤ 11 → p59_2 ≤ (p59_3 - 1) → p59_2 ≤ p5_0 → p59_2 ≤ p5_1 → p5_0 ≤ (p59_3 - 1) → p5_0 ≤ p5_1 → p5_1 ≤ (p59_3 - 1) → h59_0 x0 0 = p59_3 → wp l rho (d + 1) 76 59 [(2, x0), (0, x1), (0, x2), (0, p5_0), (0, p5_1), (0, p59_0), (0, p59_1), (0, p59_2), (9, 0)] [] h59_0 Q := by
        intro p59_0 p59_1 p59_2 p59_3 h59_0 gh_59_0 gx_59_0 q0_59_0 q1_59_0 q2_59_0 q3_59_0 q4_59_0 q5_59_0 q6_59_0 q7_59_0 q8_59_0 q9_59_0 q10_59_0 q11_59_0 ca0_0_59_0
        refine w_iload gz_76_59 rfl ?_
        refine w_bipush gz_76_61 (by decide) ?_
        refine w_imul gz_76_63 ⟨by omega, by omega⟩ ?_
        refine w_istore (ls' := [(2, x0), (0, x1), (0, x2), (0, p5_0), (0, p5_1), (0, p59_0), (0, p59_1), (0, p59_2), (0, (p59_2 * 17))]) gz_76_64 gm_76 rfl rfl rfl ?_
        refine w_iload gz_76_66 rfl ?_
        refine w_iload_n gz_76_68 rfl ?_
        refine w_icge (t := 89) gz_76_69 rfl (fun u1 => ?_) (fun u1 => ?_)
        ·
          refine w_aload_n gz_76_89 rfl ?_
          refine w_getX (v := (x0 + 1)) gz_76_90 t0 rd_8 rfl (by decide) rfl ?_
          refine w_iload gz_76_93 rfl ?_
          refine w_iload gz_76_95 rfl ?_
          refine w_gstV gz_76_97 (ix_8_1 t0) rd_42 (by omega) (by omega) (by omega) (fun h3 fh3 => ?_)
          have gh3 : my_fr [(8, 0), (8, 1), (42, -1)] h h3 := my_fr.up gh_59_0 (ix_8_1 t0) fh3 rfl
          have gxh3 : my_fx x0 3 h h3 := my_fx.up gx_59_0 fh3 (by omega)
          refine w_aload_n gz_76_98 rfl ?_
          refine w_getX (v := (x0 + 1)) gz_76_99 t0 rd_8 rfl (by decide) rfl ?_
          refine w_iload gz_76_102 rfl ?_
          refine w_iconst gz_76_104 (by decide) ?_
          refine w_iadd gz_76_105 ⟨by omega, by omega⟩ ?_
          refine w_iload gz_76_106 rfl ?_
          refine w_gstV gz_76_108 (ix_8_1 t0) rd_42 (by omega) (by omega) (by omega) (fun h5 fh5 => ?_)
          have gh5 : my_fr [(8, 0), (8, 1), (42, -1)] h h5 := my_fr.up gh3 (ix_8_1 t0) fh5 rfl
          have gxh5 : my_fx x0 3 h h5 := my_fx.up gxh3 fh5 (by omega)
          refine w_aload_n gz_76_109 rfl ?_
          refine w_getX (v := (x0 + 1)) gz_76_110 t0 rd_8 rfl (by decide) rfl ?_
          refine w_iload gz_76_113 rfl ?_
          refine w_bipush gz_76_115 (by decide) ?_
          refine w_iadd gz_76_117 ⟨by omega, by omega⟩ ?_
          refine w_iconst gz_76_118 (by decide) ?_
          refine w_gstS gz_76_119 (ix_8_1 t0) rd_42 (by omega) (by omega) (by omega) (by omega) (by omega) (by omega) (fun h7 fh7 => ?_)
          have gh7 : my_fr [(8, 0), (8, 1), (42, -1)] h h7 := my_fr.up gh5 (ix_8_1 t0) fh7 rfl
          have gxh7 : my_fx x0 3 h h7 := my_fx.up gxh5 fh7 (by omega)
          refine w_aload_n gz_76_120 rfl ?_
          refine w_getX (v := (x0 + 1)) gz_76_121 t0 rd_8 rfl (by decide) rfl ?_
          refine w_iload gz_76_124 rfl ?_
          refine w_bipush gz_76_126 (by decide) ?_
          refine w_iadd gz_76_128 ⟨by omega, by omega⟩ ?_
          refine w_iconst gz_76_129 (by decide) ?_
          refine w_iadd gz_76_130 ⟨by omega, by omega⟩ ?_
          refine w_iconst gz_76_131 (by decide) ?_
          refine w_gstS gz_76_132 (ix_8_1 t0) rd_42 (by omega) (by omega) (by omega) (by omega) (by omega) (by omega) (fun h9 fh9 => ?_)
          have gh9 : my_fr [(8, 0), (8, 1), (42, -1)] h h9 := my_fr.up gh7 (ix_8_1 t0) fh9 rfl
          have gxh9 : my_fx x0 3 h h9 := my_fx.up gxh7 fh9 (by omega)
          refine w_aload_n gz_76_133 rfl ?_
          refine w_getX (v := (x0 + 1)) gz_76_134 t0 rd_8 rfl (by decide) rfl ?_
          refine w_iload gz_76_137 rfl ?_
          refine w_bipush gz_76_139 (by decide) ?_
          refine w_iadd gz_76_141 ⟨by omega, by omega⟩ ?_
          refine w_iload_n gz_76_142 rfl ?_
          refine w_iinc (ls' := [(2, x0), (0, x1), (0, x2), (0, (p5_0 + 1)), (0, p5_1), (0, p59_0), (0, p59_1), (0, p59_2), (0, (p59_2 * 17))]) gz_76_143 rfl gm_76 rfl rfl rfl ⟨by omega, by omega⟩ ?_
          refine w_gstT gz_76_146 (ix_8_1 t0) rd_42 (by omega) (by omega) (by omega) (by omega) (by omega) (fun h11 fh11 => ?_)
          have gh11 : my_fr [(8, 0), (8, 1), (42, -1)] h h11 := my_fr.up gh9 (ix_8_1 t0) fh11 rfl
          have gxh11 : my_fx x0 3 h h11 := my_fx.up gxh9 fh11 (by omega)
          exact J147_0 ((p5_0 + 1)) (p59_0) (p59_1) (p59_2) ((p59_2 * 17)) (p59_3) h11 (gh11) (gxh11) (by omega) (by omega) (by omega) (by omega) (by omega) (by omega) (by omega) (by omega) (by omega) (by omega) (by omega) (by omega) (by omega) (by omega) (by omega) (by omega) (by omega) (by omega) (by omega) (by omega) (by omega) (by omega) (((my_up_role fh11 t0 (ix_8_1 t0) rfl).trans ((my_up_role fh9 t0 (ix_8_1 t0) rfl).trans ((my_up_role fh7 t0 (ix_8_1 t0) rfl).trans ((my_up_role fh5 t0 (ix_8_1 t0) rfl).trans ((my_up_role fh3 t0 (ix_8_1 t0) rfl).trans ca0_0_59_0))))).trans (by omega))
        ·
          refine w_aload_n gz_76_72 rfl ?_
          refine w_getX (v := (x0 + 1)) gz_76_73 t0 rd_8 rfl (by decide) rfl ?_
          refine w_iload gz_76_76 rfl ?_
          refine w_iconst gz_76_78 (by decide) ?_
          refine w_iadd gz_76_79 ⟨by omega, by omega⟩ ?_
          refine w_dup2 gz_76_80 rfl rfl ?_
          refine w_gldA gz_76_81 (ix_8_1 t0) rd_42 (by omega) (by omega) (fun v13 ev13 pv13 qv13 => ?_)
          refine w_iload gz_76_82 rfl ?_
          refine w_ianyA gz_76_84 (fun v14 pv14 qv14 => ?_)
          refine w_gstV gz_76_85 (ix_8_1 t0) rd_42 (by omega) (by omega) (by omega) (fun h15 fh15 => ?_)
          have gh15 : my_fr [(8, 0), (8, 1), (42, -1)] h h15 := my_fr.up gh_59_0 (ix_8_1 t0) fh15 rfl
          have gxh15 : my_fx x0 3 h h15 := my_fx.up gx_59_0 fh15 (by omega)
          refine w_goto (t := 147) gz_76_86 rfl ?_
          exact J147_0 (p5_0) (p59_0) (p59_1) (p59_2) ((p59_2 * 17)) (p59_3) h15 (gh15) (gxh15) (by omega) (by omega) (by omega) (by omega) (by omega) (by omega) (by omega) (by omega) (by omega) (by omega) (by omega) (by omega) (by omega) (by omega) (by omega) (by omega) (by omega) (by omega) (by omega) (by omega) (by omega) (by omega) (((my_up_role fh15 t0 (ix_8_1 t0) rfl).trans ca0_0_59_0).trans (by omega))
      have J35_0 : ∀ (n : Nat) (p35_0 p35_1 p35_2 p35_3 : Int) (h35_0 : my_H), my_fr [(8, 0), (8, 1), (42, -1)] h h35_0 → my_fx x0 3 h h35_0 → p5_0 ≤ 10 → p5_1 ≤ 10 → 0 ≤ p35_2 → p35_2 ≤ 10 → 1 ≤ p35_3 → p35_3 ≤ 11 → p35_2 ≤ (p35_3 - 1) → p35_2 ≤ p5_0 → p35_2 ≤ p5_1 → p5_0 ≤ (p35_3 - 1) → p5_0 ≤ p5_1 → p5_1 ≤ (p35_3 - 1) → h35_0 x0 0 = p35_3 → 11 - p35_2 ≤ (n : Int) → wp l rho (d + 1) 76 35 [(2, x0), (0, x1), (0, x2), (0, p5_0), (0, p5_1), (0, p35_0), (0, p35_1), (0, p35_2), (9, 0)] [] h35_0 Q := by
        intro n
        induction n with
        | zero => intro p35_0 p35_1 p35_2 p35_3 h35_0 gh_35_0 gx_35_0 q0_35_0 q1_35_0 q2_35_0 q3_35_0 q4_35_0 q5_35_0 q6_35_0 q7_35_0 q8_35_0 q9_35_0 q10_35_0 q11_35_0 ca0_0_35_0 hm_35_0; exfalso; omega
        | succ n ih_35_0 =>
          intro p35_0 p35_1 p35_2 p35_3 h35_0 gh_35_0 gx_35_0 q0_35_0 q1_35_0 q2_35_0 q3_35_0 q4_35_0 q5_35_0 q6_35_0 q7_35_0 q8_35_0 q9_35_0 q10_35_0 q11_35_0 ca0_0_35_0 hm_35_0
          refine w_iload gz_76_35 rfl ?_
          refine w_iload_n gz_76_37 rfl ?_
          refine w_icge (t := 59) gz_76_38 rfl (fun u16 => ?_) (fun u16 => ?_)
          ·
            exact J59_0 (p35_0) (p35_1) (p35_2) (p35_3) h35_0 (gh_35_0) (gx_35_0) (by omega) (by omega) (by omega) (by omega) (by omega) (by omega) (by omega) (by omega) (by omega) (by omega) (by omega) (by omega) (ca0_0_35_0.trans (by omega))
          ·
            refine w_aload_n gz_76_41 rfl ?_
            refine w_iload gz_76_42 rfl ?_
            refine w_iconst gz_76_44 (by decide) ?_
            refine w_inv (k := 0) (as := [(0, 0), (0, p35_2)]) (r := []) (x := x0) (ls0 := [(2, x0), (0, p35_2), (0, 0)]) gz_76_45 gm_74 rfl t0 rd_8 rfl rfl rfl rfl rfl ?_
            refine w_aload_n gz_74_0 rfl ?_
            refine w_getX (v := (x0 + 1)) gz_74_1 t0 rd_8 rfl (by decide) rfl ?_
            refine w_iload_n gz_74_4 rfl ?_
            refine w_bipush gz_74_5 (by decide) ?_
            refine w_imul gz_74_7 ⟨by omega, by omega⟩ ?_
            refine w_iload_n gz_74_8 rfl ?_
            refine w_iadd gz_74_9 ⟨by omega, by omega⟩ ?_
            refine w_gldA gz_74_10 (ix_8_1 t0) rd_42 (by omega) (by omega) (fun v18 ev18 pv18 qv18 => ?_)
            refine w_iret gz_74_11 gm_74 ?_
            show wp l rho (d + 1) 76 48 [(2, x0), (0, x1), (0, x2), (0, p5_0), (0, p5_1), (0, p35_0), (0, p35_1), (0, p35_2), (9, 0)] [(0, v18)] h35_0 Q
            refine w_iload gz_76_48 rfl ?_
            refine w_iceq (t := 59) gz_76_50 rfl (fun u19 => ?_) (fun u19 => ?_)
            ·
              exact J59_0 (p35_0) (p35_1) (p35_2) (p35_3) h35_0 (gh_35_0) (gx_35_0) (by omega) (by omega) (by omega) (by omega) (by omega) (by omega) (by omega) (by omega) (by omega) (by omega) (by omega) (by omega) (ca0_0_35_0.trans (by omega))
            ·
              refine w_iinc (ls' := [(2, x0), (0, x1), (0, x2), (0, p5_0), (0, p5_1), (0, p35_0), (0, p35_1), (0, (p35_2 + 1)), (9, 0)]) gz_76_53 rfl gm_76 rfl rfl rfl ⟨by omega, by omega⟩ ?_
              refine w_goto (t := 35) gz_76_56 rfl ?_
              exact ih_35_0 (p35_0) (p35_1) ((p35_2 + 1)) (p35_3) h35_0 (gh_35_0) (gx_35_0) (by omega) (by omega) (by omega) (by omega) (by omega) (by omega) (by omega) (by omega) (by omega) (by omega) (by omega) (by omega) (ca0_0_35_0.trans (by omega)) (by omega)
      refine w_iload gz_76_5 rfl ?_
      refine w_aload_n gz_76_7 rfl ?_
      refine v_getI (j := 0) gz_76_8 rfl t0 rd_8 rfl (fun v20 ev20 pv20 qv20 => ?_)
      refine w_icge (t := 153) gz_76_11 rfl (fun u21 => ?_) (fun u21 => ?_)
      ·
        refine w_aload_n gz_76_153 rfl ?_
        refine w_iload_n gz_76_154 rfl ?_
        refine v_putI (j := 0) gz_76_155 rfl t0 rd_8 rfl (by omega) (by omega) rfl (fun h22 fh22 => ?_)
        have gh22 : my_fr [(8, 0), (8, 1), (42, -1)] h h22 := my_fr.up gh_5_0 t0 fh22 rfl
        have gxh22 : my_fx x0 3 h h22 := my_fx.up gx_5_0 fh22 (by omega)
        refine w_aload_n gz_76_158 rfl ?_
        refine w_iconst gz_76_159 (by decide) ?_
        refine v_putI (j := 1) gz_76_160 rfl t0 rd_8 rfl (by omega) (by omega) rfl (fun h23 fh23 => ?_)
        have gh23 : my_fr [(8, 0), (8, 1), (42, -1)] h h23 := my_fr.up gh22 t0 fh23 rfl
        have gxh23 : my_fx x0 3 h h23 := my_fx.up gxh22 fh23 (by omega)
        have c24 := (my_up_self fh23)
        exact w_vret gz_76_163 gm_76 (k0 h23 (gh23) (gxh23) (by omega))
      ·
        refine w_aload_n gz_76_14 rfl ?_
        refine w_iload gz_76_15 rfl ?_
        refine w_iload_n gz_76_17 rfl ?_
        refine w_inv (k := 0) (as := [(0, x2), (0, p5_1)]) (r := []) (x := x0) (ls0 := [(2, x0), (0, p5_1), (0, x2)]) gz_76_18 gm_74 rfl t0 rd_8 rfl rfl rfl rfl rfl ?_
        refine w_aload_n gz_74_0 rfl ?_
        refine w_getX (v := (x0 + 1)) gz_74_1 t0 rd_8 rfl (by decide) rfl ?_
        refine w_iload_n gz_74_4 rfl ?_
        refine w_bipush gz_74_5 (by decide) ?_
        refine w_imul gz_74_7 ⟨by omega, by omega⟩ ?_
        refine w_iload_n gz_74_8 rfl ?_
        refine w_iadd gz_74_9 ⟨by omega, by omega⟩ ?_
        refine w_gldA gz_74_10 (ix_8_1 t0) rd_42 (by omega) (by omega) (fun v26 ev26 pv26 qv26 => ?_)
        refine w_iret gz_74_11 gm_74 ?_
        show wp l rho (d + 1) 76 21 [(2, x0), (0, x1), (0, x2), (0, p5_0), (0, p5_1), (9, 0), (9, 0), (9, 0), (9, 0)] [(0, v26)] h5_0 Q
        refine w_istore (ls' := [(2, x0), (0, x1), (0, x2), (0, p5_0), (0, p5_1), (0, v26), (9, 0), (9, 0), (9, 0)]) gz_76_21 gm_76 rfl rfl rfl ?_
        refine w_aload_n gz_76_23 rfl ?_
        refine w_iload gz_76_24 rfl ?_
        refine w_iload_n gz_76_26 rfl ?_
        refine w_inv (k := 0) (as := [(0, x1), (0, p5_1)]) (r := []) (x := x0) (ls0 := [(2, x0), (0, p5_1), (0, x1)]) gz_76_27 gm_74 rfl t0 rd_8 rfl rfl rfl rfl rfl ?_
        refine w_aload_n gz_74_0 rfl ?_
        refine w_getX (v := (x0 + 1)) gz_74_1 t0 rd_8 rfl (by decide) rfl ?_
        refine w_iload_n gz_74_4 rfl ?_
        refine w_bipush gz_74_5 (by decide) ?_
        refine w_imul gz_74_7 ⟨by omega, by omega⟩ ?_
        refine w_iload_n gz_74_8 rfl ?_
        refine w_iadd gz_74_9 ⟨by omega, by omega⟩ ?_
        refine w_gldA gz_74_10 (ix_8_1 t0) rd_42 (by omega) (by omega) (fun v28 ev28 pv28 qv28 => ?_)
        refine w_iret gz_74_11 gm_74 ?_
        show wp l rho (d + 1) 76 30 [(2, x0), (0, x1), (0, x2), (0, p5_0), (0, p5_1), (0, v26), (9, 0), (9, 0), (9, 0)] [(0, v28)] h5_0 Q
        refine w_istore (ls' := [(2, x0), (0, x1), (0, x2), (0, p5_0), (0, p5_1), (0, v26), (0, v28), (9, 0), (9, 0)]) gz_76_30 gm_76 rfl rfl rfl ?_
        refine w_iconst gz_76_32 (by decide) ?_
        refine w_istore (ls' := [(2, x0), (0, x1), (0, x2), (0, p5_0), (0, p5_1), (0, v26), (0, v28), (0, 0), (9, 0)]) gz_76_33 gm_76 rfl rfl rfl ?_
        exact J35_0 11 (v26) (v28) (0) (v20) h5_0 (gh_5_0) (gx_5_0) (by omega) (by omega) (by omega) (by omega) (by omega) (by omega) (by omega) (by omega) (by omega) (by omega) (by omega) (by omega) (ev20.symm.trans (by omega)) (by omega)
  refine w_iconst gz_76_0 (by decide) ?_
  refine w_istore_n (ls' := [(2, x0), (0, x1), (0, x2), (0, 0), (9, 0), (9, 0), (9, 0), (9, 0), (9, 0)]) gz_76_1 gm_76 rfl rfl rfl ?_
  refine w_iconst gz_76_2 (by decide) ?_
  refine w_istore (ls' := [(2, x0), (0, x1), (0, x2), (0, 0), (0, 0), (9, 0), (9, 0), (9, 0), (9, 0)]) gz_76_3 gm_76 rfl rfl rfl ?_
  exact J5_0 12 (0) (0) h (my_fr.rf) (my_fx.rf) (by omega) (by omega) (by omega) (by omega) (by omega) (by omega)
theorem gz_72_0 : mz_pg 72 0 = some (.iload_n 1, 0, 0, 0) := by decide +kernel
theorem gz_72_1 : mz_pg 72 1 = some (.iload_n 2, 0, 0, 0) := by decide +kernel
theorem gz_72_2 : mz_pg 72 2 = some (.if_icmp .eq 24, 0, 0, 0) := by decide +kernel
theorem gz_72_5 : mz_pg 72 5 = some (.aload_n 0, 0, 0, 0) := by decide +kernel
theorem gz_72_6 : mz_pg 72 6 = some (.getfield 11, 8, 2, 333) := by decide +kernel
theorem gz_72_9 : mz_pg 72 9 = some (.iload_n 1, 0, 0, 0) := by decide +kernel
theorem gz_72_10 : mz_pg 72 10 = some (.bipush 17, 0, 0, 0) := by decide +kernel
theorem gz_72_12 : mz_pg 72 12 = some (.imul, 0, 0, 0) := by decide +kernel
theorem gz_72_13 : mz_pg 72 13 = some (.aload_n 0, 0, 0, 0) := by decide +kernel
theorem gz_72_14 : mz_pg 72 14 = some (.getfield 11, 8, 2, 333) := by decide +kernel
theorem gz_72_17 : mz_pg 72 17 = some (.iload_n 2, 0, 0, 0) := by decide +kernel
theorem gz_72_18 : mz_pg 72 18 = some (.bipush 17, 0, 0, 0) := by decide +kernel
theorem gz_72_20 : mz_pg 72 20 = some (.imul, 0, 0, 0) := by decide +kernel
theorem gz_72_21 : mz_pg 72 21 = some (.bipush 17, 0, 0, 0) := by decide +kernel
theorem gz_72_23 : mz_pg 72 23 = some (.invokestatic 96, 0, 0, 839) := by decide +kernel
theorem gz_72_26 : mz_pg 72 26 = some (.return_, 0, 0, 0) := by decide +kernel
theorem gz_77_0 : mz_pg 77 0 = some (.iconst 0, 0, 0, 0) := by decide +kernel
theorem gz_77_1 : mz_pg 77 1 = some (.istore 4, 0, 0, 0) := by decide +kernel
theorem gz_77_3 : mz_pg 77 3 = some (.iconst 0, 0, 0, 0) := by decide +kernel
theorem gz_77_4 : mz_pg 77 4 = some (.istore 5, 0, 0, 0) := by decide +kernel
theorem gz_77_6 : mz_pg 77 6 = some (.iload 5, 0, 0, 0) := by decide +kernel
theorem gz_77_8 : mz_pg 77 8 = some (.aload_n 0, 0, 0, 0) := by decide +kernel
theorem gz_77_9 : mz_pg 77 9 = some (.getfield 22, 8, 0, 327) := by decide +kernel
theorem gz_77_12 : mz_pg 77 12 = some (.if_icmp .ge 35, 0, 0, 0) := by decide +kernel
theorem gz_77_15 : mz_pg 77 15 = some (.iload_n 1, 0, 0, 0) := by decide +kernel
theorem gz_77_16 : mz_pg 77 16 = some (.aload_n 0, 0, 0, 0) := by decide +kernel
theorem gz_77_17 : mz_pg 77 17 = some (.iload 5, 0, 0, 0) := by decide +kernel
theorem gz_77_19 : mz_pg 77 19 = some (.iload_n 2, 0, 0, 0) := by decide +kernel
theorem gz_77_20 : mz_pg 77 20 = some (.invokevirtual 102, 1, 74, 843) := by decide +kernel
theorem gz_77_23 : mz_pg 77 23 = some (.iload_n 3, 0, 0, 0) := by decide +kernel
theorem gz_77_24 : mz_pg 77 24 = some (.invokestatic 105, 2, 78, 9) := by decide +kernel
theorem gz_77_27 : mz_pg 77 27 = some (.ifCond .eq 14, 0, 0, 0) := by decide +kernel
theorem gz_77_30 : mz_pg 77 30 = some (.aload_n 0, 0, 0, 0) := by decide +kernel
theorem gz_77_31 : mz_pg 77 31 = some (.iload 5, 0, 0, 0) := by decide +kernel
theorem gz_77_33 : mz_pg 77 33 = some (.iload 4, 0, 0, 0) := by decide +kernel
theorem gz_77_35 : mz_pg 77 35 = some (.iinc 4 1, 0, 0, 0) := by decide +kernel
theorem gz_77_38 : mz_pg 77 38 = some (.invokevirtual 109, 1, 72, 836) := by decide +kernel
theorem gz_77_41 : mz_pg 77 41 = some (.iinc 5 1, 0, 0, 0) := by decide +kernel
theorem gz_77_44 : mz_pg 77 44 = some (.goto (-38), 0, 0, 0) := by decide +kernel
theorem gz_77_47 : mz_pg 77 47 = some (.aload_n 0, 0, 0, 0) := by decide +kernel
theorem gz_77_48 : mz_pg 77 48 = some (.iload 4, 0, 0, 0) := by decide +kernel
theorem gz_77_50 : mz_pg 77 50 = some (.putfield 22, 8, 0, 327) := by decide +kernel
theorem gz_77_53 : mz_pg 77 53 = some (.return_, 0, 0, 0) := by decide +kernel
theorem gm_72 : my_mm 72 3 none 2 8 := by unfold my_mm; decide +kernel
theorem gm_77 : my_mm 77 6 none 3 8 := by unfold my_mm; decide +kernel
theorem c54_View_cut {l : Launch} {rho : Nat → Int32} {d : Nat} {h : my_H} {Q : my_H → my_V → Prop} {x0 x1 x2 x3 : Int} (t0 : my_is 8 x0) (a1 : 0 ≤ x1) (b1 : x1 ≤ 5) (a2 : 0 ≤ x2) (b2 : x2 ≤ 7) (a3 : 0 ≤ x3) (b3 : x3 ≤ 199) (k0 : ∀ (h' : my_H), my_fr [(8, 0), (42, -1)] h h' → my_fx x0 3 h h' → Q h' (9, 0)) : wp l rho (d + 2) 77 0 [(2, x0), (0, x1), (0, x2), (0, x3), (9, 0), (9, 0)] [] h Q := by
  have J6_0 : ∀ (n : Nat) (p6_0 p6_1 : Int) (h6_0 : my_H), my_fr [(8, 0), (42, -1)] h h6_0 → my_fx x0 3 h h6_0 → 0 ≤ p6_0 → p6_0 ≤ 11 → 0 ≤ p6_1 → p6_1 ≤ 11 → p6_0 ≤ p6_1 → 12 - p6_1 ≤ (n : Int) → wp l rho (d + 2) 77 6 [(2, x0), (0, x1), (0, x2), (0, x3), (0, p6_0), (0, p6_1)] [] h6_0 Q := by
    intro n
    induction n with
    | zero => intro p6_0 p6_1 h6_0 gh_6_0 gx_6_0 q0_6_0 q1_6_0 q2_6_0 q3_6_0 q4_6_0 hm_6_0; exfalso; omega
    | succ n ih_6_0 =>
      intro p6_0 p6_1 h6_0 gh_6_0 gx_6_0 q0_6_0 q1_6_0 q2_6_0 q3_6_0 q4_6_0 hm_6_0
      have J41_0 : ∀ (p41_0 p41_1 : Int) (h41_0 : my_H), my_fr [(8, 0), (42, -1)] h h41_0 → my_fx x0 3 h h41_0 → 0 ≤ p41_0 → p41_0 ≤ 11 → p6_1 ≤ 10 → 1 ≤ p41_1 → p41_1 ≤ 11 → p6_0 ≤ 10 → p41_0 ≤ p41_1 → p41_0 ≤ (p6_1 + 1) → p41_0 ≤ (p6_0 + 1) → p6_1 ≤ (p41_1 - 1) → p6_0 ≤ p41_0 → p6_0 ≤ (p41_1 - 1) → p6_0 ≤ p6_1 → h41_0 x0 0 = p41_1 → wp l rho (d + 2) 77 41 [(2, x0), (0, x1), (0, x2), (0, x3), (0, p41_0), (0, p6_1)] [] h41_0 Q := by
        intro p41_0 p41_1 h41_0 gh_41_0 gx_41_0 q0_41_0 q1_41_0 q2_41_0 q3_41_0 q4_41_0 q5_41_0 q6_41_0 q7_41_0 q8_41_0 q9_41_0 q10_41_0 q11_41_0 q12_41_0 ca0_0_41_0
        refine w_iinc (ls' := [(2, x0), (0, x1), (0, x2), (0, x3), (0, p41_0), (0, (p6_1 + 1))]) gz_77_41 rfl gm_77 rfl rfl rfl ⟨by omega, by omega⟩ ?_
        refine w_goto (t := 6) gz_77_44 rfl ?_
        exact ih_6_0 (p41_0) ((p6_1 + 1)) h41_0 (gh_41_0) (gx_41_0) (by omega) (by omega) (by omega) (by omega) (by omega) (by omega)
      refine w_iload gz_77_6 rfl ?_
      refine w_aload_n gz_77_8 rfl ?_
      refine v_getI (j := 0) gz_77_9 rfl t0 rd_8 rfl (fun v1 ev1 pv1 qv1 => ?_)
      refine w_icge (t := 47) gz_77_12 rfl (fun u2 => ?_) (fun u2 => ?_)
      ·
        refine w_aload_n gz_77_47 rfl ?_
        refine w_iload gz_77_48 rfl ?_
        refine v_putI (j := 0) gz_77_50 rfl t0 rd_8 rfl (by omega) (by omega) rfl (fun h3 fh3 => ?_)
        have gh3 : my_fr [(8, 0), (42, -1)] h h3 := my_fr.up gh_6_0 t0 fh3 rfl
        have gxh3 : my_fx x0 3 h h3 := my_fx.up gx_6_0 fh3 (by omega)
        exact w_vret gz_77_53 gm_77 (k0 h3 (gh3) (gxh3))
      ·
        refine w_iload_n gz_77_15 rfl ?_
        refine w_aload_n gz_77_16 rfl ?_
        refine w_iload gz_77_17 rfl ?_
        refine w_iload_n gz_77_19 rfl ?_
        refine w_inv (k := 0) (as := [(0, x2), (0, p6_1)]) (r := [(0, x1)]) (x := x0) (ls0 := [(2, x0), (0, p6_1), (0, x2)]) gz_77_20 gm_74 rfl t0 rd_8 rfl rfl rfl rfl rfl ?_
        refine w_aload_n gz_74_0 rfl ?_
        refine w_getX (v := (x0 + 1)) gz_74_1 t0 rd_8 rfl (by decide) rfl ?_
        refine w_iload_n gz_74_4 rfl ?_
        refine w_bipush gz_74_5 (by decide) ?_
        refine w_imul gz_74_7 ⟨by omega, by omega⟩ ?_
        refine w_iload_n gz_74_8 rfl ?_
        refine w_iadd gz_74_9 ⟨by omega, by omega⟩ ?_
        refine w_gldA gz_74_10 (ix_8_1 t0) rd_42 (by omega) (by omega) (fun v5 ev5 pv5 qv5 => ?_)
        refine w_iret gz_74_11 gm_74 ?_
        show wp l rho (d + 2) 77 23 [(2, x0), (0, x1), (0, x2), (0, x3), (0, p6_0), (0, p6_1)] [(0, v5), (0, x1)] h6_0 Q
        refine w_iload_n gz_77_23 rfl ?_
        refine w_inS (k := 0) (as := [(0, x3), (0, v5), (0, x1)]) (r := []) (ls0 := [(0, x1), (0, v5), (0, x3)]) gz_77_24 gm_78 rfl rfl rfl rfl rfl rfl ?_
        refine w_iload_n gz_78_0 rfl ?_
        refine w_ifne (t := 17) gz_78_1 rfl (fun u6 => ?_) (fun u6 => ?_)
        ·
          refine w_iload_n gz_78_17 rfl ?_
          refine w_iconst gz_78_18 (by decide) ?_
          refine w_icne (t := 35) gz_78_19 rfl (fun u7 => ?_) (fun u7 => ?_)
          ·
            refine w_iload_n gz_78_35 rfl ?_
            refine w_iload_n gz_78_36 rfl ?_
            refine w_icle (t := 44) gz_78_37 rfl (fun u8 => ?_) (fun u8 => ?_)
            ·
              refine w_iconst gz_78_44 (by decide) ?_
              refine w_bret gz_78_45 gm_78 (by omega) (by omega) ?_
              show wp l rho (d + 2) 77 27 [(2, x0), (0, x1), (0, x2), (0, x3), (0, p6_0), (0, p6_1)] [(0, 0)] h6_0 Q
              refine w_ifeq (t := 41) gz_77_27 rfl (fun u9 => ?_) (fun u9 => by exfalso; omega)
              exact J41_0 (p6_0) (v1) h6_0 (gh_6_0) (gx_6_0) (by omega) (by omega) (by omega) (by omega) (by omega) (by omega) (by omega) (by omega) (by omega) (by omega) (by omega) (by omega) (by omega) (ev1.symm.trans (by omega))
            ·
              refine w_iconst gz_78_40 (by decide) ?_
              refine w_goto (t := 45) gz_78_41 rfl ?_
              refine w_bret gz_78_45 gm_78 (by omega) (by omega) ?_
              show wp l rho (d + 2) 77 27 [(2, x0), (0, x1), (0, x2), (0, x3), (0, p6_0), (0, p6_1)] [(0, 1)] h6_0 Q
              refine w_ifeq (t := 41) gz_77_27 rfl (fun u10 => by exfalso; omega) (fun u10 => ?_)
              refine w_aload_n gz_77_30 rfl ?_
              refine w_iload gz_77_31 rfl ?_
              refine w_iload gz_77_33 rfl ?_
              refine w_iinc (ls' := [(2, x0), (0, x1), (0, x2), (0, x3), (0, (p6_0 + 1)), (0, p6_1)]) gz_77_35 rfl gm_77 rfl rfl rfl ⟨by omega, by omega⟩ ?_
              refine w_inv (k := 0) (as := [(0, p6_0), (0, p6_1)]) (r := []) (x := x0) (ls0 := [(2, x0), (0, p6_1), (0, p6_0)]) gz_77_38 gm_72 rfl t0 rd_8 rfl rfl rfl rfl rfl ?_
              refine w_iload_n gz_72_0 rfl ?_
              refine w_iload_n gz_72_1 rfl ?_
              refine w_iceq (t := 26) gz_72_2 rfl (fun u11 => ?_) (fun u11 => ?_)
              ·
                refine w_vret gz_72_26 gm_72 ?_
                show wp l rho (d + 2) 77 41 [(2, x0), (0, x1), (0, x2), (0, x3), (0, (p6_0 + 1)), (0, p6_1)] [] h6_0 Q
                exact J41_0 ((p6_0 + 1)) (v1) h6_0 (gh_6_0) (gx_6_0) (by omega) (by omega) (by omega) (by omega) (by omega) (by omega) (by omega) (by omega) (by omega) (by omega) (by omega) (by omega) (by omega) (ev1.symm.trans (by omega))
              ·
                refine w_aload_n gz_72_5 rfl ?_
                refine w_getX (v := (x0 + 1)) gz_72_6 t0 rd_8 rfl (by decide) rfl ?_
                refine w_iload_n gz_72_9 rfl ?_
                refine w_bipush gz_72_10 (by decide) ?_
                refine w_imul gz_72_12 ⟨by omega, by omega⟩ ?_
                refine w_aload_n gz_72_13 rfl ?_
                refine w_getX (v := (x0 + 1)) gz_72_14 t0 rd_8 rfl (by decide) rfl ?_
                refine w_iload_n gz_72_17 rfl ?_
                refine w_bipush gz_72_18 (by decide) ?_
                refine w_imul gz_72_20 ⟨by omega, by omega⟩ ?_
                refine w_bipush gz_72_21 (by decide) ?_
                refine w_cpG gz_72_23 (ix_8_1 t0) rd_42 (ix_8_1 t0) rd_42 (by omega) (by omega) (by omega) (by omega) (by omega) rfl (by omega) (fun h14 fh14 => ?_)
                have gh14 : my_fr [(8, 0), (42, -1)] h h14 := my_fr.cp gh_6_0 (ix_8_1 t0) fh14 rfl
                have gxh14 : my_fx x0 3 h h14 := my_fx.cp gx_6_0 fh14 (by omega)
                refine w_vret gz_72_26 gm_72 ?_
                show wp l rho (d + 2) 77 41 [(2, x0), (0, x1), (0, x2), (0, x3), (0, (p6_0 + 1)), (0, p6_1)] [] h14 Q
                exact J41_0 ((p6_0 + 1)) (v1) h14 (gh14) (gxh14) (by omega) (by omega) (by omega) (by omega) (by omega) (by omega) (by omega) (by omega) (by omega) (by omega) (by omega) (by omega) (by omega) (((my_cp_role fh14 t0 (ix_8_1 t0) rfl).trans ev1.symm).trans (by omega))
          ·
            refine w_iload_n gz_78_22 rfl ?_
            refine w_iload_n gz_78_23 rfl ?_
            refine w_icne (t := 31) gz_78_24 rfl (fun u15 => ?_) (fun u15 => ?_)
            ·
              refine w_iconst gz_78_31 (by decide) ?_
              refine w_goto (t := 45) gz_78_32 rfl ?_
              refine w_bret gz_78_45 gm_78 (by omega) (by omega) ?_
              show wp l rho (d + 2) 77 27 [(2, x0), (0, x1), (0, x2), (0, x3), (0, p6_0), (0, p6_1)] [(0, 0)] h6_0 Q
              refine w_ifeq (t := 41) gz_77_27 rfl (fun u16 => ?_) (fun u16 => by exfalso; omega)
              exact J41_0 (p6_0) (v1) h6_0 (gh_6_0) (gx_6_0) (by omega) (by omega) (by omega) (by omega) (by omega) (by omega) (by omega) (by omega) (by omega) (by omega) (by omega) (by omega) (by omega) (ev1.symm.trans (by omega))
            ·
              refine w_iconst gz_78_27 (by decide) ?_
              refine w_goto (t := 45) gz_78_28 rfl ?_
              refine w_bret gz_78_45 gm_78 (by omega) (by omega) ?_
              show wp l rho (d + 2) 77 27 [(2, x0), (0, x1), (0, x2), (0, x3), (0, p6_0), (0, p6_1)] [(0, 1)] h6_0 Q
              refine w_ifeq (t := 41) gz_77_27 rfl (fun u17 => by exfalso; omega) (fun u17 => ?_)
              refine w_aload_n gz_77_30 rfl ?_
              refine w_iload gz_77_31 rfl ?_
              refine w_iload gz_77_33 rfl ?_
              refine w_iinc (ls' := [(2, x0), (0, x1), (0, x2), (0, x3), (0, (p6_0 + 1)), (0, p6_1)]) gz_77_35 rfl gm_77 rfl rfl rfl ⟨by omega, by omega⟩ ?_
              refine w_inv (k := 0) (as := [(0, p6_0), (0, p6_1)]) (r := []) (x := x0) (ls0 := [(2, x0), (0, p6_1), (0, p6_0)]) gz_77_38 gm_72 rfl t0 rd_8 rfl rfl rfl rfl rfl ?_
              refine w_iload_n gz_72_0 rfl ?_
              refine w_iload_n gz_72_1 rfl ?_
              refine w_iceq (t := 26) gz_72_2 rfl (fun u18 => ?_) (fun u18 => ?_)
              ·
                refine w_vret gz_72_26 gm_72 ?_
                show wp l rho (d + 2) 77 41 [(2, x0), (0, x1), (0, x2), (0, x3), (0, (p6_0 + 1)), (0, p6_1)] [] h6_0 Q
                exact J41_0 ((p6_0 + 1)) (v1) h6_0 (gh_6_0) (gx_6_0) (by omega) (by omega) (by omega) (by omega) (by omega) (by omega) (by omega) (by omega) (by omega) (by omega) (by omega) (by omega) (by omega) (ev1.symm.trans (by omega))
              ·
                refine w_aload_n gz_72_5 rfl ?_
                refine w_getX (v := (x0 + 1)) gz_72_6 t0 rd_8 rfl (by decide) rfl ?_
                refine w_iload_n gz_72_9 rfl ?_
                refine w_bipush gz_72_10 (by decide) ?_
                refine w_imul gz_72_12 ⟨by omega, by omega⟩ ?_
                refine w_aload_n gz_72_13 rfl ?_
                refine w_getX (v := (x0 + 1)) gz_72_14 t0 rd_8 rfl (by decide) rfl ?_
                refine w_iload_n gz_72_17 rfl ?_
                refine w_bipush gz_72_18 (by decide) ?_
                refine w_imul gz_72_20 ⟨by omega, by omega⟩ ?_
                refine w_bipush gz_72_21 (by decide) ?_
                refine w_cpG gz_72_23 (ix_8_1 t0) rd_42 (ix_8_1 t0) rd_42 (by omega) (by omega) (by omega) (by omega) (by omega) rfl (by omega) (fun h21 fh21 => ?_)
                have gh21 : my_fr [(8, 0), (42, -1)] h h21 := my_fr.cp gh_6_0 (ix_8_1 t0) fh21 rfl
                have gxh21 : my_fx x0 3 h h21 := my_fx.cp gx_6_0 fh21 (by omega)
                refine w_vret gz_72_26 gm_72 ?_
                show wp l rho (d + 2) 77 41 [(2, x0), (0, x1), (0, x2), (0, x3), (0, (p6_0 + 1)), (0, p6_1)] [] h21 Q
                exact J41_0 ((p6_0 + 1)) (v1) h21 (gh21) (gxh21) (by omega) (by omega) (by omega) (by omega) (by omega) (by omega) (by omega) (by omega) (by omega) (by omega) (by omega) (by omega) (by omega) (((my_cp_role fh21 t0 (ix_8_1 t0) rfl).trans ev1.symm).trans (by omega))
        ·
          refine w_iload_n gz_78_4 rfl ?_
          refine w_iload_n gz_78_5 rfl ?_
          refine w_icge (t := 13) gz_78_6 rfl (fun u22 => ?_) (fun u22 => ?_)
          ·
            refine w_iconst gz_78_13 (by decide) ?_
            refine w_goto (t := 45) gz_78_14 rfl ?_
            refine w_bret gz_78_45 gm_78 (by omega) (by omega) ?_
            show wp l rho (d + 2) 77 27 [(2, x0), (0, x1), (0, x2), (0, x3), (0, p6_0), (0, p6_1)] [(0, 0)] h6_0 Q
            refine w_ifeq (t := 41) gz_77_27 rfl (fun u23 => ?_) (fun u23 => by exfalso; omega)
            exact J41_0 (p6_0) (v1) h6_0 (gh_6_0) (gx_6_0) (by omega) (by omega) (by omega) (by omega) (by omega) (by omega) (by omega) (by omega) (by omega) (by omega) (by omega) (by omega) (by omega) (ev1.symm.trans (by omega))
          ·
            refine w_iconst gz_78_9 (by decide) ?_
            refine w_goto (t := 45) gz_78_10 rfl ?_
            refine w_bret gz_78_45 gm_78 (by omega) (by omega) ?_
            show wp l rho (d + 2) 77 27 [(2, x0), (0, x1), (0, x2), (0, x3), (0, p6_0), (0, p6_1)] [(0, 1)] h6_0 Q
            refine w_ifeq (t := 41) gz_77_27 rfl (fun u24 => by exfalso; omega) (fun u24 => ?_)
            refine w_aload_n gz_77_30 rfl ?_
            refine w_iload gz_77_31 rfl ?_
            refine w_iload gz_77_33 rfl ?_
            refine w_iinc (ls' := [(2, x0), (0, x1), (0, x2), (0, x3), (0, (p6_0 + 1)), (0, p6_1)]) gz_77_35 rfl gm_77 rfl rfl rfl ⟨by omega, by omega⟩ ?_
            refine w_inv (k := 0) (as := [(0, p6_0), (0, p6_1)]) (r := []) (x := x0) (ls0 := [(2, x0), (0, p6_1), (0, p6_0)]) gz_77_38 gm_72 rfl t0 rd_8 rfl rfl rfl rfl rfl ?_
            refine w_iload_n gz_72_0 rfl ?_
            refine w_iload_n gz_72_1 rfl ?_
            refine w_iceq (t := 26) gz_72_2 rfl (fun u25 => ?_) (fun u25 => ?_)
            ·
              refine w_vret gz_72_26 gm_72 ?_
              show wp l rho (d + 2) 77 41 [(2, x0), (0, x1), (0, x2), (0, x3), (0, (p6_0 + 1)), (0, p6_1)] [] h6_0 Q
              exact J41_0 ((p6_0 + 1)) (v1) h6_0 (gh_6_0) (gx_6_0) (by omega) (by omega) (by omega) (by omega) (by omega) (by omega) (by omega) (by omega) (by omega) (by omega) (by omega) (by omega) (by omega) (ev1.symm.trans (by omega))
            ·
              refine w_aload_n gz_72_5 rfl ?_
              refine w_getX (v := (x0 + 1)) gz_72_6 t0 rd_8 rfl (by decide) rfl ?_
              refine w_iload_n gz_72_9 rfl ?_
              refine w_bipush gz_72_10 (by decide) ?_
              refine w_imul gz_72_12 ⟨by omega, by omega⟩ ?_
              refine w_aload_n gz_72_13 rfl ?_
              refine w_getX (v := (x0 + 1)) gz_72_14 t0 rd_8 rfl (by decide) rfl ?_
              refine w_iload_n gz_72_17 rfl ?_
              refine w_bipush gz_72_18 (by decide) ?_
              refine w_imul gz_72_20 ⟨by omega, by omega⟩ ?_
              refine w_bipush gz_72_21 (by decide) ?_
              refine w_cpG gz_72_23 (ix_8_1 t0) rd_42 (ix_8_1 t0) rd_42 (by omega) (by omega) (by omega) (by omega) (by omega) rfl (by omega) (fun h28 fh28 => ?_)
              have gh28 : my_fr [(8, 0), (42, -1)] h h28 := my_fr.cp gh_6_0 (ix_8_1 t0) fh28 rfl
              have gxh28 : my_fx x0 3 h h28 := my_fx.cp gx_6_0 fh28 (by omega)
              refine w_vret gz_72_26 gm_72 ?_
              show wp l rho (d + 2) 77 41 [(2, x0), (0, x1), (0, x2), (0, x3), (0, (p6_0 + 1)), (0, p6_1)] [] h28 Q
              exact J41_0 ((p6_0 + 1)) (v1) h28 (gh28) (gxh28) (by omega) (by omega) (by omega) (by omega) (by omega) (by omega) (by omega) (by omega) (by omega) (by omega) (by omega) (by omega) (by omega) (((my_cp_role fh28 t0 (ix_8_1 t0) rfl).trans ev1.symm).trans (by omega))
  refine w_iconst gz_77_0 (by decide) ?_
  refine w_istore (ls' := [(2, x0), (0, x1), (0, x2), (0, x3), (0, 0), (9, 0)]) gz_77_1 gm_77 rfl rfl rfl ?_
  refine w_iconst gz_77_3 (by decide) ?_
  refine w_istore (ls' := [(2, x0), (0, x1), (0, x2), (0, x3), (0, 0), (0, 0)]) gz_77_4 gm_77 rfl rfl rfl ?_
  exact J6_0 12 (0) (0) h (my_fr.rf) (my_fx.rf) (by omega) (by omega) (by omega) (by omega) (by omega) (by omega)
end MYG2
