/-! contracts, printed by wip/gen/gy.py -/
section MYNThroughWindow_row
theorem c_ThroughWindow_row {l : Launch} {rho : Nat → Int32} {d : Nat} {h : my_H} {Q : my_H → my_V → Prop} {x1 x2 x3 x4 x5 : Int} (k0 : ∀ (h' : my_H), my_fr [(24, -1), (30, -1), (31, -1)] h h' → Q h' (0, 0)) (k1 : ∀ (h' : my_H), my_fr [(24, -1), (30, -1), (31, -1)] h h' → 0 ≤ x1 → x1 ≤ 2 → Q h' (0, 1)) : wp l rho (d + 4) 14 0 [(2, 0), (0, x1), (0, x2), (0, x3), (0, x4), (0, x5), (9, 0)] [] h Q := by
  have J60_0 : ∀ (n : Nat) (p60_0 : Int) (h60_0 : my_H), my_fr [(24, -1), (30, -1), (31, -1)] h h60_0 → 0 ≤ x1 → x1 ≤ 2 → 0 ≤ p60_0 → p60_0 ≤ 4 → (∀ j : Int, 0 ≤ j → j < p60_0 → 0 ≤ h60_0 144 j ∧ h60_0 144 j ≤ 19) → (p60_0 = 0 → h60_0 144 0 = x2) → (1 ≤ p60_0 → 0 ≤ x2 ∧ x2 ≤ 19) → 1 ≤ h60_0 2 x1 → 5 - p60_0 ≤ (n : Int) → wp l rho (d + 4) 14 60 [(2, 0), (0, x1), (0, x2), (0, x3), (0, x4), (0, x5), (0, p60_0)] [] h60_0 Q := by
    intro n
    induction n with
    | zero => intro p60_0 h60_0 gh_60_0 q0_60_0 q1_60_0 q2_60_0 q3_60_0 fr1_60_0 f0_60_0 f1_60_0 cw_60_0 hm_60_0; exfalso; omega
    | succ n ih_60_0 =>
      intro p60_0 h60_0 gh_60_0 q0_60_0 q1_60_0 q2_60_0 q3_60_0 fr1_60_0 f0_60_0 f1_60_0 cw_60_0 hm_60_0
      refine w_iload gz_14_60 rfl ?_
      refine w_iconst gz_14_62 (by decide) ?_
      refine w_icge (t := 121) gz_14_63 rfl (fun u1 => ?_) (fun u1 => ?_)
      ·
        refine w_aload_n gz_14_121 rfl ?_
        refine w_getX (v := 7) gz_14_122 is_0 rd_9 rfl (by decide) rfl ?_
        refine w_iload_n gz_14_125 rfl ?_
        refine w_iload_n gz_14_126 rfl ?_
        refine w_inv (k := 0) (as := [(0, x2), (0, x1)]) (r := []) (x := 7) (ls0 := [(2, 7), (0, x1), (0, x2)]) gz_14_127 gm_15 rfl is_7 rd_6 rfl rfl rfl rfl rfl ?_
        refine w_iload_n gz_15_0 rfl ?_
        refine w_iflt (t := 31) gz_15_1 rfl (fun u3 => ?_) (fun u3 => ?_)
        ·
          refine w_iconst gz_15_31 (by decide) ?_
          refine w_bret gz_15_32 gm_15 (by omega) (by omega) ?_
          show wp l rho (d + 4) 14 130 [(2, 0), (0, x1), (0, x2), (0, x3), (0, x4), (0, x5), (0, p60_0)] [(0, 0)] h60_0 Q
          refine w_ifeq (t := 135) gz_14_130 rfl (fun u4 => ?_) (fun u4 => by exfalso; omega)
          refine w_aload_n gz_14_135 rfl ?_
          refine w_getX (v := 7) gz_14_136 is_0 rd_9 rfl (by decide) rfl ?_
          refine w_iload_n gz_14_139 rfl ?_
          refine w_aload_n gz_14_140 rfl ?_
          refine w_getX (v := 144) gz_14_141 is_0 rd_9 rfl (by decide) rfl ?_
          have hrow : ∀ j : Int, 0 ≤ j → j < 4 → 0 ≤ h60_0 144 j ∧ h60_0 144 j ≤ 19 := fun j a b => fr1_60_0 j a (by omega)
          refine w_inv (k := 0) (as := [(2, 144), (0, x1)]) (r := []) (x := 7) (ls0 := [(2, 7), (0, x1), (2, 144)]) gz_14_144 gm_16 rfl is_7 rd_6 rfl rfl rfl rfl rfl ?_
          refine w_aload_n gz_16_0 rfl ?_
          refine w_iconst gz_16_1 (by decide) ?_
          refine w_aload_n gz_16_2 rfl ?_
          refine w_getX (v := 8) gz_16_3 is_7 rd_6 rfl (by decide) rfl ?_
          refine w_iload_n gz_16_6 rfl ?_
          refine w_aload_n gz_16_7 rfl ?_
          refine w_iconst gz_16_8 (by decide) ?_
          refine w_iald gz_16_9 is_144 rd_24 (by omega) (by omega) (fun v8 ev8 pv8 qv8 => ?_)
          have hi9 : 0 ≤ v8 := by first | omega | (have q := hrow 0 (by decide) (by decide); omega)
          have hi10 : v8 ≤ 19 := by first | omega | (have q := hrow 0 (by decide) (by decide); omega)
          refine w_inS (k := 0) (as := [(0, v8), (0, x1)]) (r := [(2, 8), (0, 0), (2, 144)]) (ls0 := [(0, x1), (0, v8)]) gz_16_10 gm_17 rfl rfl rfl rfl rfl rfl ?_
          refine w_iload_n gz_17_0 rfl ?_
          refine w_bipush gz_17_1 (by decide) ?_
          refine w_imul gz_17_3 ⟨by omega, by omega⟩ ?_
          refine w_iload_n gz_17_4 rfl ?_
          refine w_iadd gz_17_5 ⟨by omega, by omega⟩ ?_
          refine w_iconst gz_17_6 (by decide) ?_
          refine w_imul gz_17_7 ⟨by omega, by omega⟩ ?_
          refine w_iret gz_17_8 gm_17 ?_
          show wp l rho (d + 3) 16 13 [(2, 7), (0, x1), (2, 144)] [(0, (((x1 * 20) + v8) * 4)), (2, 8), (0, 0), (2, 144)] h60_0 _
          refine w_iconst gz_16_13 (by decide) ?_
          refine w_cpR gz_16_14 is_144 rd_24 is_8 rd_30 (by omega) (by omega) (by omega) (by omega) (by omega) rfl (fun j a b => by have q := hrow j a b; rw [Int.zero_add]; omega) (fun h11 fh11 => ?_)
          have gh11 : my_fr [(24, -1), (30, -1), (31, -1)] h h11 := my_fr.cp gh_60_0 is_8 fh11 rfl
          refine w_aload_n gz_16_17 rfl ?_
          refine w_getX (v := 9) gz_16_18 is_7 rd_6 rfl (by decide) rfl ?_
          refine w_iload_n gz_16_21 rfl ?_
          refine w_dup2 gz_16_22 rfl rfl ?_
          refine w_iald gz_16_23 is_9 rd_31 (by omega) (by omega) (fun v13 ev13 pv13 qv13 => ?_)
          refine w_iconst gz_16_24 (by decide) ?_
          refine w_ianyA gz_16_25 (fun v14 pv14 qv14 => ?_)
          refine w_iastA gz_16_26 is_9 rd_31 (by omega) (by omega) (fun h15 fh15 => ?_)
          have gh15 : my_fr [(24, -1), (30, -1), (31, -1)] h h15 := my_fr.up gh11 is_9 fh15 rfl
          refine w_vret gz_16_27 gm_16 ?_
          show wp l rho (d + 4) 14 147 [(2, 0), (0, x1), (0, x2), (0, x3), (0, x4), (0, x5), (0, p60_0)] [] h15 Q
          refine w_aload_n gz_14_147 rfl ?_
          refine w_getX (v := 1) gz_14_148 is_0 rd_9 rfl (by decide) rfl ?_
          refine w_aload_n gz_14_151 rfl ?_
          refine w_getX (v := 7) gz_14_152 is_0 rd_9 rfl (by decide) rfl ?_
          refine w_inv (k := 0) (as := [(2, 7)]) (r := []) (x := 1) (ls0 := [(2, 1), (2, 7)]) gz_14_155 gm_18 rfl is_1 rd_3 rfl rfl rfl rfl rfl (c_Laws_hold (d := d) (x1 := 7) is_7 ?_ ?_)
          ·
            show wp l rho (d + 4) 14 158 [(2, 0), (0, x1), (0, x2), (0, x3), (0, x4), (0, x5), (0, p60_0)] [(0, 0)] h15 Q
            refine w_ifeq (t := 163) gz_14_158 rfl (fun u18 => ?_) (fun u18 => by exfalso; omega)
            refine w_aload_n gz_14_163 rfl ?_
            refine w_getX (v := 7) gz_14_164 is_0 rd_9 rfl (by decide) rfl ?_
            refine w_iload_n gz_14_167 rfl ?_
            refine w_iload_n gz_14_168 rfl ?_
            have hi20 : 0 ≤ x2 := by have q := f1_60_0 (by omega); omega
            have hi21 : x2 ≤ 19 := by have q := f1_60_0 (by omega); omega
            exfalso; omega
          ·
            show wp l rho (d + 4) 14 158 [(2, 0), (0, x1), (0, x2), (0, x3), (0, x4), (0, x5), (0, p60_0)] [(0, 1)] h15 Q
            refine w_ifeq (t := 163) gz_14_158 rfl (fun u22 => by exfalso; omega) (fun u22 => ?_)
            refine w_iconst gz_14_161 (by decide) ?_
            exact w_bret gz_14_162 gm_14 (by omega) (by omega) (k1 h15 (gh15) (by omega) (by omega))
        ·
          refine w_iload_n gz_15_4 rfl ?_
          refine w_bipush gz_15_5 (by decide) ?_
          refine w_icge (t := 31) gz_15_7 rfl (fun u23 => ?_) (fun u23 => ?_)
          ·
            refine w_iconst gz_15_31 (by decide) ?_
            refine w_bret gz_15_32 gm_15 (by omega) (by omega) ?_
            show wp l rho (d + 4) 14 130 [(2, 0), (0, x1), (0, x2), (0, x3), (0, x4), (0, x5), (0, p60_0)] [(0, 0)] h60_0 Q
            refine w_ifeq (t := 135) gz_14_130 rfl (fun u24 => ?_) (fun u24 => by exfalso; omega)
            refine w_aload_n gz_14_135 rfl ?_
            refine w_getX (v := 7) gz_14_136 is_0 rd_9 rfl (by decide) rfl ?_
            refine w_iload_n gz_14_139 rfl ?_
            refine w_aload_n gz_14_140 rfl ?_
            refine w_getX (v := 144) gz_14_141 is_0 rd_9 rfl (by decide) rfl ?_
            have hrow : ∀ j : Int, 0 ≤ j → j < 4 → 0 ≤ h60_0 144 j ∧ h60_0 144 j ≤ 19 := fun j a b => fr1_60_0 j a (by omega)
            refine w_inv (k := 0) (as := [(2, 144), (0, x1)]) (r := []) (x := 7) (ls0 := [(2, 7), (0, x1), (2, 144)]) gz_14_144 gm_16 rfl is_7 rd_6 rfl rfl rfl rfl rfl ?_
            refine w_aload_n gz_16_0 rfl ?_
            refine w_iconst gz_16_1 (by decide) ?_
            refine w_aload_n gz_16_2 rfl ?_
            refine w_getX (v := 8) gz_16_3 is_7 rd_6 rfl (by decide) rfl ?_
            refine w_iload_n gz_16_6 rfl ?_
            refine w_aload_n gz_16_7 rfl ?_
            refine w_iconst gz_16_8 (by decide) ?_
            refine w_iald gz_16_9 is_144 rd_24 (by omega) (by omega) (fun v28 ev28 pv28 qv28 => ?_)
            have hi29 : 0 ≤ v28 := by first | omega | (have q := hrow 0 (by decide) (by decide); omega)
            have hi30 : v28 ≤ 19 := by first | omega | (have q := hrow 0 (by decide) (by decide); omega)
            refine w_inS (k := 0) (as := [(0, v28), (0, x1)]) (r := [(2, 8), (0, 0), (2, 144)]) (ls0 := [(0, x1), (0, v28)]) gz_16_10 gm_17 rfl rfl rfl rfl rfl rfl ?_
            refine w_iload_n gz_17_0 rfl ?_
            refine w_bipush gz_17_1 (by decide) ?_
            refine w_imul gz_17_3 ⟨by omega, by omega⟩ ?_
            refine w_iload_n gz_17_4 rfl ?_
            refine w_iadd gz_17_5 ⟨by omega, by omega⟩ ?_
            refine w_iconst gz_17_6 (by decide) ?_
            refine w_imul gz_17_7 ⟨by omega, by omega⟩ ?_
            refine w_iret gz_17_8 gm_17 ?_
            show wp l rho (d + 3) 16 13 [(2, 7), (0, x1), (2, 144)] [(0, (((x1 * 20) + v28) * 4)), (2, 8), (0, 0), (2, 144)] h60_0 _
            refine w_iconst gz_16_13 (by decide) ?_
            refine w_cpR gz_16_14 is_144 rd_24 is_8 rd_30 (by omega) (by omega) (by omega) (by omega) (by omega) rfl (fun j a b => by have q := hrow j a b; rw [Int.zero_add]; omega) (fun h31 fh31 => ?_)
            have gh31 : my_fr [(24, -1), (30, -1), (31, -1)] h h31 := my_fr.cp gh_60_0 is_8 fh31 rfl
            refine w_aload_n gz_16_17 rfl ?_
            refine w_getX (v := 9) gz_16_18 is_7 rd_6 rfl (by decide) rfl ?_
            refine w_iload_n gz_16_21 rfl ?_
            refine w_dup2 gz_16_22 rfl rfl ?_
            refine w_iald gz_16_23 is_9 rd_31 (by omega) (by omega) (fun v33 ev33 pv33 qv33 => ?_)
            refine w_iconst gz_16_24 (by decide) ?_
            refine w_ianyA gz_16_25 (fun v34 pv34 qv34 => ?_)
            refine w_iastA gz_16_26 is_9 rd_31 (by omega) (by omega) (fun h35 fh35 => ?_)
            have gh35 : my_fr [(24, -1), (30, -1), (31, -1)] h h35 := my_fr.up gh31 is_9 fh35 rfl
            refine w_vret gz_16_27 gm_16 ?_
            show wp l rho (d + 4) 14 147 [(2, 0), (0, x1), (0, x2), (0, x3), (0, x4), (0, x5), (0, p60_0)] [] h35 Q
            refine w_aload_n gz_14_147 rfl ?_
            refine w_getX (v := 1) gz_14_148 is_0 rd_9 rfl (by decide) rfl ?_
            refine w_aload_n gz_14_151 rfl ?_
            refine w_getX (v := 7) gz_14_152 is_0 rd_9 rfl (by decide) rfl ?_
            refine w_inv (k := 0) (as := [(2, 7)]) (r := []) (x := 1) (ls0 := [(2, 1), (2, 7)]) gz_14_155 gm_18 rfl is_1 rd_3 rfl rfl rfl rfl rfl (c_Laws_hold (d := d) (x1 := 7) is_7 ?_ ?_)
            ·
              show wp l rho (d + 4) 14 158 [(2, 0), (0, x1), (0, x2), (0, x3), (0, x4), (0, x5), (0, p60_0)] [(0, 0)] h35 Q
              refine w_ifeq (t := 163) gz_14_158 rfl (fun u38 => ?_) (fun u38 => by exfalso; omega)
              refine w_aload_n gz_14_163 rfl ?_
              refine w_getX (v := 7) gz_14_164 is_0 rd_9 rfl (by decide) rfl ?_
              refine w_iload_n gz_14_167 rfl ?_
              refine w_iload_n gz_14_168 rfl ?_
              have hi40 : 0 ≤ x2 := by have q := f1_60_0 (by omega); omega
              have hi41 : x2 ≤ 19 := by have q := f1_60_0 (by omega); omega
              exfalso; omega
            ·
              show wp l rho (d + 4) 14 158 [(2, 0), (0, x1), (0, x2), (0, x3), (0, x4), (0, x5), (0, p60_0)] [(0, 1)] h35 Q
              refine w_ifeq (t := 163) gz_14_158 rfl (fun u42 => by exfalso; omega) (fun u42 => ?_)
              refine w_iconst gz_14_161 (by decide) ?_
              exact w_bret gz_14_162 gm_14 (by omega) (by omega) (k1 h35 (gh35) (by omega) (by omega))
          ·
            refine w_aload_n gz_15_10 rfl ?_
            refine w_getX (v := 8) gz_15_11 is_7 rd_6 rfl (by decide) rfl ?_
            refine w_iload_n gz_15_14 rfl ?_
            refine w_bipush gz_15_15 (by decide) ?_
            refine w_imul gz_15_17 ⟨by omega, by omega⟩ ?_
            refine w_iload_n gz_15_18 rfl ?_
            refine w_iadd gz_15_19 ⟨by omega, by omega⟩ ?_
            refine w_iconst gz_15_20 (by decide) ?_
            refine w_imul gz_15_21 ⟨by omega, by omega⟩ ?_
            refine w_iald gz_15_22 is_8 rd_30 (by omega) (by omega) (fun v44 ev44 pv44 qv44 => ?_)
            refine w_iconst gz_15_23 (by decide) ?_
            refine w_iceq (t := 31) gz_15_24 rfl (fun u45 => ?_) (fun u45 => ?_)
            ·
              refine w_iconst gz_15_31 (by decide) ?_
              refine w_bret gz_15_32 gm_15 (by omega) (by omega) ?_
              show wp l rho (d + 4) 14 130 [(2, 0), (0, x1), (0, x2), (0, x3), (0, x4), (0, x5), (0, p60_0)] [(0, 0)] h60_0 Q
              refine w_ifeq (t := 135) gz_14_130 rfl (fun u46 => ?_) (fun u46 => by exfalso; omega)
              refine w_aload_n gz_14_135 rfl ?_
              refine w_getX (v := 7) gz_14_136 is_0 rd_9 rfl (by decide) rfl ?_
              refine w_iload_n gz_14_139 rfl ?_
              refine w_aload_n gz_14_140 rfl ?_
              refine w_getX (v := 144) gz_14_141 is_0 rd_9 rfl (by decide) rfl ?_
              have hrow : ∀ j : Int, 0 ≤ j → j < 4 → 0 ≤ h60_0 144 j ∧ h60_0 144 j ≤ 19 := fun j a b => fr1_60_0 j a (by omega)
              refine w_inv (k := 0) (as := [(2, 144), (0, x1)]) (r := []) (x := 7) (ls0 := [(2, 7), (0, x1), (2, 144)]) gz_14_144 gm_16 rfl is_7 rd_6 rfl rfl rfl rfl rfl ?_
              refine w_aload_n gz_16_0 rfl ?_
              refine w_iconst gz_16_1 (by decide) ?_
              refine w_aload_n gz_16_2 rfl ?_
              refine w_getX (v := 8) gz_16_3 is_7 rd_6 rfl (by decide) rfl ?_
              refine w_iload_n gz_16_6 rfl ?_
              refine w_aload_n gz_16_7 rfl ?_
              refine w_iconst gz_16_8 (by decide) ?_
              refine w_iald gz_16_9 is_144 rd_24 (by omega) (by omega) (fun v50 ev50 pv50 qv50 => ?_)
              have hi51 : 0 ≤ v50 := by first | omega | (have q := hrow 0 (by decide) (by decide); omega)
              have hi52 : v50 ≤ 19 := by first | omega | (have q := hrow 0 (by decide) (by decide); omega)
              refine w_inS (k := 0) (as := [(0, v50), (0, x1)]) (r := [(2, 8), (0, 0), (2, 144)]) (ls0 := [(0, x1), (0, v50)]) gz_16_10 gm_17 rfl rfl rfl rfl rfl rfl ?_
              refine w_iload_n gz_17_0 rfl ?_
              refine w_bipush gz_17_1 (by decide) ?_
              refine w_imul gz_17_3 ⟨by omega, by omega⟩ ?_
              refine w_iload_n gz_17_4 rfl ?_
              refine w_iadd gz_17_5 ⟨by omega, by omega⟩ ?_
              refine w_iconst gz_17_6 (by decide) ?_
              refine w_imul gz_17_7 ⟨by omega, by omega⟩ ?_
              refine w_iret gz_17_8 gm_17 ?_
              show wp l rho (d + 3) 16 13 [(2, 7), (0, x1), (2, 144)] [(0, (((x1 * 20) + v50) * 4)), (2, 8), (0, 0), (2, 144)] h60_0 _
              refine w_iconst gz_16_13 (by decide) ?_
              refine w_cpR gz_16_14 is_144 rd_24 is_8 rd_30 (by omega) (by omega) (by omega) (by omega) (by omega) rfl (fun j a b => by have q := hrow j a b; rw [Int.zero_add]; omega) (fun h53 fh53 => ?_)
              have gh53 : my_fr [(24, -1), (30, -1), (31, -1)] h h53 := my_fr.cp gh_60_0 is_8 fh53 rfl
              refine w_aload_n gz_16_17 rfl ?_
              refine w_getX (v := 9) gz_16_18 is_7 rd_6 rfl (by decide) rfl ?_
              refine w_iload_n gz_16_21 rfl ?_
              refine w_dup2 gz_16_22 rfl rfl ?_
              refine w_iald gz_16_23 is_9 rd_31 (by omega) (by omega) (fun v55 ev55 pv55 qv55 => ?_)
              refine w_iconst gz_16_24 (by decide) ?_
              refine w_ianyA gz_16_25 (fun v56 pv56 qv56 => ?_)
              refine w_iastA gz_16_26 is_9 rd_31 (by omega) (by omega) (fun h57 fh57 => ?_)
              have gh57 : my_fr [(24, -1), (30, -1), (31, -1)] h h57 := my_fr.up gh53 is_9 fh57 rfl
              refine w_vret gz_16_27 gm_16 ?_
              show wp l rho (d + 4) 14 147 [(2, 0), (0, x1), (0, x2), (0, x3), (0, x4), (0, x5), (0, p60_0)] [] h57 Q
              refine w_aload_n gz_14_147 rfl ?_
              refine w_getX (v := 1) gz_14_148 is_0 rd_9 rfl (by decide) rfl ?_
              refine w_aload_n gz_14_151 rfl ?_
              refine w_getX (v := 7) gz_14_152 is_0 rd_9 rfl (by decide) rfl ?_
              refine w_inv (k := 0) (as := [(2, 7)]) (r := []) (x := 1) (ls0 := [(2, 1), (2, 7)]) gz_14_155 gm_18 rfl is_1 rd_3 rfl rfl rfl rfl rfl (c_Laws_hold (d := d) (x1 := 7) is_7 ?_ ?_)
              ·
                show wp l rho (d + 4) 14 158 [(2, 0), (0, x1), (0, x2), (0, x3), (0, x4), (0, x5), (0, p60_0)] [(0, 0)] h57 Q
                refine w_ifeq (t := 163) gz_14_158 rfl (fun u60 => ?_) (fun u60 => by exfalso; omega)
                refine w_aload_n gz_14_163 rfl ?_
                refine w_getX (v := 7) gz_14_164 is_0 rd_9 rfl (by decide) rfl ?_
                refine w_iload_n gz_14_167 rfl ?_
                refine w_iload_n gz_14_168 rfl ?_
                have hi62 : 0 ≤ x2 := by have q := f1_60_0 (by omega); omega
                have hi63 : x2 ≤ 19 := by have q := f1_60_0 (by omega); omega
                refine w_inv (k := 2) (as := [(0, x2), (0, x1)]) (r := []) (x := 7) (ls0 := [(2, 7), (0, x1), (0, x2), (9, 0), (9, 0)]) gz_14_169 gm_23 rfl is_7 rd_6 rfl rfl rfl rfl rfl (c_Rows_drop (d := (d + 2)) (x0 := 7) (x1 := x1) (x2 := x2) is_7 (by omega) (by omega) (by omega) (by omega) (fun h64 frh64 fxh64 => ?_))
                have gh64 : my_fr [(24, -1), (30, -1), (31, -1)] h h64 := my_fr.tr gh57 (frh64.mo rfl)
                show wp l rho (d + 4) 14 172 [(2, 0), (0, x1), (0, x2), (0, x3), (0, x4), (0, x5), (0, p60_0)] [] h64 Q
                refine w_iconst gz_14_172 (by decide) ?_
                exact w_bret gz_14_173 gm_14 (by omega) (by omega) (k0 h64 (gh64))
              ·
                show wp l rho (d + 4) 14 158 [(2, 0), (0, x1), (0, x2), (0, x3), (0, x4), (0, x5), (0, p60_0)] [(0, 1)] h57 Q
                refine w_ifeq (t := 163) gz_14_158 rfl (fun u65 => by exfalso; omega) (fun u65 => ?_)
                refine w_iconst gz_14_161 (by decide) ?_
                exact w_bret gz_14_162 gm_14 (by omega) (by omega) (k1 h57 (gh57) (by omega) (by omega))
            ·
              refine w_iconst gz_15_27 (by decide) ?_
              refine w_goto (t := 32) gz_15_28 rfl ?_
              refine w_bret gz_15_32 gm_15 (by omega) (by omega) ?_
              show wp l rho (d + 4) 14 130 [(2, 0), (0, x1), (0, x2), (0, x3), (0, x4), (0, x5), (0, p60_0)] [(0, 1)] h60_0 Q
              refine w_ifeq (t := 135) gz_14_130 rfl (fun u66 => by exfalso; omega) (fun u66 => ?_)
              refine w_iconst gz_14_133 (by decide) ?_
              exact w_bret gz_14_134 gm_14 (by omega) (by omega) (k0 h60_0 (gh_60_0))
      ·
        refine w_iload gz_14_66 rfl ?_
        refine w_aload_n gz_14_68 rfl ?_
        refine w_getX (v := 1) gz_14_69 is_0 rd_9 rfl (by decide) rfl ?_
        refine w_getX (v := 2) gz_14_72 is_1 rd_3 rfl (by decide) rfl ?_
        refine w_iload_n gz_14_75 rfl ?_
        refine w_iald gz_14_76 is_2 rd_25 (by omega) (by omega) (fun v69 ev69 pv69 qv69 => ?_)
        refine w_iclt (t := 91) gz_14_77 rfl (fun u70 => ?_) (fun u70 => ?_)
        ·
          refine w_aload_n gz_14_91 rfl ?_
          refine w_getX (v := 144) gz_14_92 is_0 rd_9 rfl (by decide) rfl ?_
          refine w_iload gz_14_95 rfl ?_
          refine w_iald gz_14_97 is_144 rd_24 (by omega) (by omega) (fun v72 ev72 pv72 qv72 => ?_)
          refine w_iflt (t := 113) gz_14_98 rfl (fun u73 => ?_) (fun u73 => ?_)
          ·
            refine w_iconst gz_14_113 (by decide) ?_
            exact w_bret gz_14_114 gm_14 (by omega) (by omega) (k0 h60_0 (gh_60_0))
          ·
            refine w_aload_n gz_14_101 rfl ?_
            refine w_getX (v := 144) gz_14_102 is_0 rd_9 rfl (by decide) rfl ?_
            refine w_iload gz_14_105 rfl ?_
            refine w_iald gz_14_107 is_144 rd_24 (by omega) (by omega) (fun v75 ev75 pv75 qv75 => ?_)
            have zv75 := ev75.trans ev72.symm
            refine w_bipush gz_14_108 (by decide) ?_
            refine w_iclt (t := 115) gz_14_110 rfl (fun u76 => ?_) (fun u76 => ?_)
            ·
              refine w_iinc (ls' := [(2, 0), (0, x1), (0, x2), (0, x3), (0, x4), (0, x5), (0, (p60_0 + 1))]) gz_14_115 rfl gm_14 rfl rfl rfl ⟨by omega, by omega⟩ ?_
              refine w_goto (t := 60) gz_14_118 rfl ?_
              have c2 : ∀ j : Int, h60_0 2 j = h60_0 2 j := fun _ => rfl
              have c2x := c2 x1
              exact ih_60_0 ((p60_0 + 1)) h60_0 (gh_60_0) (by omega) (by omega) (by omega) (by omega) (by first | (intro j a b; omega) | (intro j a b; rcases (by omega : j = p60_0 ∨ j < p60_0) with q | q <;> first | exact fr1_60_0 j a q | (rw [my_up_ne  (by omega)]; exact fr1_60_0 j a q) | (subst q; omega) | (subst q; rw [my_up_self ]; omega))) (by first | omega | (intro _; simp only [Int.add_zero, my_up]; simp) | grind) (by first | omega | (have q := f1_60_0; have q2 := f0_60_0; omega) | grind) (by first | assumption | omega | (subst_vars; omega)) (by omega)
            ·
              refine w_iconst gz_14_113 (by decide) ?_
              exact w_bret gz_14_114 gm_14 (by omega) (by omega) (k0 h60_0 (gh_60_0))
        ·
          refine w_aload_n gz_14_80 rfl ?_
          refine w_getX (v := 144) gz_14_81 is_0 rd_9 rfl (by decide) rfl ?_
          refine w_iload gz_14_84 rfl ?_
          refine w_iconst gz_14_86 (by decide) ?_
          refine w_iastA gz_14_87 is_144 rd_24 (by omega) (by omega) (fun h78 fh78 => ?_)
          have gh78 : my_fr [(24, -1), (30, -1), (31, -1)] h h78 := my_fr.up gh_60_0 is_144 fh78 rfl
          refine w_goto (t := 115) gz_14_88 rfl ?_
          refine w_iinc (ls' := [(2, 0), (0, x1), (0, x2), (0, x3), (0, x4), (0, x5), (0, (p60_0 + 1))]) gz_14_115 rfl gm_14 rfl rfl rfl ⟨by omega, by omega⟩ ?_
          refine w_goto (t := 60) gz_14_118 rfl ?_
          have c2 : ∀ j : Int, h78 2 j = h60_0 2 j := fun j => ((my_up_role fh78 is_2 is_144 rfl).trans (rfl : h60_0 2 j = h60_0 2 j))
          have c2x := c2 x1
          exact ih_60_0 ((p60_0 + 1)) h78 (gh78) (by omega) (by omega) (by omega) (by omega) (by first | (intro j a b; omega) | (intro j a b; rcases (by omega : j = p60_0 ∨ j < p60_0) with q | q <;> first | exact fr1_60_0 j a q | (rw [my_up_ne fh78 (by omega)]; exact fr1_60_0 j a q) | (subst q; omega) | (subst q; rw [my_up_self fh78]; omega))) (by first | omega | (intro _; simp only [fh78, my_up]; simp) | grind) (by first | omega | (have q := f1_60_0; have q2 := f0_60_0; omega) | grind) (by first | assumption | omega | (subst_vars; omega)) (by omega)
  refine w_aload_n gz_14_0 rfl ?_
  refine w_getX (v := 1) gz_14_1 is_0 rd_9 rfl (by decide) rfl ?_
  refine w_iload_n gz_14_4 rfl ?_
  refine w_inv (k := 0) (as := [(0, x1)]) (r := []) (x := 1) (ls0 := [(2, 1), (0, x1)]) gz_14_5 gm_13 rfl is_1 rd_3 rfl rfl rfl rfl rfl ?_
  refine w_iload_n gz_13_0 rfl ?_
  refine w_iflt (t := 22) gz_13_1 rfl (fun u80 => ?_) (fun u80 => ?_)
  ·
    refine w_iconst gz_13_22 (by decide) ?_
    refine w_bret gz_13_23 gm_13 (by omega) (by omega) ?_
    show wp l rho (d + 4) 14 8 [(2, 0), (0, x1), (0, x2), (0, x3), (0, x4), (0, x5), (9, 0)] [(0, 0)] h Q
    refine w_ifeq (t := 25) gz_14_8 rfl (fun u81 => ?_) (fun u81 => by exfalso; omega)
    refine w_iconst gz_14_25 (by decide) ?_
    exact w_bret gz_14_26 gm_14 (by omega) (by omega) (k0 h (my_fr.rf))
  ·
    refine w_iload_n gz_13_4 rfl ?_
    refine w_iconst gz_13_5 (by decide) ?_
    refine w_icge (t := 22) gz_13_6 rfl (fun u82 => ?_) (fun u82 => ?_)
    ·
      refine w_iconst gz_13_22 (by decide) ?_
      refine w_bret gz_13_23 gm_13 (by omega) (by omega) ?_
      show wp l rho (d + 4) 14 8 [(2, 0), (0, x1), (0, x2), (0, x3), (0, x4), (0, x5), (9, 0)] [(0, 0)] h Q
      refine w_ifeq (t := 25) gz_14_8 rfl (fun u83 => ?_) (fun u83 => by exfalso; omega)
      refine w_iconst gz_14_25 (by decide) ?_
      exact w_bret gz_14_26 gm_14 (by omega) (by omega) (k0 h (my_fr.rf))
    ·
      refine w_aload_n gz_13_9 rfl ?_
      refine w_getX (v := 2) gz_13_10 is_1 rd_3 rfl (by decide) rfl ?_
      refine w_iload_n gz_13_13 rfl ?_
      refine w_iald gz_13_14 is_2 rd_25 (by omega) (by omega) (fun v85 ev85 pv85 qv85 => ?_)
      refine w_ifle (t := 22) gz_13_15 rfl (fun u86 => ?_) (fun u86 => ?_)
      ·
        refine w_iconst gz_13_22 (by decide) ?_
        refine w_bret gz_13_23 gm_13 (by omega) (by omega) ?_
        show wp l rho (d + 4) 14 8 [(2, 0), (0, x1), (0, x2), (0, x3), (0, x4), (0, x5), (9, 0)] [(0, 0)] h Q
        refine w_ifeq (t := 25) gz_14_8 rfl (fun u87 => ?_) (fun u87 => by exfalso; omega)
        refine w_iconst gz_14_25 (by decide) ?_
        exact w_bret gz_14_26 gm_14 (by omega) (by omega) (k0 h (my_fr.rf))
      ·
        refine w_iconst gz_13_18 (by decide) ?_
        refine w_goto (t := 23) gz_13_19 rfl ?_
        refine w_bret gz_13_23 gm_13 (by omega) (by omega) ?_
        show wp l rho (d + 4) 14 8 [(2, 0), (0, x1), (0, x2), (0, x3), (0, x4), (0, x5), (9, 0)] [(0, 1)] h Q
        refine w_ifeq (t := 25) gz_14_8 rfl (fun u88 => by exfalso; omega) (fun u88 => ?_)
        refine w_aload_n gz_14_11 rfl ?_
        refine w_getX (v := 7) gz_14_12 is_0 rd_9 rfl (by decide) rfl ?_
        refine w_getX (v := 9) gz_14_15 is_7 rd_6 rfl (by decide) rfl ?_
        refine w_iload_n gz_14_18 rfl ?_
        refine w_iald gz_14_19 is_9 rd_31 (by omega) (by omega) (fun v91 ev91 pv91 qv91 => ?_)
        refine w_bipush gz_14_20 (by decide) ?_
        refine w_iclt (t := 27) gz_14_22 rfl (fun u92 => ?_) (fun u92 => ?_)
        ·
          refine w_aload_n gz_14_27 rfl ?_
          refine w_getX (v := 144) gz_14_28 is_0 rd_9 rfl (by decide) rfl ?_
          refine w_iconst gz_14_31 (by decide) ?_
          refine w_iload_n gz_14_32 rfl ?_
          refine w_iastA gz_14_33 is_144 rd_24 (by omega) (by omega) (fun h94 fh94 => ?_)
          have gh94 : my_fr [(24, -1), (30, -1), (31, -1)] h h94 := my_fr.up my_fr.rf is_144 fh94 rfl
          refine w_aload_n gz_14_34 rfl ?_
          refine w_getX (v := 144) gz_14_35 is_0 rd_9 rfl (by decide) rfl ?_
          refine w_iconst gz_14_38 (by decide) ?_
          refine w_iload_n gz_14_39 rfl ?_
          refine w_iastA gz_14_40 is_144 rd_24 (by omega) (by omega) (fun h96 fh96 => ?_)
          have gh96 : my_fr [(24, -1), (30, -1), (31, -1)] h h96 := my_fr.up gh94 is_144 fh96 rfl
          refine w_aload_n gz_14_41 rfl ?_
          refine w_getX (v := 144) gz_14_42 is_0 rd_9 rfl (by decide) rfl ?_
          refine w_iconst gz_14_45 (by decide) ?_
          refine w_iload gz_14_46 rfl ?_
          refine w_iastA gz_14_48 is_144 rd_24 (by omega) (by omega) (fun h98 fh98 => ?_)
          have gh98 : my_fr [(24, -1), (30, -1), (31, -1)] h h98 := my_fr.up gh96 is_144 fh98 rfl
          refine w_aload_n gz_14_49 rfl ?_
          refine w_getX (v := 144) gz_14_50 is_0 rd_9 rfl (by decide) rfl ?_
          refine w_iconst gz_14_53 (by decide) ?_
          refine w_iload gz_14_54 rfl ?_
          refine w_iastA gz_14_56 is_144 rd_24 (by omega) (by omega) (fun h100 fh100 => ?_)
          have gh100 : my_fr [(24, -1), (30, -1), (31, -1)] h h100 := my_fr.up gh98 is_144 fh100 rfl
          refine w_iconst gz_14_57 (by decide) ?_
          refine w_istore (ls' := [(2, 0), (0, x1), (0, x2), (0, x3), (0, x4), (0, x5), (0, 0)]) gz_14_58 gm_14 rfl rfl rfl ?_
          have c2 : ∀ j : Int, h100 2 j = h 2 j := fun j => ((my_up_role fh100 is_2 is_144 rfl).trans ((my_up_role fh98 is_2 is_144 rfl).trans ((my_up_role fh96 is_2 is_144 rfl).trans ((my_up_role fh94 is_2 is_144 rfl).trans (rfl : h 2 j = h 2 j)))))
          have c2x := c2 x1
          exact J60_0 5 (0) h100 (gh100) (by omega) (by omega) (by omega) (by omega) (by first | (intro j a b; omega) | (intro j a b; rcases (by omega : j = p60_0 ∨ j < p60_0) with q | q <;> first | exact fr1_60_0 j a q | (rw [my_up_ne fh100 (by omega)]; exact fr1_60_0 j a q) | (subst q; omega) | (subst q; rw [my_up_self fh100]; omega))) (by first | omega | (intro _; simp only [fh100, fh98, fh96, fh94, my_up]; simp) | grind) (by first | omega | (have q := f1_60_0; have q2 := f0_60_0; omega) | grind) (by first | assumption | omega | (subst_vars; omega)) (by omega)
        ·
          refine w_iconst gz_14_25 (by decide) ?_
          exact w_bret gz_14_26 gm_14 (by omega) (by omega) (k0 h (my_fr.rf))
theorem c_Model_row {l : Launch} {rho : Nat → Int32} {d : Nat} {h : my_H} {Q : my_H → my_V → Prop} {x1 x2 x3 x4 x5 : Int} (n_Rws : Rws h) (k0 : ∀ (h' : my_H), my_fr [(10, 0), (61, -1), (62, -1)] h h' → h' 151 0 = 0 → Rws h' → Q h' (0, 0)) (k1 : ∀ (h' : my_H), my_fr [(10, 0), (61, -1), (62, -1)] h h' → 0 ≤ x1 → x1 ≤ 2 → 0 ≤ x2 → x2 ≤ 19 → h' 151 0 = 0 → Rws h' → Q h' (0, 1)) : wp l rho (d + 5) 148 0 [(2, 151), (0, x1), (0, x2), (0, x3), (0, x4), (0, x5), (9, 0)] [] h Q := by
  refine w_aload_n gz_148_0 rfl ?_
  refine w_iconst gz_148_1 (by decide) ?_
  refine v_putI (j := 0) gz_148_2 rfl is_151 rd_10 rfl (by omega) (by omega) rfl (fun h1 fh1 => ?_)
  have gh1 : my_fr [(10, 0), (61, -1), (62, -1)] h h1 := my_fr.up my_fr.rf is_151 fh1 rfl
  have Rws_h1 : Rws h1 := Rws_ag (my_ag.up fh1 is_151 rfl) n_Rws
  refine w_aload_n gz_148_5 rfl ?_
  refine w_iload_n gz_148_6 rfl ?_
  refine w_inv (k := 0) (as := [(0, x1)]) (r := []) (x := 151) (ls0 := [(2, 151), (0, x1)]) gz_148_7 gm_149 rfl is_151 rd_10 rfl rfl rfl rfl rfl ?_
  refine w_iload_n gz_149_0 rfl ?_
  refine w_iflt (t := 22) gz_149_1 rfl (fun u2 => ?_) (fun u2 => ?_)
  ·
    refine w_iconst gz_149_22 (by decide) ?_
    refine w_bret gz_149_23 gm_149 (by omega) (by omega) ?_
    show wp l rho (d + 5) 148 10 [(2, 151), (0, x1), (0, x2), (0, x3), (0, x4), (0, x5), (9, 0)] [(0, 0)] h1 Q
    refine w_ifeq (t := 27) gz_148_10 rfl (fun u3 => ?_) (fun u3 => by exfalso; omega)
    refine w_iconst gz_148_27 (by decide) ?_
    refine w_istore (ls' := [(2, 151), (0, x1), (0, x2), (0, x3), (0, x4), (0, x5), (0, 0)]) gz_148_28 gm_148 rfl rfl rfl ?_
    refine w_iload gz_148_30 rfl ?_
    refine w_ifeq (t := 101) gz_148_32 rfl (fun u4 => ?_) (fun u4 => by exfalso; omega)
    refine w_iconst gz_148_101 (by decide) ?_
    refine w_istore (ls' := [(2, 151), (0, x1), (0, x2), (0, x3), (0, x4), (0, x5), (0, 0)]) gz_148_102 gm_148 rfl rfl rfl ?_
    refine w_iload gz_148_104 rfl ?_
    refine w_ifeq (t := 134) gz_148_106 rfl (fun u5 => ?_) (fun u5 => by exfalso; omega)
    refine w_iconst gz_148_134 (by decide) ?_
    have c6 := (my_up_self fh1)
    exact w_bret gz_148_135 gm_148 (by omega) (by omega) (k0 h1 (gh1) (by omega) Rws_h1)
  ·
    refine w_iload_n gz_149_4 rfl ?_
    refine w_iconst gz_149_5 (by decide) ?_
    refine w_icge (t := 22) gz_149_6 rfl (fun u7 => ?_) (fun u7 => ?_)
    ·
      refine w_iconst gz_149_22 (by decide) ?_
      refine w_bret gz_149_23 gm_149 (by omega) (by omega) ?_
      show wp l rho (d + 5) 148 10 [(2, 151), (0, x1), (0, x2), (0, x3), (0, x4), (0, x5), (9, 0)] [(0, 0)] h1 Q
      refine w_ifeq (t := 27) gz_148_10 rfl (fun u8 => ?_) (fun u8 => by exfalso; omega)
      refine w_iconst gz_148_27 (by decide) ?_
      refine w_istore (ls' := [(2, 151), (0, x1), (0, x2), (0, x3), (0, x4), (0, x5), (0, 0)]) gz_148_28 gm_148 rfl rfl rfl ?_
      refine w_iload gz_148_30 rfl ?_
      refine w_ifeq (t := 101) gz_148_32 rfl (fun u9 => ?_) (fun u9 => by exfalso; omega)
      refine w_iconst gz_148_101 (by decide) ?_
      refine w_istore (ls' := [(2, 151), (0, x1), (0, x2), (0, x3), (0, x4), (0, x5), (0, 0)]) gz_148_102 gm_148 rfl rfl rfl ?_
      refine w_iload gz_148_104 rfl ?_
      refine w_ifeq (t := 134) gz_148_106 rfl (fun u10 => ?_) (fun u10 => by exfalso; omega)
      refine w_iconst gz_148_134 (by decide) ?_
      have c11 := (my_up_self fh1)
      exact w_bret gz_148_135 gm_148 (by omega) (by omega) (k0 h1 (gh1) (by omega) Rws_h1)
    ·
      refine w_aload_n gz_149_9 rfl ?_
      refine w_getX (v := 157) gz_149_10 is_151 rd_10 rfl (by decide) rfl ?_
      refine w_iload_n gz_149_13 rfl ?_
      refine w_iald gz_149_14 is_157 rd_56 (by omega) (by omega) (fun v13 ev13 pv13 qv13 => ?_)
      refine w_ifle (t := 22) gz_149_15 rfl (fun u14 => ?_) (fun u14 => ?_)
      ·
        refine w_iconst gz_149_22 (by decide) ?_
        refine w_bret gz_149_23 gm_149 (by omega) (by omega) ?_
        show wp l rho (d + 5) 148 10 [(2, 151), (0, x1), (0, x2), (0, x3), (0, x4), (0, x5), (9, 0)] [(0, 0)] h1 Q
        refine w_ifeq (t := 27) gz_148_10 rfl (fun u15 => ?_) (fun u15 => by exfalso; omega)
        refine w_iconst gz_148_27 (by decide) ?_
        refine w_istore (ls' := [(2, 151), (0, x1), (0, x2), (0, x3), (0, x4), (0, x5), (0, 0)]) gz_148_28 gm_148 rfl rfl rfl ?_
        refine w_iload gz_148_30 rfl ?_
        refine w_ifeq (t := 101) gz_148_32 rfl (fun u16 => ?_) (fun u16 => by exfalso; omega)
        refine w_iconst gz_148_101 (by decide) ?_
        refine w_istore (ls' := [(2, 151), (0, x1), (0, x2), (0, x3), (0, x4), (0, x5), (0, 0)]) gz_148_102 gm_148 rfl rfl rfl ?_
        refine w_iload gz_148_104 rfl ?_
        refine w_ifeq (t := 134) gz_148_106 rfl (fun u17 => ?_) (fun u17 => by exfalso; omega)
        refine w_iconst gz_148_134 (by decide) ?_
        have c18 := (my_up_self fh1)
        exact w_bret gz_148_135 gm_148 (by omega) (by omega) (k0 h1 (gh1) (by omega) Rws_h1)
      ·
        refine w_iconst gz_149_18 (by decide) ?_
        refine w_goto (t := 23) gz_149_19 rfl ?_
        refine w_bret gz_149_23 gm_149 (by omega) (by omega) ?_
        show wp l rho (d + 5) 148 10 [(2, 151), (0, x1), (0, x2), (0, x3), (0, x4), (0, x5), (9, 0)] [(0, 1)] h1 Q
        refine w_ifeq (t := 27) gz_148_10 rfl (fun u19 => by exfalso; omega) (fun u19 => ?_)
        refine w_iload_n gz_148_13 rfl ?_
        refine w_iconst gz_148_14 (by decide) ?_
        refine w_bipush gz_148_15 (by decide) ?_
        refine w_inS (k := 0) (as := [(0, 19), (0, 0), (0, x2)]) (r := []) (ls0 := [(0, x2), (0, 0), (0, 19)]) gz_148_17 gm_147 rfl rfl rfl rfl rfl rfl ?_
        refine w_iload_n gz_147_0 rfl ?_
        refine w_iload_n gz_147_1 rfl ?_
        refine w_iclt (t := 14) gz_147_2 rfl (fun u20 => ?_) (fun u20 => ?_)
        ·
          refine w_iconst gz_147_14 (by decide) ?_
          refine w_bret gz_147_15 gm_147 (by omega) (by omega) ?_
          show wp l rho (d + 5) 148 20 [(2, 151), (0, x1), (0, x2), (0, x3), (0, x4), (0, x5), (9, 0)] [(0, 0)] h1 Q
          refine w_ifeq (t := 27) gz_148_20 rfl (fun u21 => ?_) (fun u21 => by exfalso; omega)
          refine w_iconst gz_148_27 (by decide) ?_
          refine w_istore (ls' := [(2, 151), (0, x1), (0, x2), (0, x3), (0, x4), (0, x5), (0, 0)]) gz_148_28 gm_148 rfl rfl rfl ?_
          refine w_iload gz_148_30 rfl ?_
          refine w_ifeq (t := 101) gz_148_32 rfl (fun u22 => ?_) (fun u22 => by exfalso; omega)
          refine w_iconst gz_148_101 (by decide) ?_
          refine w_istore (ls' := [(2, 151), (0, x1), (0, x2), (0, x3), (0, x4), (0, x5), (0, 0)]) gz_148_102 gm_148 rfl rfl rfl ?_
          refine w_iload gz_148_104 rfl ?_
          refine w_ifeq (t := 134) gz_148_106 rfl (fun u23 => ?_) (fun u23 => by exfalso; omega)
          refine w_iconst gz_148_134 (by decide) ?_
          have c24 := (my_up_self fh1)
          exact w_bret gz_148_135 gm_148 (by omega) (by omega) (k0 h1 (gh1) (by omega) Rws_h1)
        ·
          refine w_iload_n gz_147_5 rfl ?_
          refine w_iload_n gz_147_6 rfl ?_
          refine w_icgt (t := 14) gz_147_7 rfl (fun u25 => ?_) (fun u25 => ?_)
          ·
            refine w_iconst gz_147_14 (by decide) ?_
            refine w_bret gz_147_15 gm_147 (by omega) (by omega) ?_
            show wp l rho (d + 5) 148 20 [(2, 151), (0, x1), (0, x2), (0, x3), (0, x4), (0, x5), (9, 0)] [(0, 0)] h1 Q
            refine w_ifeq (t := 27) gz_148_20 rfl (fun u26 => ?_) (fun u26 => by exfalso; omega)
            refine w_iconst gz_148_27 (by decide) ?_
            refine w_istore (ls' := [(2, 151), (0, x1), (0, x2), (0, x3), (0, x4), (0, x5), (0, 0)]) gz_148_28 gm_148 rfl rfl rfl ?_
            refine w_iload gz_148_30 rfl ?_
            refine w_ifeq (t := 101) gz_148_32 rfl (fun u27 => ?_) (fun u27 => by exfalso; omega)
            refine w_iconst gz_148_101 (by decide) ?_
            refine w_istore (ls' := [(2, 151), (0, x1), (0, x2), (0, x3), (0, x4), (0, x5), (0, 0)]) gz_148_102 gm_148 rfl rfl rfl ?_
            refine w_iload gz_148_104 rfl ?_
            refine w_ifeq (t := 134) gz_148_106 rfl (fun u28 => ?_) (fun u28 => by exfalso; omega)
            refine w_iconst gz_148_134 (by decide) ?_
            have c29 := (my_up_self fh1)
            exact w_bret gz_148_135 gm_148 (by omega) (by omega) (k0 h1 (gh1) (by omega) Rws_h1)
          ·
            refine w_iconst gz_147_10 (by decide) ?_
            refine w_goto (t := 15) gz_147_11 rfl ?_
            refine w_bret gz_147_15 gm_147 (by omega) (by omega) ?_
            show wp l rho (d + 5) 148 20 [(2, 151), (0, x1), (0, x2), (0, x3), (0, x4), (0, x5), (9, 0)] [(0, 1)] h1 Q
            refine w_ifeq (t := 27) gz_148_20 rfl (fun u30 => by exfalso; omega) (fun u30 => ?_)
            refine w_iconst gz_148_23 (by decide) ?_
            refine w_goto (t := 28) gz_148_24 rfl ?_
            refine w_istore (ls' := [(2, 151), (0, x1), (0, x2), (0, x3), (0, x4), (0, x5), (0, 1)]) gz_148_28 gm_148 rfl rfl rfl ?_
            refine w_iload gz_148_30 rfl ?_
            refine w_ifeq (t := 101) gz_148_32 rfl (fun u31 => by exfalso; omega) (fun u31 => ?_)
            refine w_aload_n gz_148_35 rfl ?_
            refine w_getX (v := 157) gz_148_36 is_151 rd_10 rfl (by decide) rfl ?_
            refine w_iload_n gz_148_39 rfl ?_
            refine w_iald gz_148_40 is_157 rd_56 (by omega) (by omega) (fun v33 ev33 pv33 qv33 => ?_)
            have zv33 := ev33.trans ev13.symm
            refine w_iconst gz_148_41 (by decide) ?_
            refine w_iclt (t := 55) gz_148_42 rfl (fun u34 => ?_) (fun u34 => ?_)
            ·
              refine w_aload_n gz_148_55 rfl ?_
              refine w_getX (v := 157) gz_148_56 is_151 rd_10 rfl (by decide) rfl ?_
              refine w_iload_n gz_148_59 rfl ?_
              refine w_iald gz_148_60 is_157 rd_56 (by omega) (by omega) (fun v36 ev36 pv36 qv36 => ?_)
              have zv36 := ev36.trans ev33.symm
              refine w_iconst gz_148_61 (by decide) ?_
              refine w_iclt (t := 76) gz_148_62 rfl (fun u37 => ?_) (fun u37 => by exfalso; omega)
              refine w_aload_n gz_148_76 rfl ?_
              refine w_getX (v := 157) gz_148_77 is_151 rd_10 rfl (by decide) rfl ?_
              refine w_iload_n gz_148_80 rfl ?_
              refine w_iald gz_148_81 is_157 rd_56 (by omega) (by omega) (fun v39 ev39 pv39 qv39 => ?_)
              have zv39 := ev39.trans ev36.symm
              refine w_iconst gz_148_82 (by decide) ?_
              refine w_iclt (t := 97) gz_148_83 rfl (fun u40 => ?_) (fun u40 => by exfalso; omega)
              refine w_iconst gz_148_97 (by decide) ?_
              refine w_goto (t := 102) gz_148_98 rfl ?_
              refine w_istore (ls' := [(2, 151), (0, x1), (0, x2), (0, x3), (0, x4), (0, x5), (0, 1)]) gz_148_102 gm_148 rfl rfl rfl ?_
              refine w_iload gz_148_104 rfl ?_
              refine w_ifeq (t := 134) gz_148_106 rfl (fun u41 => by exfalso; omega) (fun u41 => ?_)
              refine w_aload_n gz_148_109 rfl ?_
              refine w_getX (v := 162) gz_148_110 is_151 rd_10 rfl (by decide) rfl ?_
              refine w_iconst gz_148_113 (by decide) ?_
              refine w_iload_n gz_148_114 rfl ?_
              refine w_iload_n gz_148_115 rfl ?_
              refine w_inS (k := 0) (as := [(0, x2), (0, x1), (0, 0)]) (r := [(2, 162)]) (ls0 := [(0, 0), (0, x1), (0, x2)]) gz_148_116 gm_150 rfl rfl rfl rfl rfl rfl ?_
              refine w_bipush gz_150_0 (by decide) ?_
              refine w_iload_n gz_150_2 rfl ?_
              refine w_imul gz_150_3 ⟨by omega, by omega⟩ ?_
              refine w_bipush gz_150_4 (by decide) ?_
              refine w_iload_n gz_150_6 rfl ?_
              refine w_imul gz_150_7 ⟨by omega, by omega⟩ ?_
              refine w_iadd gz_150_8 ⟨by omega, by omega⟩ ?_
              refine w_iload_n gz_150_9 rfl ?_
              refine w_iadd gz_150_10 ⟨by omega, by omega⟩ ?_
              refine w_iret gz_150_11 gm_150 ?_
              show wp l rho (d + 5) 148 119 [(2, 151), (0, x1), (0, x2), (0, x3), (0, x4), (0, x5), (0, 1)] [(0, (((60 * 0) + (20 * x1)) + x2)), (2, 162)] h1 Q
              refine w_bald gz_148_119 is_162 rd_61 (by omega) (by omega) (fun v43 ev43 pv43 qv43 => ?_)
              refine w_ifne (t := 134) gz_148_120 rfl (fun u44 => ?_) (fun u44 => ?_)
              ·
                refine w_iconst gz_148_134 (by decide) ?_
                have c45 := (my_up_self fh1)
                exact w_bret gz_148_135 gm_148 (by omega) (by omega) (k0 h1 (gh1) (by omega) Rws_h1)
              ·
                refine w_aload_n gz_148_123 rfl ?_
                refine w_iconst gz_148_124 (by decide) ?_
                refine w_iload_n gz_148_125 rfl ?_
                refine w_inv (k := 2) (as := [(0, x1), (0, 0)]) (r := []) (x := 151) (ls0 := [(2, 151), (0, 0), (0, x1), (9, 0), (9, 0)]) gz_148_126 gm_151 rfl is_151 rd_10 rfl rfl rfl rfl rfl (c_Model_rowsOf2 (d := (d + 3)) (x1 := 0) (x2 := x1) (by omega) (by omega) (by omega) (by omega) (fun v46 w47 w48 xp49 => ?_))
                show wp l rho (d + 5) 148 129 [(2, 151), (0, x1), (0, x2), (0, x3), (0, x4), (0, x5), (0, 1)] [(0, v46)] h1 Q
                have ry := xp49
                have rb := (Rws_h1) 0 x1 (by omega) (by omega) (by omega) (by omega)
                refine w_bipush gz_148_129 (by decide) ?_
                refine w_icne (t := 136) gz_148_131 rfl (fun u50 => ?_) (fun u50 => ?_)
                ·
                  refine w_aload_n gz_148_136 rfl ?_
                  refine w_iconst gz_148_137 (by decide) ?_
                  refine w_iconst gz_148_138 (by decide) ?_
                  refine w_inv (k := 1) (as := [(0, 5), (0, 0)]) (r := []) (x := 151) (ls0 := [(2, 151), (0, 0), (0, 5), (9, 0)]) gz_148_139 gm_152 rfl is_151 rd_10 rfl rfl rfl rfl rfl (c_Model_copies2 (d := (d + 4)) (x1 := 0) (x2 := 5) (by omega) (by omega) (by omega) (by omega) Rws_h1 (fun h51 frh51 xp52 Rws_h51t53 => ?_))
                  have gh51 : my_fr [(10, 0), (61, -1), (62, -1)] h h51 := my_fr.tr gh1 (frh51.mo rfl)
                  show wp l rho (d + 5) 148 142 [(2, 151), (0, x1), (0, x2), (0, x3), (0, x4), (0, x5), (0, 1)] [] h51 Q
                  have cpx := xp52
                  refine w_aload_n gz_148_142 rfl ?_
                  refine w_iconst gz_148_143 (by decide) ?_
                  refine w_iload_n gz_148_144 rfl ?_
                  refine w_iload_n gz_148_145 rfl ?_
                  refine w_aload_n gz_148_146 rfl ?_
                  refine w_getX (v := 157) gz_148_147 is_151 rd_10 rfl (by decide) rfl ?_
                  refine w_iload_n gz_148_150 rfl ?_
                  refine w_iald gz_148_151 is_157 rd_56 (by omega) (by omega) (fun v55 ev55 pv55 qv55 => ?_)
                  have zv55 := ev55.trans ((my_fr.at frh51 is_157 rfl).trans ev39.symm)
                  refine w_iconst gz_148_152 (by decide) ?_
                  refine w_icge (t := 160) gz_148_153 rfl (fun u56 => by exfalso; omega) (fun u56 => ?_)
                  refine w_iconst gz_148_156 (by decide) ?_
                  refine w_goto (t := 161) gz_148_157 rfl ?_
                  refine w_aload_n gz_148_161 rfl ?_
                  refine w_getX (v := 157) gz_148_162 is_151 rd_10 rfl (by decide) rfl ?_
                  refine w_iload_n gz_148_165 rfl ?_
                  refine w_iald gz_148_166 is_157 rd_56 (by omega) (by omega) (fun v58 ev58 pv58 qv58 => ?_)
                  have zv58 := ev58.trans ev55.symm
                  refine w_iconst gz_148_167 (by decide) ?_
                  refine w_icge (t := 175) gz_148_168 rfl (fun u59 => by exfalso; omega) (fun u59 => ?_)
                  refine w_iconst gz_148_171 (by decide) ?_
                  refine w_goto (t := 177) gz_148_172 rfl ?_
                  refine w_aload_n gz_148_177 rfl ?_
                  refine w_getX (v := 157) gz_148_178 is_151 rd_10 rfl (by decide) rfl ?_
                  refine w_iload_n gz_148_181 rfl ?_
                  refine w_iald gz_148_182 is_157 rd_56 (by omega) (by omega) (fun v61 ev61 pv61 qv61 => ?_)
                  have zv61 := ev61.trans ev58.symm
                  refine w_iconst gz_148_183 (by decide) ?_
                  refine w_icge (t := 191) gz_148_184 rfl (fun u62 => by exfalso; omega) (fun u62 => ?_)
                  refine w_iconst gz_148_187 (by decide) ?_
                  refine w_goto (t := 193) gz_148_188 rfl ?_
                  refine w_inv (k := 1) (as := [(0, 0), (0, 0), (0, 0), (0, x2), (0, x1), (0, 5)]) (r := []) (x := 151) (ls0 := [(2, 151), (0, 5), (0, x1), (0, x2), (0, 0), (0, 0), (0, 0), (9, 0)]) gz_148_193 gm_153 rfl is_151 rd_10 rfl rfl rfl rfl rfl (c_Model_lays2 (d := (d + 3)) (x1 := 5) (x2 := x1) (x3 := x2) (x4 := 0) (x5 := 0) (x6 := 0) (by omega) (by omega) (by omega) (by omega) (by omega) (by omega) (by omega) (by omega) (by omega) (by omega) (by omega) (by omega) Rws_h51t53 (by rw [rc_Cp cpx (by omega) (by omega)]; omega) (fun h63 frh63 Rws_h63t64 => ?_))
                  have gh63 : my_fr [(10, 0), (61, -1), (62, -1)] h h63 := my_fr.tr gh51 (frh63.mo rfl)
                  show wp l rho (d + 5) 148 196 [(2, 151), (0, x1), (0, x2), (0, x3), (0, x4), (0, x5), (0, 1)] [] h63 Q
                  refine w_aload_n gz_148_196 rfl ?_
                  refine w_inv (k := 0) (as := []) (r := []) (x := 151) (ls0 := [(2, 151)]) gz_148_197 gm_154 rfl is_151 rd_10 rfl rfl rfl rfl rfl (c_Model_takes2 (d := d)  Rws_h63t64 (fun h65 frh65 Rws_h65t66 => ?_) (fun h67 frh67 Rws_h67t68 => ?_))
                  ·
                    have gh65 : my_fr [(10, 0), (61, -1), (62, -1)] h h65 := my_fr.tr gh63 (frh65.mo rfl)
                    show wp l rho (d + 5) 148 200 [(2, 151), (0, x1), (0, x2), (0, x3), (0, x4), (0, x5), (0, 1)] [(0, 0)] h65 Q
                    have c69 := ((my_fr.at frh65 is_151 rfl).trans ((my_fr.at frh63 is_151 rfl).trans ((my_fr.at frh51 is_151 rfl).trans (my_up_self fh1))))
                    exact w_bret gz_148_200 gm_148 (by omega) (by omega) (k0 h65 (gh65) (by omega) Rws_h65t66)
                  ·
                    have gh67 : my_fr [(10, 0), (61, -1), (62, -1)] h h67 := my_fr.tr gh63 (frh67.mo rfl)
                    show wp l rho (d + 5) 148 200 [(2, 151), (0, x1), (0, x2), (0, x3), (0, x4), (0, x5), (0, 1)] [(0, 1)] h67 Q
                    have c70 := ((my_fr.at frh67 is_151 rfl).trans ((my_fr.at frh63 is_151 rfl).trans ((my_fr.at frh51 is_151 rfl).trans (my_up_self fh1))))
                    exact w_bret gz_148_200 gm_148 (by omega) (by omega) (k1 h67 (gh67) (by omega) (by omega) (by omega) (by omega) (by omega) Rws_h67t68)
                ·
                  refine w_iconst gz_148_134 (by decide) ?_
                  have c71 := (my_up_self fh1)
                  exact w_bret gz_148_135 gm_148 (by omega) (by omega) (k0 h1 (gh1) (by omega) Rws_h1)
            ·
              refine w_iload_n gz_148_45 rfl ?_
              refine w_iconst gz_148_46 (by decide) ?_
              refine w_bipush gz_148_47 (by decide) ?_
              refine w_inS (k := 0) (as := [(0, 19), (0, 0), (0, x3)]) (r := []) (ls0 := [(0, x3), (0, 0), (0, 19)]) gz_148_49 gm_147 rfl rfl rfl rfl rfl rfl ?_
              refine w_iload_n gz_147_0 rfl ?_
              refine w_iload_n gz_147_1 rfl ?_
              refine w_iclt (t := 14) gz_147_2 rfl (fun u72 => ?_) (fun u72 => ?_)
              ·
                refine w_iconst gz_147_14 (by decide) ?_
                refine w_bret gz_147_15 gm_147 (by omega) (by omega) ?_
                show wp l rho (d + 5) 148 52 [(2, 151), (0, x1), (0, x2), (0, x3), (0, x4), (0, x5), (0, 1)] [(0, 0)] h1 Q
                refine w_ifeq (t := 101) gz_148_52 rfl (fun u73 => ?_) (fun u73 => by exfalso; omega)
                refine w_iconst gz_148_101 (by decide) ?_
                refine w_istore (ls' := [(2, 151), (0, x1), (0, x2), (0, x3), (0, x4), (0, x5), (0, 0)]) gz_148_102 gm_148 rfl rfl rfl ?_
                refine w_iload gz_148_104 rfl ?_
                refine w_ifeq (t := 134) gz_148_106 rfl (fun u74 => ?_) (fun u74 => by exfalso; omega)
                refine w_iconst gz_148_134 (by decide) ?_
                have c75 := (my_up_self fh1)
                exact w_bret gz_148_135 gm_148 (by omega) (by omega) (k0 h1 (gh1) (by omega) Rws_h1)
              ·
                refine w_iload_n gz_147_5 rfl ?_
                refine w_iload_n gz_147_6 rfl ?_
                refine w_icgt (t := 14) gz_147_7 rfl (fun u76 => ?_) (fun u76 => ?_)
                ·
                  refine w_iconst gz_147_14 (by decide) ?_
                  refine w_bret gz_147_15 gm_147 (by omega) (by omega) ?_
                  show wp l rho (d + 5) 148 52 [(2, 151), (0, x1), (0, x2), (0, x3), (0, x4), (0, x5), (0, 1)] [(0, 0)] h1 Q
                  refine w_ifeq (t := 101) gz_148_52 rfl (fun u77 => ?_) (fun u77 => by exfalso; omega)
                  refine w_iconst gz_148_101 (by decide) ?_
                  refine w_istore (ls' := [(2, 151), (0, x1), (0, x2), (0, x3), (0, x4), (0, x5), (0, 0)]) gz_148_102 gm_148 rfl rfl rfl ?_
                  refine w_iload gz_148_104 rfl ?_
                  refine w_ifeq (t := 134) gz_148_106 rfl (fun u78 => ?_) (fun u78 => by exfalso; omega)
                  refine w_iconst gz_148_134 (by decide) ?_
                  have c79 := (my_up_self fh1)
                  exact w_bret gz_148_135 gm_148 (by omega) (by omega) (k0 h1 (gh1) (by omega) Rws_h1)
                ·
                  refine w_iconst gz_147_10 (by decide) ?_
                  refine w_goto (t := 15) gz_147_11 rfl ?_
                  refine w_bret gz_147_15 gm_147 (by omega) (by omega) ?_
                  show wp l rho (d + 5) 148 52 [(2, 151), (0, x1), (0, x2), (0, x3), (0, x4), (0, x5), (0, 1)] [(0, 1)] h1 Q
                  refine w_ifeq (t := 101) gz_148_52 rfl (fun u80 => by exfalso; omega) (fun u80 => ?_)
                  refine w_aload_n gz_148_55 rfl ?_
                  refine w_getX (v := 157) gz_148_56 is_151 rd_10 rfl (by decide) rfl ?_
                  refine w_iload_n gz_148_59 rfl ?_
                  refine w_iald gz_148_60 is_157 rd_56 (by omega) (by omega) (fun v82 ev82 pv82 qv82 => ?_)
                  have zv82 := ev82.trans ev33.symm
                  refine w_iconst gz_148_61 (by decide) ?_
                  refine w_iclt (t := 76) gz_148_62 rfl (fun u83 => ?_) (fun u83 => ?_)
                  ·
                    refine w_aload_n gz_148_76 rfl ?_
                    refine w_getX (v := 157) gz_148_77 is_151 rd_10 rfl (by decide) rfl ?_
                    refine w_iload_n gz_148_80 rfl ?_
                    refine w_iald gz_148_81 is_157 rd_56 (by omega) (by omega) (fun v85 ev85 pv85 qv85 => ?_)
                    have zv85 := ev85.trans ev82.symm
                    refine w_iconst gz_148_82 (by decide) ?_
                    refine w_iclt (t := 97) gz_148_83 rfl (fun u86 => ?_) (fun u86 => by exfalso; omega)
                    refine w_iconst gz_148_97 (by decide) ?_
                    refine w_goto (t := 102) gz_148_98 rfl ?_
                    refine w_istore (ls' := [(2, 151), (0, x1), (0, x2), (0, x3), (0, x4), (0, x5), (0, 1)]) gz_148_102 gm_148 rfl rfl rfl ?_
                    refine w_iload gz_148_104 rfl ?_
                    refine w_ifeq (t := 134) gz_148_106 rfl (fun u87 => by exfalso; omega) (fun u87 => ?_)
                    refine w_aload_n gz_148_109 rfl ?_
                    refine w_getX (v := 162) gz_148_110 is_151 rd_10 rfl (by decide) rfl ?_
                    refine w_iconst gz_148_113 (by decide) ?_
                    refine w_iload_n gz_148_114 rfl ?_
                    refine w_iload_n gz_148_115 rfl ?_
                    refine w_inS (k := 0) (as := [(0, x2), (0, x1), (0, 0)]) (r := [(2, 162)]) (ls0 := [(0, 0), (0, x1), (0, x2)]) gz_148_116 gm_150 rfl rfl rfl rfl rfl rfl ?_
                    refine w_bipush gz_150_0 (by decide) ?_
                    refine w_iload_n gz_150_2 rfl ?_
                    refine w_imul gz_150_3 ⟨by omega, by omega⟩ ?_
                    refine w_bipush gz_150_4 (by decide) ?_
                    refine w_iload_n gz_150_6 rfl ?_
                    refine w_imul gz_150_7 ⟨by omega, by omega⟩ ?_
                    refine w_iadd gz_150_8 ⟨by omega, by omega⟩ ?_
                    refine w_iload_n gz_150_9 rfl ?_
                    refine w_iadd gz_150_10 ⟨by omega, by omega⟩ ?_
                    refine w_iret gz_150_11 gm_150 ?_
                    show wp l rho (d + 5) 148 119 [(2, 151), (0, x1), (0, x2), (0, x3), (0, x4), (0, x5), (0, 1)] [(0, (((60 * 0) + (20 * x1)) + x2)), (2, 162)] h1 Q
                    refine w_bald gz_148_119 is_162 rd_61 (by omega) (by omega) (fun v89 ev89 pv89 qv89 => ?_)
                    refine w_ifne (t := 134) gz_148_120 rfl (fun u90 => ?_) (fun u90 => ?_)
                    ·
                      refine w_iconst gz_148_134 (by decide) ?_
                      have c91 := (my_up_self fh1)
                      exact w_bret gz_148_135 gm_148 (by omega) (by omega) (k0 h1 (gh1) (by omega) Rws_h1)
                    ·
                      refine w_aload_n gz_148_123 rfl ?_
                      refine w_iconst gz_148_124 (by decide) ?_
                      refine w_iload_n gz_148_125 rfl ?_
                      refine w_inv (k := 2) (as := [(0, x1), (0, 0)]) (r := []) (x := 151) (ls0 := [(2, 151), (0, 0), (0, x1), (9, 0), (9, 0)]) gz_148_126 gm_151 rfl is_151 rd_10 rfl rfl rfl rfl rfl (c_Model_rowsOf2 (d := (d + 3)) (x1 := 0) (x2 := x1) (by omega) (by omega) (by omega) (by omega) (fun v92 w93 w94 xp95 => ?_))
                      show wp l rho (d + 5) 148 129 [(2, 151), (0, x1), (0, x2), (0, x3), (0, x4), (0, x5), (0, 1)] [(0, v92)] h1 Q
                      have ry := xp95
                      have rb := (Rws_h1) 0 x1 (by omega) (by omega) (by omega) (by omega)
                      refine w_bipush gz_148_129 (by decide) ?_
                      refine w_icne (t := 136) gz_148_131 rfl (fun u96 => ?_) (fun u96 => ?_)
                      ·
                        refine w_aload_n gz_148_136 rfl ?_
                        refine w_iconst gz_148_137 (by decide) ?_
                        refine w_iconst gz_148_138 (by decide) ?_
                        refine w_inv (k := 1) (as := [(0, 5), (0, 0)]) (r := []) (x := 151) (ls0 := [(2, 151), (0, 0), (0, 5), (9, 0)]) gz_148_139 gm_152 rfl is_151 rd_10 rfl rfl rfl rfl rfl (c_Model_copies2 (d := (d + 4)) (x1 := 0) (x2 := 5) (by omega) (by omega) (by omega) (by omega) Rws_h1 (fun h97 frh97 xp98 Rws_h97t99 => ?_))
                        have gh97 : my_fr [(10, 0), (61, -1), (62, -1)] h h97 := my_fr.tr gh1 (frh97.mo rfl)
                        show wp l rho (d + 5) 148 142 [(2, 151), (0, x1), (0, x2), (0, x3), (0, x4), (0, x5), (0, 1)] [] h97 Q
                        have cpx := xp98
                        refine w_aload_n gz_148_142 rfl ?_
                        refine w_iconst gz_148_143 (by decide) ?_
                        refine w_iload_n gz_148_144 rfl ?_
                        refine w_iload_n gz_148_145 rfl ?_
                        refine w_aload_n gz_148_146 rfl ?_
                        refine w_getX (v := 157) gz_148_147 is_151 rd_10 rfl (by decide) rfl ?_
                        refine w_iload_n gz_148_150 rfl ?_
                        refine w_iald gz_148_151 is_157 rd_56 (by omega) (by omega) (fun v101 ev101 pv101 qv101 => ?_)
                        have zv101 := ev101.trans ((my_fr.at frh97 is_157 rfl).trans ev85.symm)
                        refine w_iconst gz_148_152 (by decide) ?_
                        refine w_icge (t := 160) gz_148_153 rfl (fun u102 => ?_) (fun u102 => by exfalso; omega)
                        refine w_iload_n gz_148_160 rfl ?_
                        refine w_aload_n gz_148_161 rfl ?_
                        refine w_getX (v := 157) gz_148_162 is_151 rd_10 rfl (by decide) rfl ?_
                        refine w_iload_n gz_148_165 rfl ?_
                        refine w_iald gz_148_166 is_157 rd_56 (by omega) (by omega) (fun v104 ev104 pv104 qv104 => ?_)
                        have zv104 := ev104.trans ev101.symm
                        refine w_iconst gz_148_167 (by decide) ?_
                        refine w_icge (t := 175) gz_148_168 rfl (fun u105 => by exfalso; omega) (fun u105 => ?_)
                        refine w_iconst gz_148_171 (by decide) ?_
                        refine w_goto (t := 177) gz_148_172 rfl ?_
                        refine w_aload_n gz_148_177 rfl ?_
                        refine w_getX (v := 157) gz_148_178 is_151 rd_10 rfl (by decide) rfl ?_
                        refine w_iload_n gz_148_181 rfl ?_
                        refine w_iald gz_148_182 is_157 rd_56 (by omega) (by omega) (fun v107 ev107 pv107 qv107 => ?_)
                        have zv107 := ev107.trans ev104.symm
                        refine w_iconst gz_148_183 (by decide) ?_
                        refine w_icge (t := 191) gz_148_184 rfl (fun u108 => by exfalso; omega) (fun u108 => ?_)
                        refine w_iconst gz_148_187 (by decide) ?_
                        refine w_goto (t := 193) gz_148_188 rfl ?_
                        refine w_inv (k := 1) (as := [(0, 0), (0, 0), (0, x3), (0, x2), (0, x1), (0, 5)]) (r := []) (x := 151) (ls0 := [(2, 151), (0, 5), (0, x1), (0, x2), (0, x3), (0, 0), (0, 0), (9, 0)]) gz_148_193 gm_153 rfl is_151 rd_10 rfl rfl rfl rfl rfl (c_Model_lays2 (d := (d + 3)) (x1 := 5) (x2 := x1) (x3 := x2) (x4 := x3) (x5 := 0) (x6 := 0) (by omega) (by omega) (by omega) (by omega) (by omega) (by omega) (by omega) (by omega) (by omega) (by omega) (by omega) (by omega) Rws_h97t99 (by rw [rc_Cp cpx (by omega) (by omega)]; omega) (fun h109 frh109 Rws_h109t110 => ?_))
                        have gh109 : my_fr [(10, 0), (61, -1), (62, -1)] h h109 := my_fr.tr gh97 (frh109.mo rfl)
                        show wp l rho (d + 5) 148 196 [(2, 151), (0, x1), (0, x2), (0, x3), (0, x4), (0, x5), (0, 1)] [] h109 Q
                        refine w_aload_n gz_148_196 rfl ?_
                        refine w_inv (k := 0) (as := []) (r := []) (x := 151) (ls0 := [(2, 151)]) gz_148_197 gm_154 rfl is_151 rd_10 rfl rfl rfl rfl rfl (c_Model_takes2 (d := d)  Rws_h109t110 (fun h111 frh111 Rws_h111t112 => ?_) (fun h113 frh113 Rws_h113t114 => ?_))
                        ·
                          have gh111 : my_fr [(10, 0), (61, -1), (62, -1)] h h111 := my_fr.tr gh109 (frh111.mo rfl)
                          show wp l rho (d + 5) 148 200 [(2, 151), (0, x1), (0, x2), (0, x3), (0, x4), (0, x5), (0, 1)] [(0, 0)] h111 Q
                          have c115 := ((my_fr.at frh111 is_151 rfl).trans ((my_fr.at frh109 is_151 rfl).trans ((my_fr.at frh97 is_151 rfl).trans (my_up_self fh1))))
                          exact w_bret gz_148_200 gm_148 (by omega) (by omega) (k0 h111 (gh111) (by omega) Rws_h111t112)
                        ·
                          have gh113 : my_fr [(10, 0), (61, -1), (62, -1)] h h113 := my_fr.tr gh109 (frh113.mo rfl)
                          show wp l rho (d + 5) 148 200 [(2, 151), (0, x1), (0, x2), (0, x3), (0, x4), (0, x5), (0, 1)] [(0, 1)] h113 Q
                          have c116 := ((my_fr.at frh113 is_151 rfl).trans ((my_fr.at frh109 is_151 rfl).trans ((my_fr.at frh97 is_151 rfl).trans (my_up_self fh1))))
                          exact w_bret gz_148_200 gm_148 (by omega) (by omega) (k1 h113 (gh113) (by omega) (by omega) (by omega) (by omega) (by omega) Rws_h113t114)
                      ·
                        refine w_iconst gz_148_134 (by decide) ?_
                        have c117 := (my_up_self fh1)
                        exact w_bret gz_148_135 gm_148 (by omega) (by omega) (k0 h1 (gh1) (by omega) Rws_h1)
                  ·
                    refine w_iload gz_148_65 rfl ?_
                    refine w_iconst gz_148_67 (by decide) ?_
                    refine w_bipush gz_148_68 (by decide) ?_
                    refine w_inS (k := 0) (as := [(0, 19), (0, 0), (0, x4)]) (r := []) (ls0 := [(0, x4), (0, 0), (0, 19)]) gz_148_70 gm_147 rfl rfl rfl rfl rfl rfl ?_
                    refine w_iload_n gz_147_0 rfl ?_
                    refine w_iload_n gz_147_1 rfl ?_
                    refine w_iclt (t := 14) gz_147_2 rfl (fun u118 => ?_) (fun u118 => ?_)
                    ·
                      refine w_iconst gz_147_14 (by decide) ?_
                      refine w_bret gz_147_15 gm_147 (by omega) (by omega) ?_
                      show wp l rho (d + 5) 148 73 [(2, 151), (0, x1), (0, x2), (0, x3), (0, x4), (0, x5), (0, 1)] [(0, 0)] h1 Q
                      refine w_ifeq (t := 101) gz_148_73 rfl (fun u119 => ?_) (fun u119 => by exfalso; omega)
                      refine w_iconst gz_148_101 (by decide) ?_
                      refine w_istore (ls' := [(2, 151), (0, x1), (0, x2), (0, x3), (0, x4), (0, x5), (0, 0)]) gz_148_102 gm_148 rfl rfl rfl ?_
                      refine w_iload gz_148_104 rfl ?_
                      refine w_ifeq (t := 134) gz_148_106 rfl (fun u120 => ?_) (fun u120 => by exfalso; omega)
                      refine w_iconst gz_148_134 (by decide) ?_
                      have c121 := (my_up_self fh1)
                      exact w_bret gz_148_135 gm_148 (by omega) (by omega) (k0 h1 (gh1) (by omega) Rws_h1)
                    ·
                      refine w_iload_n gz_147_5 rfl ?_
                      refine w_iload_n gz_147_6 rfl ?_
                      refine w_icgt (t := 14) gz_147_7 rfl (fun u122 => ?_) (fun u122 => ?_)
                      ·
                        refine w_iconst gz_147_14 (by decide) ?_
                        refine w_bret gz_147_15 gm_147 (by omega) (by omega) ?_
                        show wp l rho (d + 5) 148 73 [(2, 151), (0, x1), (0, x2), (0, x3), (0, x4), (0, x5), (0, 1)] [(0, 0)] h1 Q
                        refine w_ifeq (t := 101) gz_148_73 rfl (fun u123 => ?_) (fun u123 => by exfalso; omega)
                        refine w_iconst gz_148_101 (by decide) ?_
                        refine w_istore (ls' := [(2, 151), (0, x1), (0, x2), (0, x3), (0, x4), (0, x5), (0, 0)]) gz_148_102 gm_148 rfl rfl rfl ?_
                        refine w_iload gz_148_104 rfl ?_
                        refine w_ifeq (t := 134) gz_148_106 rfl (fun u124 => ?_) (fun u124 => by exfalso; omega)
                        refine w_iconst gz_148_134 (by decide) ?_
                        have c125 := (my_up_self fh1)
                        exact w_bret gz_148_135 gm_148 (by omega) (by omega) (k0 h1 (gh1) (by omega) Rws_h1)
                      ·
                        refine w_iconst gz_147_10 (by decide) ?_
                        refine w_goto (t := 15) gz_147_11 rfl ?_
                        refine w_bret gz_147_15 gm_147 (by omega) (by omega) ?_
                        show wp l rho (d + 5) 148 73 [(2, 151), (0, x1), (0, x2), (0, x3), (0, x4), (0, x5), (0, 1)] [(0, 1)] h1 Q
                        refine w_ifeq (t := 101) gz_148_73 rfl (fun u126 => by exfalso; omega) (fun u126 => ?_)
                        refine w_aload_n gz_148_76 rfl ?_
                        refine w_getX (v := 157) gz_148_77 is_151 rd_10 rfl (by decide) rfl ?_
                        refine w_iload_n gz_148_80 rfl ?_
                        refine w_iald gz_148_81 is_157 rd_56 (by omega) (by omega) (fun v128 ev128 pv128 qv128 => ?_)
                        have zv128 := ev128.trans ev82.symm
                        refine w_iconst gz_148_82 (by decide) ?_
                        refine w_iclt (t := 97) gz_148_83 rfl (fun u129 => ?_) (fun u129 => ?_)
                        ·
                          refine w_iconst gz_148_97 (by decide) ?_
                          refine w_goto (t := 102) gz_148_98 rfl ?_
                          refine w_istore (ls' := [(2, 151), (0, x1), (0, x2), (0, x3), (0, x4), (0, x5), (0, 1)]) gz_148_102 gm_148 rfl rfl rfl ?_
                          refine w_iload gz_148_104 rfl ?_
                          refine w_ifeq (t := 134) gz_148_106 rfl (fun u130 => by exfalso; omega) (fun u130 => ?_)
                          refine w_aload_n gz_148_109 rfl ?_
                          refine w_getX (v := 162) gz_148_110 is_151 rd_10 rfl (by decide) rfl ?_
                          refine w_iconst gz_148_113 (by decide) ?_
                          refine w_iload_n gz_148_114 rfl ?_
                          refine w_iload_n gz_148_115 rfl ?_
                          refine w_inS (k := 0) (as := [(0, x2), (0, x1), (0, 0)]) (r := [(2, 162)]) (ls0 := [(0, 0), (0, x1), (0, x2)]) gz_148_116 gm_150 rfl rfl rfl rfl rfl rfl ?_
                          refine w_bipush gz_150_0 (by decide) ?_
                          refine w_iload_n gz_150_2 rfl ?_
                          refine w_imul gz_150_3 ⟨by omega, by omega⟩ ?_
                          refine w_bipush gz_150_4 (by decide) ?_
                          refine w_iload_n gz_150_6 rfl ?_
                          refine w_imul gz_150_7 ⟨by omega, by omega⟩ ?_
                          refine w_iadd gz_150_8 ⟨by omega, by omega⟩ ?_
                          refine w_iload_n gz_150_9 rfl ?_
                          refine w_iadd gz_150_10 ⟨by omega, by omega⟩ ?_
                          refine w_iret gz_150_11 gm_150 ?_
                          show wp l rho (d + 5) 148 119 [(2, 151), (0, x1), (0, x2), (0, x3), (0, x4), (0, x5), (0, 1)] [(0, (((60 * 0) + (20 * x1)) + x2)), (2, 162)] h1 Q
                          refine w_bald gz_148_119 is_162 rd_61 (by omega) (by omega) (fun v132 ev132 pv132 qv132 => ?_)
                          refine w_ifne (t := 134) gz_148_120 rfl (fun u133 => ?_) (fun u133 => ?_)
                          ·
                            refine w_iconst gz_148_134 (by decide) ?_
                            have c134 := (my_up_self fh1)
                            exact w_bret gz_148_135 gm_148 (by omega) (by omega) (k0 h1 (gh1) (by omega) Rws_h1)
                          ·
                            refine w_aload_n gz_148_123 rfl ?_
                            refine w_iconst gz_148_124 (by decide) ?_
                            refine w_iload_n gz_148_125 rfl ?_
                            refine w_inv (k := 2) (as := [(0, x1), (0, 0)]) (r := []) (x := 151) (ls0 := [(2, 151), (0, 0), (0, x1), (9, 0), (9, 0)]) gz_148_126 gm_151 rfl is_151 rd_10 rfl rfl rfl rfl rfl (c_Model_rowsOf2 (d := (d + 3)) (x1 := 0) (x2 := x1) (by omega) (by omega) (by omega) (by omega) (fun v135 w136 w137 xp138 => ?_))
                            show wp l rho (d + 5) 148 129 [(2, 151), (0, x1), (0, x2), (0, x3), (0, x4), (0, x5), (0, 1)] [(0, v135)] h1 Q
                            have ry := xp138
                            have rb := (Rws_h1) 0 x1 (by omega) (by omega) (by omega) (by omega)
                            refine w_bipush gz_148_129 (by decide) ?_
                            refine w_icne (t := 136) gz_148_131 rfl (fun u139 => ?_) (fun u139 => ?_)
                            ·
                              refine w_aload_n gz_148_136 rfl ?_
                              refine w_iconst gz_148_137 (by decide) ?_
                              refine w_iconst gz_148_138 (by decide) ?_
                              refine w_inv (k := 1) (as := [(0, 5), (0, 0)]) (r := []) (x := 151) (ls0 := [(2, 151), (0, 0), (0, 5), (9, 0)]) gz_148_139 gm_152 rfl is_151 rd_10 rfl rfl rfl rfl rfl (c_Model_copies2 (d := (d + 4)) (x1 := 0) (x2 := 5) (by omega) (by omega) (by omega) (by omega) Rws_h1 (fun h140 frh140 xp141 Rws_h140t142 => ?_))
                              have gh140 : my_fr [(10, 0), (61, -1), (62, -1)] h h140 := my_fr.tr gh1 (frh140.mo rfl)
                              show wp l rho (d + 5) 148 142 [(2, 151), (0, x1), (0, x2), (0, x3), (0, x4), (0, x5), (0, 1)] [] h140 Q
                              have cpx := xp141
                              refine w_aload_n gz_148_142 rfl ?_
                              refine w_iconst gz_148_143 (by decide) ?_
                              refine w_iload_n gz_148_144 rfl ?_
                              refine w_iload_n gz_148_145 rfl ?_
                              refine w_aload_n gz_148_146 rfl ?_
                              refine w_getX (v := 157) gz_148_147 is_151 rd_10 rfl (by decide) rfl ?_
                              refine w_iload_n gz_148_150 rfl ?_
                              refine w_iald gz_148_151 is_157 rd_56 (by omega) (by omega) (fun v144 ev144 pv144 qv144 => ?_)
                              have zv144 := ev144.trans ((my_fr.at frh140 is_157 rfl).trans ev128.symm)
                              refine w_iconst gz_148_152 (by decide) ?_
                              refine w_icge (t := 160) gz_148_153 rfl (fun u145 => ?_) (fun u145 => by exfalso; omega)
                              refine w_iload_n gz_148_160 rfl ?_
                              refine w_aload_n gz_148_161 rfl ?_
                              refine w_getX (v := 157) gz_148_162 is_151 rd_10 rfl (by decide) rfl ?_
                              refine w_iload_n gz_148_165 rfl ?_
                              refine w_iald gz_148_166 is_157 rd_56 (by omega) (by omega) (fun v147 ev147 pv147 qv147 => ?_)
                              have zv147 := ev147.trans ev144.symm
                              refine w_iconst gz_148_167 (by decide) ?_
                              refine w_icge (t := 175) gz_148_168 rfl (fun u148 => ?_) (fun u148 => by exfalso; omega)
                              refine w_iload gz_148_175 rfl ?_
                              refine w_aload_n gz_148_177 rfl ?_
                              refine w_getX (v := 157) gz_148_178 is_151 rd_10 rfl (by decide) rfl ?_
                              refine w_iload_n gz_148_181 rfl ?_
                              refine w_iald gz_148_182 is_157 rd_56 (by omega) (by omega) (fun v150 ev150 pv150 qv150 => ?_)
                              have zv150 := ev150.trans ev147.symm
                              refine w_iconst gz_148_183 (by decide) ?_
                              refine w_icge (t := 191) gz_148_184 rfl (fun u151 => by exfalso; omega) (fun u151 => ?_)
                              refine w_iconst gz_148_187 (by decide) ?_
                              refine w_goto (t := 193) gz_148_188 rfl ?_
                              refine w_inv (k := 1) (as := [(0, 0), (0, x4), (0, x3), (0, x2), (0, x1), (0, 5)]) (r := []) (x := 151) (ls0 := [(2, 151), (0, 5), (0, x1), (0, x2), (0, x3), (0, x4), (0, 0), (9, 0)]) gz_148_193 gm_153 rfl is_151 rd_10 rfl rfl rfl rfl rfl (c_Model_lays2 (d := (d + 3)) (x1 := 5) (x2 := x1) (x3 := x2) (x4 := x3) (x5 := x4) (x6 := 0) (by omega) (by omega) (by omega) (by omega) (by omega) (by omega) (by omega) (by omega) (by omega) (by omega) (by omega) (by omega) Rws_h140t142 (by rw [rc_Cp cpx (by omega) (by omega)]; omega) (fun h152 frh152 Rws_h152t153 => ?_))
                              have gh152 : my_fr [(10, 0), (61, -1), (62, -1)] h h152 := my_fr.tr gh140 (frh152.mo rfl)
                              show wp l rho (d + 5) 148 196 [(2, 151), (0, x1), (0, x2), (0, x3), (0, x4), (0, x5), (0, 1)] [] h152 Q
                              refine w_aload_n gz_148_196 rfl ?_
                              refine w_inv (k := 0) (as := []) (r := []) (x := 151) (ls0 := [(2, 151)]) gz_148_197 gm_154 rfl is_151 rd_10 rfl rfl rfl rfl rfl (c_Model_takes2 (d := d)  Rws_h152t153 (fun h154 frh154 Rws_h154t155 => ?_) (fun h156 frh156 Rws_h156t157 => ?_))
                              ·
                                have gh154 : my_fr [(10, 0), (61, -1), (62, -1)] h h154 := my_fr.tr gh152 (frh154.mo rfl)
                                show wp l rho (d + 5) 148 200 [(2, 151), (0, x1), (0, x2), (0, x3), (0, x4), (0, x5), (0, 1)] [(0, 0)] h154 Q
                                have c158 := ((my_fr.at frh154 is_151 rfl).trans ((my_fr.at frh152 is_151 rfl).trans ((my_fr.at frh140 is_151 rfl).trans (my_up_self fh1))))
                                exact w_bret gz_148_200 gm_148 (by omega) (by omega) (k0 h154 (gh154) (by omega) Rws_h154t155)
                              ·
                                have gh156 : my_fr [(10, 0), (61, -1), (62, -1)] h h156 := my_fr.tr gh152 (frh156.mo rfl)
                                show wp l rho (d + 5) 148 200 [(2, 151), (0, x1), (0, x2), (0, x3), (0, x4), (0, x5), (0, 1)] [(0, 1)] h156 Q
                                have c159 := ((my_fr.at frh156 is_151 rfl).trans ((my_fr.at frh152 is_151 rfl).trans ((my_fr.at frh140 is_151 rfl).trans (my_up_self fh1))))
                                exact w_bret gz_148_200 gm_148 (by omega) (by omega) (k1 h156 (gh156) (by omega) (by omega) (by omega) (by omega) (by omega) Rws_h156t157)
                            ·
                              refine w_iconst gz_148_134 (by decide) ?_
                              have c160 := (my_up_self fh1)
                              exact w_bret gz_148_135 gm_148 (by omega) (by omega) (k0 h1 (gh1) (by omega) Rws_h1)
                        ·
                          refine w_iload gz_148_86 rfl ?_
                          refine w_iconst gz_148_88 (by decide) ?_
                          refine w_bipush gz_148_89 (by decide) ?_
                          refine w_inS (k := 0) (as := [(0, 19), (0, 0), (0, x5)]) (r := []) (ls0 := [(0, x5), (0, 0), (0, 19)]) gz_148_91 gm_147 rfl rfl rfl rfl rfl rfl ?_
                          refine w_iload_n gz_147_0 rfl ?_
                          refine w_iload_n gz_147_1 rfl ?_
                          refine w_iclt (t := 14) gz_147_2 rfl (fun u161 => ?_) (fun u161 => ?_)
                          ·
                            refine w_iconst gz_147_14 (by decide) ?_
                            refine w_bret gz_147_15 gm_147 (by omega) (by omega) ?_
                            show wp l rho (d + 5) 148 94 [(2, 151), (0, x1), (0, x2), (0, x3), (0, x4), (0, x5), (0, 1)] [(0, 0)] h1 Q
                            refine w_ifeq (t := 101) gz_148_94 rfl (fun u162 => ?_) (fun u162 => by exfalso; omega)
                            refine w_iconst gz_148_101 (by decide) ?_
                            refine w_istore (ls' := [(2, 151), (0, x1), (0, x2), (0, x3), (0, x4), (0, x5), (0, 0)]) gz_148_102 gm_148 rfl rfl rfl ?_
                            refine w_iload gz_148_104 rfl ?_
                            refine w_ifeq (t := 134) gz_148_106 rfl (fun u163 => ?_) (fun u163 => by exfalso; omega)
                            refine w_iconst gz_148_134 (by decide) ?_
                            have c164 := (my_up_self fh1)
                            exact w_bret gz_148_135 gm_148 (by omega) (by omega) (k0 h1 (gh1) (by omega) Rws_h1)
                          ·
                            refine w_iload_n gz_147_5 rfl ?_
                            refine w_iload_n gz_147_6 rfl ?_
                            refine w_icgt (t := 14) gz_147_7 rfl (fun u165 => ?_) (fun u165 => ?_)
                            ·
                              refine w_iconst gz_147_14 (by decide) ?_
                              refine w_bret gz_147_15 gm_147 (by omega) (by omega) ?_
                              show wp l rho (d + 5) 148 94 [(2, 151), (0, x1), (0, x2), (0, x3), (0, x4), (0, x5), (0, 1)] [(0, 0)] h1 Q
                              refine w_ifeq (t := 101) gz_148_94 rfl (fun u166 => ?_) (fun u166 => by exfalso; omega)
                              refine w_iconst gz_148_101 (by decide) ?_
                              refine w_istore (ls' := [(2, 151), (0, x1), (0, x2), (0, x3), (0, x4), (0, x5), (0, 0)]) gz_148_102 gm_148 rfl rfl rfl ?_
                              refine w_iload gz_148_104 rfl ?_
                              refine w_ifeq (t := 134) gz_148_106 rfl (fun u167 => ?_) (fun u167 => by exfalso; omega)
                              refine w_iconst gz_148_134 (by decide) ?_
                              have c168 := (my_up_self fh1)
                              exact w_bret gz_148_135 gm_148 (by omega) (by omega) (k0 h1 (gh1) (by omega) Rws_h1)
                            ·
                              refine w_iconst gz_147_10 (by decide) ?_
                              refine w_goto (t := 15) gz_147_11 rfl ?_
                              refine w_bret gz_147_15 gm_147 (by omega) (by omega) ?_
                              show wp l rho (d + 5) 148 94 [(2, 151), (0, x1), (0, x2), (0, x3), (0, x4), (0, x5), (0, 1)] [(0, 1)] h1 Q
                              refine w_ifeq (t := 101) gz_148_94 rfl (fun u169 => by exfalso; omega) (fun u169 => ?_)
                              refine w_iconst gz_148_97 (by decide) ?_
                              refine w_goto (t := 102) gz_148_98 rfl ?_
                              refine w_istore (ls' := [(2, 151), (0, x1), (0, x2), (0, x3), (0, x4), (0, x5), (0, 1)]) gz_148_102 gm_148 rfl rfl rfl ?_
                              refine w_iload gz_148_104 rfl ?_
                              refine w_ifeq (t := 134) gz_148_106 rfl (fun u170 => by exfalso; omega) (fun u170 => ?_)
                              refine w_aload_n gz_148_109 rfl ?_
                              refine w_getX (v := 162) gz_148_110 is_151 rd_10 rfl (by decide) rfl ?_
                              refine w_iconst gz_148_113 (by decide) ?_
                              refine w_iload_n gz_148_114 rfl ?_
                              refine w_iload_n gz_148_115 rfl ?_
                              refine w_inS (k := 0) (as := [(0, x2), (0, x1), (0, 0)]) (r := [(2, 162)]) (ls0 := [(0, 0), (0, x1), (0, x2)]) gz_148_116 gm_150 rfl rfl rfl rfl rfl rfl ?_
                              refine w_bipush gz_150_0 (by decide) ?_
                              refine w_iload_n gz_150_2 rfl ?_
                              refine w_imul gz_150_3 ⟨by omega, by omega⟩ ?_
                              refine w_bipush gz_150_4 (by decide) ?_
                              refine w_iload_n gz_150_6 rfl ?_
                              refine w_imul gz_150_7 ⟨by omega, by omega⟩ ?_
                              refine w_iadd gz_150_8 ⟨by omega, by omega⟩ ?_
                              refine w_iload_n gz_150_9 rfl ?_
                              refine w_iadd gz_150_10 ⟨by omega, by omega⟩ ?_
                              refine w_iret gz_150_11 gm_150 ?_
                              show wp l rho (d + 5) 148 119 [(2, 151), (0, x1), (0, x2), (0, x3), (0, x4), (0, x5), (0, 1)] [(0, (((60 * 0) + (20 * x1)) + x2)), (2, 162)] h1 Q
                              refine w_bald gz_148_119 is_162 rd_61 (by omega) (by omega) (fun v172 ev172 pv172 qv172 => ?_)
                              refine w_ifne (t := 134) gz_148_120 rfl (fun u173 => ?_) (fun u173 => ?_)
                              ·
                                refine w_iconst gz_148_134 (by decide) ?_
                                have c174 := (my_up_self fh1)
                                exact w_bret gz_148_135 gm_148 (by omega) (by omega) (k0 h1 (gh1) (by omega) Rws_h1)
                              ·
                                refine w_aload_n gz_148_123 rfl ?_
                                refine w_iconst gz_148_124 (by decide) ?_
                                refine w_iload_n gz_148_125 rfl ?_
                                refine w_inv (k := 2) (as := [(0, x1), (0, 0)]) (r := []) (x := 151) (ls0 := [(2, 151), (0, 0), (0, x1), (9, 0), (9, 0)]) gz_148_126 gm_151 rfl is_151 rd_10 rfl rfl rfl rfl rfl (c_Model_rowsOf2 (d := (d + 3)) (x1 := 0) (x2 := x1) (by omega) (by omega) (by omega) (by omega) (fun v175 w176 w177 xp178 => ?_))
                                show wp l rho (d + 5) 148 129 [(2, 151), (0, x1), (0, x2), (0, x3), (0, x4), (0, x5), (0, 1)] [(0, v175)] h1 Q
                                have ry := xp178
                                have rb := (Rws_h1) 0 x1 (by omega) (by omega) (by omega) (by omega)
                                refine w_bipush gz_148_129 (by decide) ?_
                                refine w_icne (t := 136) gz_148_131 rfl (fun u179 => ?_) (fun u179 => ?_)
                                ·
                                  refine w_aload_n gz_148_136 rfl ?_
                                  refine w_iconst gz_148_137 (by decide) ?_
                                  refine w_iconst gz_148_138 (by decide) ?_
                                  refine w_inv (k := 1) (as := [(0, 5), (0, 0)]) (r := []) (x := 151) (ls0 := [(2, 151), (0, 0), (0, 5), (9, 0)]) gz_148_139 gm_152 rfl is_151 rd_10 rfl rfl rfl rfl rfl (c_Model_copies2 (d := (d + 4)) (x1 := 0) (x2 := 5) (by omega) (by omega) (by omega) (by omega) Rws_h1 (fun h180 frh180 xp181 Rws_h180t182 => ?_))
                                  have gh180 : my_fr [(10, 0), (61, -1), (62, -1)] h h180 := my_fr.tr gh1 (frh180.mo rfl)
                                  show wp l rho (d + 5) 148 142 [(2, 151), (0, x1), (0, x2), (0, x3), (0, x4), (0, x5), (0, 1)] [] h180 Q
                                  have cpx := xp181
                                  refine w_aload_n gz_148_142 rfl ?_
                                  refine w_iconst gz_148_143 (by decide) ?_
                                  refine w_iload_n gz_148_144 rfl ?_
                                  refine w_iload_n gz_148_145 rfl ?_
                                  refine w_aload_n gz_148_146 rfl ?_
                                  refine w_getX (v := 157) gz_148_147 is_151 rd_10 rfl (by decide) rfl ?_
                                  refine w_iload_n gz_148_150 rfl ?_
                                  refine w_iald gz_148_151 is_157 rd_56 (by omega) (by omega) (fun v184 ev184 pv184 qv184 => ?_)
                                  have zv184 := ev184.trans ((my_fr.at frh180 is_157 rfl).trans ev128.symm)
                                  refine w_iconst gz_148_152 (by decide) ?_
                                  refine w_icge (t := 160) gz_148_153 rfl (fun u185 => ?_) (fun u185 => by exfalso; omega)
                                  refine w_iload_n gz_148_160 rfl ?_
                                  refine w_aload_n gz_148_161 rfl ?_
                                  refine w_getX (v := 157) gz_148_162 is_151 rd_10 rfl (by decide) rfl ?_
                                  refine w_iload_n gz_148_165 rfl ?_
                                  refine w_iald gz_148_166 is_157 rd_56 (by omega) (by omega) (fun v187 ev187 pv187 qv187 => ?_)
                                  have zv187 := ev187.trans ev184.symm
                                  refine w_iconst gz_148_167 (by decide) ?_
                                  refine w_icge (t := 175) gz_148_168 rfl (fun u188 => ?_) (fun u188 => by exfalso; omega)
                                  refine w_iload gz_148_175 rfl ?_
                                  refine w_aload_n gz_148_177 rfl ?_
                                  refine w_getX (v := 157) gz_148_178 is_151 rd_10 rfl (by decide) rfl ?_
                                  refine w_iload_n gz_148_181 rfl ?_
                                  refine w_iald gz_148_182 is_157 rd_56 (by omega) (by omega) (fun v190 ev190 pv190 qv190 => ?_)
                                  have zv190 := ev190.trans ev187.symm
                                  refine w_iconst gz_148_183 (by decide) ?_
                                  refine w_icge (t := 191) gz_148_184 rfl (fun u191 => ?_) (fun u191 => by exfalso; omega)
                                  refine w_iload gz_148_191 rfl ?_
                                  refine w_inv (k := 1) (as := [(0, x5), (0, x4), (0, x3), (0, x2), (0, x1), (0, 5)]) (r := []) (x := 151) (ls0 := [(2, 151), (0, 5), (0, x1), (0, x2), (0, x3), (0, x4), (0, x5), (9, 0)]) gz_148_193 gm_153 rfl is_151 rd_10 rfl rfl rfl rfl rfl (c_Model_lays2 (d := (d + 3)) (x1 := 5) (x2 := x1) (x3 := x2) (x4 := x3) (x5 := x4) (x6 := x5) (by omega) (by omega) (by omega) (by omega) (by omega) (by omega) (by omega) (by omega) (by omega) (by omega) (by omega) (by omega) Rws_h180t182 (by rw [rc_Cp cpx (by omega) (by omega)]; omega) (fun h192 frh192 Rws_h192t193 => ?_))
                                  have gh192 : my_fr [(10, 0), (61, -1), (62, -1)] h h192 := my_fr.tr gh180 (frh192.mo rfl)
                                  show wp l rho (d + 5) 148 196 [(2, 151), (0, x1), (0, x2), (0, x3), (0, x4), (0, x5), (0, 1)] [] h192 Q
                                  refine w_aload_n gz_148_196 rfl ?_
                                  refine w_inv (k := 0) (as := []) (r := []) (x := 151) (ls0 := [(2, 151)]) gz_148_197 gm_154 rfl is_151 rd_10 rfl rfl rfl rfl rfl (c_Model_takes2 (d := d)  Rws_h192t193 (fun h194 frh194 Rws_h194t195 => ?_) (fun h196 frh196 Rws_h196t197 => ?_))
                                  ·
                                    have gh194 : my_fr [(10, 0), (61, -1), (62, -1)] h h194 := my_fr.tr gh192 (frh194.mo rfl)
                                    show wp l rho (d + 5) 148 200 [(2, 151), (0, x1), (0, x2), (0, x3), (0, x4), (0, x5), (0, 1)] [(0, 0)] h194 Q
                                    have c198 := ((my_fr.at frh194 is_151 rfl).trans ((my_fr.at frh192 is_151 rfl).trans ((my_fr.at frh180 is_151 rfl).trans (my_up_self fh1))))
                                    exact w_bret gz_148_200 gm_148 (by omega) (by omega) (k0 h194 (gh194) (by omega) Rws_h194t195)
                                  ·
                                    have gh196 : my_fr [(10, 0), (61, -1), (62, -1)] h h196 := my_fr.tr gh192 (frh196.mo rfl)
                                    show wp l rho (d + 5) 148 200 [(2, 151), (0, x1), (0, x2), (0, x3), (0, x4), (0, x5), (0, 1)] [(0, 1)] h196 Q
                                    have c199 := ((my_fr.at frh196 is_151 rfl).trans ((my_fr.at frh192 is_151 rfl).trans ((my_fr.at frh180 is_151 rfl).trans (my_up_self fh1))))
                                    exact w_bret gz_148_200 gm_148 (by omega) (by omega) (k1 h196 (gh196) (by omega) (by omega) (by omega) (by omega) (by omega) Rws_h196t197)
                                ·
                                  refine w_iconst gz_148_134 (by decide) ?_
                                  have c200 := (my_up_self fh1)
                                  exact w_bret gz_148_135 gm_148 (by omega) (by omega) (k0 h1 (gh1) (by omega) Rws_h1)
theorem c_Reader_read {l : Launch} {rho : Nat → Int32} {d : Nat} {h : my_H} {Q : my_H → my_V → Prop} {x1 : Int} {wv : Int} (a1 : 0 ≤ x1) (b1 : x1 ≤ 5) (hwv : wv ≤ 5) (hwv0 : 0 ≤ wv) (n_Ln : Ln h) (n_Un : Un h wv) (hwx : wv = x1) (k0 : ∀ (h' : my_H) (y : Int), my_fr [(4, 0), (4, 1), (4, 2), (4, 3), (4, 4), (4, 5), (4, 6), (4, 7), (4, 8), (4, 9), (5, 2), (5, 4), (5, 5), (5, 6), (5, 7), (5, 8), (5, 9), (22, -1), (32, -1), (33, -1), (34, -1), (35, -1), (36, -1), (37, -1), (38, -1), (39, -1)] h h' → 1 ≤ y → y ≤ 16005 → h' 82 4 = 0 → 1 ≤ h' 82 9 → h' 82 9 ≤ 16005 → Ln h' → Q h' (0, y)) (k1 : ∀ (h' : my_H), my_fr [(4, 0), (4, 1), (4, 2), (4, 3), (4, 4), (4, 5), (4, 6), (4, 7), (4, 8), (4, 9), (5, 2), (5, 4), (5, 5), (5, 6), (5, 7), (5, 8), (5, 9), (22, -1), (32, -1), (33, -1), (34, -1), (35, -1), (36, -1), (37, -1), (38, -1), (39, -1)] h h' → h' 82 4 = 0 → h' 82 9 = 0 → Ln h' → Q h' (0, 0)) : wp l rho (d + 9) 36 0 [(2, 82), (0, x1), (9, 0)] [] h Q := by
  have J21_0 : ∀ (n : Nat) (p21_0 p21_1 : Int) (h21_0 : my_H), my_fr [(4, 0), (4, 1), (4, 2), (4, 3), (4, 4), (4, 5), (4, 6), (4, 7), (4, 8), (4, 9), (5, 2), (5, 4), (5, 5), (5, 6), (5, 7), (5, 8), (5, 9), (22, -1), (32, -1), (33, -1), (34, -1), (35, -1), (36, -1), (37, -1), (38, -1), (39, -1)] h h21_0 → 0 ≤ p21_0 → p21_0 ≤ 1001 → 0 ≤ p21_1 → p21_1 ≤ 16005 → h21_0 82 9 = p21_1 → Ln h21_0 → Un h21_0 wv → (h21_0 82 9 = 0 → Sp h21_0 wv) → 1002 - p21_0 ≤ (n : Int) → wp l rho (d + 9) 36 21 [(2, 82), (0, x1), (0, p21_0)] [] h21_0 Q := by
    intro n
    induction n with
    | zero => intro p21_0 p21_1 h21_0 gh_21_0 q0_21_0 q1_21_0 q2_21_0 q3_21_0 c82_9_21_0 n_Ln_21_0 n_Un_21_0 sp_21_0 hm_21_0; exfalso; omega
    | succ n ih_21_0 =>
      intro p21_0 p21_1 h21_0 gh_21_0 q0_21_0 q1_21_0 q2_21_0 q3_21_0 c82_9_21_0 n_Ln_21_0 n_Un_21_0 sp_21_0 hm_21_0
      refine w_iload_n gz_36_21 rfl ?_
      refine w_sipush gz_36_22 (by decide) ?_
      refine w_icgt (t := 52) gz_36_25 rfl (fun u1 => ?_) (fun u1 => ?_)
      ·
        refine w_aload_n gz_36_52 rfl ?_
        refine w_iconst gz_36_53 (by decide) ?_
        refine v_putI (j := 4) gz_36_54 rfl is_82 rd_5 rfl (by omega) (by omega) rfl (fun h2 fh2 => ?_)
        have gh2 : my_fr [(4, 0), (4, 1), (4, 2), (4, 3), (4, 4), (4, 5), (4, 6), (4, 7), (4, 8), (4, 9), (5, 2), (5, 4), (5, 5), (5, 6), (5, 7), (5, 8), (5, 9), (22, -1), (32, -1), (33, -1), (34, -1), (35, -1), (36, -1), (37, -1), (38, -1), (39, -1)] h h2 := my_fr.up gh_21_0 is_82 fh2 rfl
        have Ln_h2 : Ln h2 := Ln_ag (my_ag.up fh2 is_82 rfl) n_Ln_21_0
        have Un_h2 : Un h2 wv := Un_ag (my_ag.up fh2 is_82 rfl) n_Ln_21_0 n_Un_21_0
        refine w_aload_n gz_36_57 rfl ?_
        refine v_getI (j := 9) gz_36_58 rfl is_82 rd_5 rfl (fun v3 ev3 pv3 qv3 => ?_)
        have zv3 := ev3.trans ((my_up_fld fh2 (by decide)).trans c82_9_21_0)
        refine w_ifne (t := 94) gz_36_61 rfl (fun u4 => ?_) (fun u4 => ?_)
        ·
          refine w_aload_n gz_36_94 rfl ?_
          refine v_getI (j := 9) gz_36_95 rfl is_82 rd_5 rfl (fun v5 ev5 pv5 qv5 => ?_)
          have zv5 := ev5.trans ev3.symm
          have c6 := (my_up_self fh2)
          have c7 := ev5.symm
          exact w_iret gz_36_98 gm_36 (k0 h2 (v5) (gh2) (by omega) (by omega) (by omega) (by omega) (by omega) Ln_h2)
        ·
          have Sp_h2t8 : Sp h2 wv := Sp_ag (my_ag.up fh2 is_82 rfl) hwv n_Ln_21_0 (sp_21_0 (by omega))
          refine w_aload_n gz_36_64 rfl ?_
          refine w_getX (v := 27) gz_36_65 is_82 rd_5 rfl (by decide) rfl ?_
          refine w_iload_n gz_36_68 rfl ?_
          refine w_aald gz_36_69 is_27 rd_22 rfl (by omega) (by omega) (fun v10 ev10 tv10 => ?_)
          refine w_astore_n (ls' := [(2, 82), (0, x1), (2, v10)]) gz_36_70 gm_36 rfl rfl rfl ?_
          have LnA := Ln_h2
          have SpA := Sp_h2t8
          have UnA := Un_h2
          refine w_aload_n gz_36_71 rfl ?_
          refine v_getR (j := 2) gz_36_72 rfl is_82 rd_5 rfl (fun v11 ev11 tv11 => ?_)
          refine w_iconst gz_36_75 (by decide) ?_
          refine v_putB (j := 0) gz_36_76 rfl tv11 rd_4 rfl (by omega) (by omega) rfl (fun h12 fh12 => ?_)
          have gh12 : my_fr [(4, 0), (4, 1), (4, 2), (4, 3), (4, 4), (4, 5), (4, 6), (4, 7), (4, 8), (4, 9), (5, 2), (5, 4), (5, 5), (5, 6), (5, 7), (5, 8), (5, 9), (22, -1), (32, -1), (33, -1), (34, -1), (35, -1), (36, -1), (37, -1), (38, -1), (39, -1)] h h12 := my_fr.up gh2 tv11 fh12 rfl
          refine w_aload_n gz_36_79 rfl ?_
          refine w_getX (v := 27) gz_36_80 is_82 rd_5 rfl (by decide) rfl ?_
          refine w_iload_n gz_36_83 rfl ?_
          refine w_aload_n gz_36_84 rfl ?_
          refine v_getR (j := 2) gz_36_85 rfl is_82 rd_5 rfl (fun v14 ev14 tv14 => ?_)
          have zv14 : v11 = v14 := (ev14.trans ((my_up_role fh12 is_82 tv11 rfl).trans ev11.symm)).symm
          subst zv14
          refine w_aast gz_36_88 is_27 rd_22 rfl tv11 rd_4 rfl (by omega) (by omega) (fun h15 fh15 => ?_)
          have gh15 : my_fr [(4, 0), (4, 1), (4, 2), (4, 3), (4, 4), (4, 5), (4, 6), (4, 7), (4, 8), (4, 9), (5, 2), (5, 4), (5, 5), (5, 6), (5, 7), (5, 8), (5, 9), (22, -1), (32, -1), (33, -1), (34, -1), (35, -1), (36, -1), (37, -1), (38, -1), (39, -1)] h h15 := my_fr.up gh12 is_27 fh15 rfl
          refine w_aload_n gz_36_89 rfl ?_
          refine w_aload_n gz_36_90 rfl ?_
          refine v_putR (j := 2) gz_36_91 rfl is_82 rd_5 rfl tv10 rfl (fun h16 fh16 => ?_)
          have gh16 : my_fr [(4, 0), (4, 1), (4, 2), (4, 3), (4, 4), (4, 5), (4, 6), (4, 7), (4, 8), (4, 9), (5, 2), (5, 4), (5, 5), (5, 6), (5, 7), (5, 8), (5, 9), (22, -1), (32, -1), (33, -1), (34, -1), (35, -1), (36, -1), (37, -1), (38, -1), (39, -1)] h h16 := my_fr.up gh15 is_82 fh16 rfl
          have Ln_h16t17 : Ln h16 := Ln_swap LnA SpA (by omega) (by omega) (by have q := UnA; unfold Un at q; exact q) (by first | assumption | omega) (by first | assumption | omega | grind) fh12 (by rw [hwx]; exact fh15) fh16
          refine w_aload_n gz_36_94 rfl ?_
          refine v_getI (j := 9) gz_36_95 rfl is_82 rd_5 rfl (fun v18 ev18 pv18 qv18 => ?_)
          have zv18 := ev18.trans ((my_up_fld fh16 (by decide)).trans ((my_up_role fh15 is_82 is_27 rfl).trans ((my_up_role fh12 is_82 tv11 rfl).trans ev3.symm)))
          have c19 := ((my_up_fld fh16 (by decide)).trans ((my_up_role fh15 is_82 is_27 rfl).trans ((my_up_role fh12 is_82 tv11 rfl).trans (my_up_self fh2))))
          have c20 := ev18.symm
          rw [show (v18 : Int) = 0 from by omega]
          exact w_iret gz_36_98 gm_36 (k1 h16 (gh16) (by omega) (by omega) Ln_h16t17)
      ·
        refine w_aload_n gz_36_28 rfl ?_
        refine v_getI (j := 9) gz_36_29 rfl is_82 rd_5 rfl (fun v21 ev21 pv21 qv21 => ?_)
        have zv21 := ev21.trans c82_9_21_0
        refine w_ifne (t := 52) gz_36_32 rfl (fun u22 => ?_) (fun u22 => ?_)
        ·
          refine w_aload_n gz_36_52 rfl ?_
          refine w_iconst gz_36_53 (by decide) ?_
          refine v_putI (j := 4) gz_36_54 rfl is_82 rd_5 rfl (by omega) (by omega) rfl (fun h23 fh23 => ?_)
          have gh23 : my_fr [(4, 0), (4, 1), (4, 2), (4, 3), (4, 4), (4, 5), (4, 6), (4, 7), (4, 8), (4, 9), (5, 2), (5, 4), (5, 5), (5, 6), (5, 7), (5, 8), (5, 9), (22, -1), (32, -1), (33, -1), (34, -1), (35, -1), (36, -1), (37, -1), (38, -1), (39, -1)] h h23 := my_fr.up gh_21_0 is_82 fh23 rfl
          have Ln_h23 : Ln h23 := Ln_ag (my_ag.up fh23 is_82 rfl) n_Ln_21_0
          have Un_h23 : Un h23 wv := Un_ag (my_ag.up fh23 is_82 rfl) n_Ln_21_0 n_Un_21_0
          refine w_aload_n gz_36_57 rfl ?_
          refine v_getI (j := 9) gz_36_58 rfl is_82 rd_5 rfl (fun v24 ev24 pv24 qv24 => ?_)
          have zv24 := ev24.trans ((my_up_fld fh23 (by decide)).trans ev21.symm)
          refine w_ifne (t := 94) gz_36_61 rfl (fun u25 => ?_) (fun u25 => by exfalso; omega)
          refine w_aload_n gz_36_94 rfl ?_
          refine v_getI (j := 9) gz_36_95 rfl is_82 rd_5 rfl (fun v26 ev26 pv26 qv26 => ?_)
          have zv26 := ev26.trans ev24.symm
          have c27 := (my_up_self fh23)
          have c28 := ev26.symm
          exact w_iret gz_36_98 gm_36 (k0 h23 (v26) (gh23) (by omega) (by omega) (by omega) (by omega) (by omega) Ln_h23)
        ·
          refine w_aload_n gz_36_35 rfl ?_
          refine v_getI (j := 6) gz_36_36 rfl is_82 rd_5 rfl (fun v29 ev29 pv29 qv29 => ?_)
          refine w_ifeq (t := 52) gz_36_39 rfl (fun u30 => ?_) (fun u30 => ?_)
          ·
            refine w_aload_n gz_36_52 rfl ?_
            refine w_iconst gz_36_53 (by decide) ?_
            refine v_putI (j := 4) gz_36_54 rfl is_82 rd_5 rfl (by omega) (by omega) rfl (fun h31 fh31 => ?_)
            have gh31 : my_fr [(4, 0), (4, 1), (4, 2), (4, 3), (4, 4), (4, 5), (4, 6), (4, 7), (4, 8), (4, 9), (5, 2), (5, 4), (5, 5), (5, 6), (5, 7), (5, 8), (5, 9), (22, -1), (32, -1), (33, -1), (34, -1), (35, -1), (36, -1), (37, -1), (38, -1), (39, -1)] h h31 := my_fr.up gh_21_0 is_82 fh31 rfl
            have Ln_h31 : Ln h31 := Ln_ag (my_ag.up fh31 is_82 rfl) n_Ln_21_0
            have Un_h31 : Un h31 wv := Un_ag (my_ag.up fh31 is_82 rfl) n_Ln_21_0 n_Un_21_0
            refine w_aload_n gz_36_57 rfl ?_
            refine v_getI (j := 9) gz_36_58 rfl is_82 rd_5 rfl (fun v32 ev32 pv32 qv32 => ?_)
            have zv32 := ev32.trans ((my_up_fld fh31 (by decide)).trans ev21.symm)
            refine w_ifne (t := 94) gz_36_61 rfl (fun u33 => by exfalso; omega) (fun u33 => ?_)
            have Sp_h31t34 : Sp h31 wv := Sp_ag (my_ag.up fh31 is_82 rfl) hwv n_Ln_21_0 (sp_21_0 (by omega))
            refine w_aload_n gz_36_64 rfl ?_
            refine w_getX (v := 27) gz_36_65 is_82 rd_5 rfl (by decide) rfl ?_
            refine w_iload_n gz_36_68 rfl ?_
            refine w_aald gz_36_69 is_27 rd_22 rfl (by omega) (by omega) (fun v36 ev36 tv36 => ?_)
            refine w_astore_n (ls' := [(2, 82), (0, x1), (2, v36)]) gz_36_70 gm_36 rfl rfl rfl ?_
            have LnA := Ln_h31
            have SpA := Sp_h31t34
            have UnA := Un_h31
            refine w_aload_n gz_36_71 rfl ?_
            refine v_getR (j := 2) gz_36_72 rfl is_82 rd_5 rfl (fun v37 ev37 tv37 => ?_)
            refine w_iconst gz_36_75 (by decide) ?_
            refine v_putB (j := 0) gz_36_76 rfl tv37 rd_4 rfl (by omega) (by omega) rfl (fun h38 fh38 => ?_)
            have gh38 : my_fr [(4, 0), (4, 1), (4, 2), (4, 3), (4, 4), (4, 5), (4, 6), (4, 7), (4, 8), (4, 9), (5, 2), (5, 4), (5, 5), (5, 6), (5, 7), (5, 8), (5, 9), (22, -1), (32, -1), (33, -1), (34, -1), (35, -1), (36, -1), (37, -1), (38, -1), (39, -1)] h h38 := my_fr.up gh31 tv37 fh38 rfl
            refine w_aload_n gz_36_79 rfl ?_
            refine w_getX (v := 27) gz_36_80 is_82 rd_5 rfl (by decide) rfl ?_
            refine w_iload_n gz_36_83 rfl ?_
            refine w_aload_n gz_36_84 rfl ?_
            refine v_getR (j := 2) gz_36_85 rfl is_82 rd_5 rfl (fun v40 ev40 tv40 => ?_)
            have zv40 : v37 = v40 := (ev40.trans ((my_up_role fh38 is_82 tv37 rfl).trans ev37.symm)).symm
            subst zv40
            refine w_aast gz_36_88 is_27 rd_22 rfl tv37 rd_4 rfl (by omega) (by omega) (fun h41 fh41 => ?_)
            have gh41 : my_fr [(4, 0), (4, 1), (4, 2), (4, 3), (4, 4), (4, 5), (4, 6), (4, 7), (4, 8), (4, 9), (5, 2), (5, 4), (5, 5), (5, 6), (5, 7), (5, 8), (5, 9), (22, -1), (32, -1), (33, -1), (34, -1), (35, -1), (36, -1), (37, -1), (38, -1), (39, -1)] h h41 := my_fr.up gh38 is_27 fh41 rfl
            refine w_aload_n gz_36_89 rfl ?_
            refine w_aload_n gz_36_90 rfl ?_
            refine v_putR (j := 2) gz_36_91 rfl is_82 rd_5 rfl tv36 rfl (fun h42 fh42 => ?_)
            have gh42 : my_fr [(4, 0), (4, 1), (4, 2), (4, 3), (4, 4), (4, 5), (4, 6), (4, 7), (4, 8), (4, 9), (5, 2), (5, 4), (5, 5), (5, 6), (5, 7), (5, 8), (5, 9), (22, -1), (32, -1), (33, -1), (34, -1), (35, -1), (36, -1), (37, -1), (38, -1), (39, -1)] h h42 := my_fr.up gh41 is_82 fh42 rfl
            have Ln_h42t43 : Ln h42 := Ln_swap LnA SpA (by omega) (by omega) (by have q := UnA; unfold Un at q; exact q) (by first | assumption | omega) (by first | assumption | omega | grind) fh38 (by rw [hwx]; exact fh41) fh42
            refine w_aload_n gz_36_94 rfl ?_
            refine v_getI (j := 9) gz_36_95 rfl is_82 rd_5 rfl (fun v44 ev44 pv44 qv44 => ?_)
            have zv44 := ev44.trans ((my_up_fld fh42 (by decide)).trans ((my_up_role fh41 is_82 is_27 rfl).trans ((my_up_role fh38 is_82 tv37 rfl).trans ev32.symm)))
            have c45 := ((my_up_fld fh42 (by decide)).trans ((my_up_role fh41 is_82 is_27 rfl).trans ((my_up_role fh38 is_82 tv37 rfl).trans (my_up_self fh31))))
            have c46 := ev44.symm
            rw [show (v44 : Int) = 0 from by omega]
            exact w_iret gz_36_98 gm_36 (k1 h42 (gh42) (by omega) (by omega) Ln_h42t43)
          ·
            have Sp_h21_0t47 : Sp h21_0 wv := sp_21_0 (by omega)
            refine w_aload_n gz_36_42 rfl ?_
            refine w_inv (k := 5) (as := []) (r := []) (x := 82) (ls0 := [(2, 82), (9, 0), (9, 0), (9, 0), (9, 0), (9, 0)]) gz_36_43 gm_49 rfl is_82 rd_5 rfl rfl rfl rfl rfl (c_Reader_readPane_f0 (d := d)  (wv := wv) (ev21.symm.trans (by omega)) (by first | assumption | omega) (by first | assumption | omega) n_Ln_21_0 Sp_h21_0t47 (fun h48 frh48 w49 w50 Ln_h48t51 Sp_h48t52 => ?_) (fun h53 frh53 w54 Ln_h53t55 Sp_h53t56 => ?_))
            ·
              have gh48 : my_fr [(4, 0), (4, 1), (4, 2), (4, 3), (4, 4), (4, 5), (4, 6), (4, 7), (4, 8), (4, 9), (5, 2), (5, 4), (5, 5), (5, 6), (5, 7), (5, 8), (5, 9), (22, -1), (32, -1), (33, -1), (34, -1), (35, -1), (36, -1), (37, -1), (38, -1), (39, -1)] h h48 := my_fr.tr gh_21_0 (frh48.mo rfl)
              have Un_h48 : Un h48 wv := Un_ag (my_ag.fr frh48 rfl) n_Ln_21_0 n_Un_21_0
              show wp l rho (d + 9) 36 46 [(2, 82), (0, x1), (0, p21_0)] [] h48 Q
              refine w_iinc (ls' := [(2, 82), (0, x1), (0, (p21_0 + 1))]) gz_36_46 rfl gm_36 rfl rfl rfl ⟨by omega, by omega⟩ ?_
              refine w_goto (t := 21) gz_36_49 rfl ?_
              exact ih_21_0 ((p21_0 + 1)) ((h48 82 9)) h48 (gh48) (by omega) (by omega) (by omega) (by omega) ((rfl : h48 82 9 = h48 82 9).trans (by omega)) Ln_h48t51 Un_h48 (by first | exact fun _ => Sp_h48t52 | (intro q; omega) | grind) (by omega)
            ·
              have gh53 : my_fr [(4, 0), (4, 1), (4, 2), (4, 3), (4, 4), (4, 5), (4, 6), (4, 7), (4, 8), (4, 9), (5, 2), (5, 4), (5, 5), (5, 6), (5, 7), (5, 8), (5, 9), (22, -1), (32, -1), (33, -1), (34, -1), (35, -1), (36, -1), (37, -1), (38, -1), (39, -1)] h h53 := my_fr.tr gh_21_0 (frh53.mo rfl)
              have Un_h53 : Un h53 wv := Un_ag (my_ag.fr frh53 rfl) n_Ln_21_0 n_Un_21_0
              show wp l rho (d + 9) 36 46 [(2, 82), (0, x1), (0, p21_0)] [] h53 Q
              refine w_iinc (ls' := [(2, 82), (0, x1), (0, (p21_0 + 1))]) gz_36_46 rfl gm_36 rfl rfl rfl ⟨by omega, by omega⟩ ?_
              refine w_goto (t := 21) gz_36_49 rfl ?_
              exact ih_21_0 ((p21_0 + 1)) (0) h53 (gh53) (by omega) (by omega) (by omega) (by omega) (w54.trans (by omega)) Ln_h53t55 Un_h53 (by first | exact fun _ => Sp_h53t56 | (intro q; omega) | grind) (by omega)
  refine w_aload_n gz_36_0 rfl ?_
  refine w_iconst gz_36_1 (by decide) ?_
  refine v_putI (j := 5) gz_36_2 rfl is_82 rd_5 rfl (by omega) (by omega) rfl (fun h57 fh57 => ?_)
  have gh57 : my_fr [(4, 0), (4, 1), (4, 2), (4, 3), (4, 4), (4, 5), (4, 6), (4, 7), (4, 8), (4, 9), (5, 2), (5, 4), (5, 5), (5, 6), (5, 7), (5, 8), (5, 9), (22, -1), (32, -1), (33, -1), (34, -1), (35, -1), (36, -1), (37, -1), (38, -1), (39, -1)] h h57 := my_fr.up my_fr.rf is_82 fh57 rfl
  have Ln_h57 : Ln h57 := Ln_ag (my_ag.up fh57 is_82 rfl) n_Ln
  have Un_h57 : Un h57 wv := Un_ag (my_ag.up fh57 is_82 rfl) n_Ln n_Un
  refine w_aload_n gz_36_5 rfl ?_
  refine w_iconst gz_36_6 (by decide) ?_
  refine v_putI (j := 9) gz_36_7 rfl is_82 rd_5 rfl (by omega) (by omega) rfl (fun h58 fh58 => ?_)
  have gh58 : my_fr [(4, 0), (4, 1), (4, 2), (4, 3), (4, 4), (4, 5), (4, 6), (4, 7), (4, 8), (4, 9), (5, 2), (5, 4), (5, 5), (5, 6), (5, 7), (5, 8), (5, 9), (22, -1), (32, -1), (33, -1), (34, -1), (35, -1), (36, -1), (37, -1), (38, -1), (39, -1)] h h58 := my_fr.up gh57 is_82 fh58 rfl
  have Ln_h58 : Ln h58 := Ln_ag (my_ag.up fh58 is_82 rfl) Ln_h57
  have Un_h58 : Un h58 wv := Un_ag (my_ag.up fh58 is_82 rfl) Ln_h57 Un_h57
  refine w_aload_n gz_36_10 rfl ?_
  refine w_inv (k := 2) (as := []) (r := []) (x := 82) (ls0 := [(2, 82), (9, 0), (9, 0)]) gz_36_11 gm_37 rfl is_82 rd_5 rfl rfl rfl rfl rfl (c_Reader_nextToken_f0 (d := (d + 7))  ((my_up_self fh58).trans (by omega)) (fun h59 frh59 w60 w61 w62 => ?_))
  have gh59 : my_fr [(4, 0), (4, 1), (4, 2), (4, 3), (4, 4), (4, 5), (4, 6), (4, 7), (4, 8), (4, 9), (5, 2), (5, 4), (5, 5), (5, 6), (5, 7), (5, 8), (5, 9), (22, -1), (32, -1), (33, -1), (34, -1), (35, -1), (36, -1), (37, -1), (38, -1), (39, -1)] h h59 := my_fr.tr gh58 (frh59.mo rfl)
  have Ln_h59 : Ln h59 := Ln_ag (my_ag.fr frh59 rfl) Ln_h58
  have Un_h59 : Un h59 wv := Un_ag (my_ag.fr frh59 rfl) Ln_h58 Un_h58
  show wp l rho (d + 9) 36 14 [(2, 82), (0, x1), (9, 0)] [] h59 Q
  refine w_aload_n gz_36_14 rfl ?_
  refine w_iload_n gz_36_15 rfl ?_
  refine w_inv (k := 1) (as := [(0, x1)]) (r := []) (x := 82) (ls0 := [(2, 82), (0, x1), (9, 0)]) gz_36_16 gm_39 rfl is_82 rd_5 rfl rfl rfl rfl rfl (c_Reader_readOver_f0 (d := d) (x1 := x1) (wv := wv) (by omega) (by omega) (((my_fr.at frh59 is_82 rfl).trans (my_up_self fh58)).trans (by omega)) (by first | assumption | omega) (by first | assumption | omega) Ln_h59 Un_h59 (by first | assumption | omega | (subst_vars; omega)) (fun h63 frh63 w64 w65 Ln_h63t66 Un_h63t67 => ?_) (fun h68 frh68 w69 xp70 Ln_h68t71 Un_h68t72 => ?_))
  ·
    have gh63 : my_fr [(4, 0), (4, 1), (4, 2), (4, 3), (4, 4), (4, 5), (4, 6), (4, 7), (4, 8), (4, 9), (5, 2), (5, 4), (5, 5), (5, 6), (5, 7), (5, 8), (5, 9), (22, -1), (32, -1), (33, -1), (34, -1), (35, -1), (36, -1), (37, -1), (38, -1), (39, -1)] h h63 := my_fr.tr gh59 (frh63.mo rfl)
    show wp l rho (d + 9) 36 19 [(2, 82), (0, x1), (9, 0)] [] h63 Q
    refine w_iconst gz_36_19 (by decide) ?_
    refine w_istore_n (ls' := [(2, 82), (0, x1), (0, 0)]) gz_36_20 gm_36 rfl rfl rfl ?_
    exact J21_0 1002 (0) ((h63 82 9)) h63 (gh63) (by omega) (by omega) (by omega) (by omega) ((rfl : h63 82 9 = h63 82 9).trans (by omega)) Ln_h63t66 Un_h63t67 (by first | exact fun _ => no_such_saying | (intro q; omega) | grind) (by omega)
  ·
    have gh68 : my_fr [(4, 0), (4, 1), (4, 2), (4, 3), (4, 4), (4, 5), (4, 6), (4, 7), (4, 8), (4, 9), (5, 2), (5, 4), (5, 5), (5, 6), (5, 7), (5, 8), (5, 9), (22, -1), (32, -1), (33, -1), (34, -1), (35, -1), (36, -1), (37, -1), (38, -1), (39, -1)] h h68 := my_fr.tr gh59 (frh68.mo rfl)
    show wp l rho (d + 9) 36 19 [(2, 82), (0, x1), (9, 0)] [] h68 Q
    have Sp_h68t73 : Sp h68 wv := xp70
    refine w_iconst gz_36_19 (by decide) ?_
    refine w_istore_n (ls' := [(2, 82), (0, x1), (0, 0)]) gz_36_20 gm_36 rfl rfl rfl ?_
    exact J21_0 1002 (0) (0) h68 (gh68) (by omega) (by omega) (by omega) (by omega) (w69.trans (by omega)) Ln_h68t71 Un_h68t72 (by first | exact fun _ => Sp_h68t73 | (intro q; omega) | grind) (by omega)
theorem c_Desk_looks {l : Launch} {rho : Nat → Int32} {d : Nat} {h : my_H} {Q : my_H → my_V → Prop} {x1 x2 : Int} (t1 : my_is 6 x1) (n_Ln : Ln h) (k0 : ∀ (h' : my_H), my_fr [(8, 0), (8, 1), (42, -1), (43, -1), (44, -1)] h h' → Q h' (0, 0)) (k1 : ∀ (h' : my_H), my_fr [(8, 0), (8, 1), (42, -1), (43, -1), (44, -1)] h h' → 0 ≤ x2 → x2 ≤ 5 → h' 98 0 ≤ 10 → Td h' x2 → Q h' (0, 1)) : wp l rho (d + 4) 65 0 [(2, 94), (2, x1), (0, x2)] [] h Q := by
  refine w_aload_n gz_65_0 rfl ?_
  refine w_iload_n gz_65_1 rfl ?_
  refine w_inv (k := 0) (as := [(0, x2)]) (r := []) (x := 94) (ls0 := [(2, 94), (0, x2)]) gz_65_2 gm_66 rfl is_94 rd_2 rfl rfl rfl rfl rfl ?_
  refine w_iload_n gz_66_0 rfl ?_
  refine w_iflt (t := 26) gz_66_1 rfl (fun u1 => ?_) (fun u1 => ?_)
  ·
    refine w_iconst gz_66_26 (by decide) ?_
    refine w_bret gz_66_27 gm_66 (by omega) (by omega) ?_
    show wp l rho (d + 4) 65 5 [(2, 94), (2, x1), (0, x2)] [(0, 0)] h Q
    refine w_ifne (t := 10) gz_65_5 rfl (fun u2 => by exfalso; omega) (fun u2 => ?_)
    refine w_iconst gz_65_8 (by decide) ?_
    exact w_bret gz_65_9 gm_65 (by omega) (by omega) (k0 h (my_fr.rf))
  ·
    refine w_iload_n gz_66_4 rfl ?_
    refine w_bipush gz_66_5 (by decide) ?_
    refine w_icge (t := 26) gz_66_7 rfl (fun u3 => ?_) (fun u3 => ?_)
    ·
      refine w_iconst gz_66_26 (by decide) ?_
      refine w_bret gz_66_27 gm_66 (by omega) (by omega) ?_
      show wp l rho (d + 4) 65 5 [(2, 94), (2, x1), (0, x2)] [(0, 0)] h Q
      refine w_ifne (t := 10) gz_65_5 rfl (fun u4 => by exfalso; omega) (fun u4 => ?_)
      refine w_iconst gz_65_8 (by decide) ?_
      exact w_bret gz_65_9 gm_65 (by omega) (by omega) (k0 h (my_fr.rf))
    ·
      refine w_aload_n gz_66_10 rfl ?_
      refine w_getX (v := 27) gz_66_11 is_94 rd_2 rfl (by decide) rfl ?_
      refine w_iload_n gz_66_14 rfl ?_
      refine w_aald gz_66_15 is_27 rd_22 rfl (by omega) (by omega) (fun v6 ev6 tv6 => ?_)
      refine v_getI (j := 0) gz_66_16 rfl tv6 rd_4 rfl (fun v7 ev7 pv7 qv7 => ?_)
      refine w_ifeq (t := 26) gz_66_19 rfl (fun u8 => ?_) (fun u8 => ?_)
      ·
        refine w_iconst gz_66_26 (by decide) ?_
        refine w_bret gz_66_27 gm_66 (by omega) (by omega) ?_
        show wp l rho (d + 4) 65 5 [(2, 94), (2, x1), (0, x2)] [(0, 0)] h Q
        refine w_ifne (t := 10) gz_65_5 rfl (fun u9 => by exfalso; omega) (fun u9 => ?_)
        refine w_iconst gz_65_8 (by decide) ?_
        exact w_bret gz_65_9 gm_65 (by omega) (by omega) (k0 h (my_fr.rf))
      ·
        refine w_iconst gz_66_22 (by decide) ?_
        refine w_goto (t := 27) gz_66_23 rfl ?_
        refine w_bret gz_66_27 gm_66 (by omega) (by omega) ?_
        show wp l rho (d + 4) 65 5 [(2, 94), (2, x1), (0, x2)] [(0, 1)] h Q
        refine w_ifne (t := 10) gz_65_5 rfl (fun u10 => ?_) (fun u10 => by exfalso; omega)
        refine w_aload_n gz_65_10 rfl ?_
        refine w_getX (v := 98) gz_65_11 is_94 rd_2 rfl (by decide) rfl ?_
        refine w_aload_n gz_65_14 rfl ?_
        refine w_getX (v := 27) gz_65_15 is_94 rd_2 rfl (by decide) rfl ?_
        refine w_iload_n gz_65_18 rfl ?_
        refine w_aload_n gz_65_19 rfl ?_
        have Td_ht13 : Td h x2 := ⟨by omega, by omega, by subst_vars; omega⟩
        refine w_inv (k := 4) (as := [(2, x1), (0, x2), (2, 27)]) (r := []) (x := 98) (ls0 := [(2, 98), (2, 27), (0, x2), (2, x1), (9, 0), (9, 0), (9, 0), (9, 0)]) gz_65_20 gm_67 rfl is_98 rd_8 rfl rfl rfl rfl rfl (c_View_show (d := d) (x0 := 98) (x2 := x2) (x3 := x1) is_98 (by omega) (by omega) (by omega) (by omega) t1 n_Ln Td_ht13 (fun h14 v15 frh14 fxh14 w16 xp17 => ?_))
        have gh14 : my_fr [(8, 0), (8, 1), (42, -1), (43, -1), (44, -1)] h h14 := my_fr.tr my_fr.rf (frh14.mo rfl)
        have Ln_h14 : Ln h14 := Ln_ag (my_ag.fr frh14 rfl) n_Ln
        have Td_h14 : Td h14 x2 := Td_ag (my_ag.fr frh14 rfl) n_Ln Td_ht13
        show wp l rho (d + 4) 65 23 [(2, 94), (2, x1), (0, x2)] [(2, v15)] h14 Q
        refine w_pop gz_65_23 rfl ?_
        refine w_iconst gz_65_24 (by decide) ?_
        exact w_bret gz_65_25 gm_65 (by omega) (by omega) (k1 h14 (gh14) (by omega) (by omega) (by first | assumption | omega | exact Td_h14 | (subst_vars; omega)) (by first | assumption | omega | exact Td_h14 | (subst_vars; omega)))
theorem c_ThroughWindow_source {l : Launch} {rho : Nat → Int32} {d : Nat} {h : my_H} {Q : my_H → my_V → Prop} {x1 x2 x3 x4 : Int} (n_Ln : Ln h) (k0 : ∀ (h' : my_H), my_fr [(8, 0), (8, 1), (42, -1), (43, -1), (44, -1)] h h' → Ln h' → Q h' (0, (-1))) (k1 : ∀ (h' : my_H) (y : Int), my_fr [(8, 0), (8, 1), (42, -1), (43, -1), (44, -1)] h h' → 0 ≤ y → y ≤ 19 → 0 ≤ x1 → x1 ≤ 5 → 0 ≤ x2 → x2 ≤ 10 → 0 ≤ x3 → x3 ≤ 7 → 0 ≤ x4 → x4 ≤ 2 → Ln h' → Q h' (0, y)) : wp l rho (d + 5) 82 0 [(2, 0), (0, x1), (0, x2), (0, x3), (0, x4), (9, 0), (9, 0)] [] h Q := by
  refine w_aload_n gz_82_0 rfl ?_
  refine w_getX (v := 94) gz_82_1 is_0 rd_9 rfl (by decide) rfl ?_
  refine w_getX (v := 98) gz_82_4 is_94 rd_2 rfl (by decide) rfl ?_
  refine w_astore (ls' := [(2, 0), (0, x1), (0, x2), (0, x3), (0, x4), (2, 98), (9, 0)]) gz_82_7 gm_82 rfl rfl rfl ?_
  refine w_aload_n gz_82_9 rfl ?_
  refine w_getX (v := 94) gz_82_10 is_0 rd_9 rfl (by decide) rfl ?_
  refine w_aload_n gz_82_13 rfl ?_
  refine w_getX (v := 7) gz_82_14 is_0 rd_9 rfl (by decide) rfl ?_
  refine w_iload_n gz_82_17 rfl ?_
  refine w_inv (k := 0) (as := [(0, x1), (2, 7)]) (r := []) (x := 94) (ls0 := [(2, 94), (2, 7), (0, x1)]) gz_82_18 gm_65 rfl is_94 rd_2 rfl rfl rfl rfl rfl (c_Desk_looks (d := d) (x1 := 7) (x2 := x1) is_7 n_Ln (fun h5 frh5 => ?_) (fun h6 frh6 w7 w8 xp9 xp10 => ?_))
  ·
    have gh5 : my_fr [(8, 0), (8, 1), (42, -1), (43, -1), (44, -1)] h h5 := my_fr.tr my_fr.rf (frh5.mo rfl)
    have Ln_h5 : Ln h5 := Ln_ag (my_ag.fr frh5 rfl) n_Ln
    show wp l rho (d + 5) 82 21 [(2, 0), (0, x1), (0, x2), (0, x3), (0, x4), (2, 98), (9, 0)] [(0, 0)] h5 Q
    refine w_ifeq (t := 34) gz_82_21 rfl (fun u11 => ?_) (fun u11 => by exfalso; omega)
    refine w_iconst gz_82_34 (by decide) ?_
    exact w_iret gz_82_35 gm_82 (k0 h5 (gh5) Ln_h5)
  ·
    have gh6 : my_fr [(8, 0), (8, 1), (42, -1), (43, -1), (44, -1)] h h6 := my_fr.tr my_fr.rf (frh6.mo rfl)
    have Ln_h6 : Ln h6 := Ln_ag (my_ag.fr frh6 rfl) n_Ln
    show wp l rho (d + 5) 82 21 [(2, 0), (0, x1), (0, x2), (0, x3), (0, x4), (2, 98), (9, 0)] [(0, 1)] h6 Q
    refine w_ifeq (t := 34) gz_82_21 rfl (fun u12 => by exfalso; omega) (fun u12 => ?_)
    refine w_aload gz_82_24 rfl ?_
    refine w_iload_n gz_82_26 rfl ?_
    refine w_iload_n gz_82_27 rfl ?_
    refine w_inv (k := 0) (as := [(0, x3), (0, x2)]) (r := []) (x := 98) (ls0 := [(2, 98), (0, x2), (0, x3)]) gz_82_28 gm_81 rfl is_98 rd_8 rfl rfl rfl rfl rfl ?_
    refine w_iload_n gz_81_0 rfl ?_
    refine w_iflt (t := 28) gz_81_1 rfl (fun u13 => ?_) (fun u13 => ?_)
    ·
      refine w_iconst gz_81_28 (by decide) ?_
      refine w_bret gz_81_29 gm_81 (by omega) (by omega) ?_
      show wp l rho (d + 5) 82 31 [(2, 0), (0, x1), (0, x2), (0, x3), (0, x4), (2, 98), (9, 0)] [(0, 0)] h6 Q
      refine w_ifne (t := 36) gz_82_31 rfl (fun u14 => by exfalso; omega) (fun u14 => ?_)
      refine w_iconst gz_82_34 (by decide) ?_
      exact w_iret gz_82_35 gm_82 (k0 h6 (gh6) Ln_h6)
    ·
      refine w_iload_n gz_81_4 rfl ?_
      refine w_aload_n gz_81_5 rfl ?_
      refine v_getI (j := 0) gz_81_6 rfl is_98 rd_8 rfl (fun v15 ev15 pv15 qv15 => ?_)
      refine w_icge (t := 28) gz_81_9 rfl (fun u16 => ?_) (fun u16 => ?_)
      ·
        refine w_iconst gz_81_28 (by decide) ?_
        refine w_bret gz_81_29 gm_81 (by omega) (by omega) ?_
        show wp l rho (d + 5) 82 31 [(2, 0), (0, x1), (0, x2), (0, x3), (0, x4), (2, 98), (9, 0)] [(0, 0)] h6 Q
        refine w_ifne (t := 36) gz_82_31 rfl (fun u17 => by exfalso; omega) (fun u17 => ?_)
        refine w_iconst gz_82_34 (by decide) ?_
        exact w_iret gz_82_35 gm_82 (k0 h6 (gh6) Ln_h6)
      ·
        refine w_iload_n gz_81_12 rfl ?_
        refine w_iflt (t := 28) gz_81_13 rfl (fun u18 => ?_) (fun u18 => ?_)
        ·
          refine w_iconst gz_81_28 (by decide) ?_
          refine w_bret gz_81_29 gm_81 (by omega) (by omega) ?_
          show wp l rho (d + 5) 82 31 [(2, 0), (0, x1), (0, x2), (0, x3), (0, x4), (2, 98), (9, 0)] [(0, 0)] h6 Q
          refine w_ifne (t := 36) gz_82_31 rfl (fun u19 => by exfalso; omega) (fun u19 => ?_)
          refine w_iconst gz_82_34 (by decide) ?_
          exact w_iret gz_82_35 gm_82 (k0 h6 (gh6) Ln_h6)
        ·
          refine w_iload_n gz_81_16 rfl ?_
          refine w_aload_n gz_81_17 rfl ?_
          refine v_getI (j := 1) gz_81_18 rfl is_98 rd_8 rfl (fun v20 ev20 pv20 qv20 => ?_)
          refine w_icge (t := 28) gz_81_21 rfl (fun u21 => ?_) (fun u21 => ?_)
          ·
            refine w_iconst gz_81_28 (by decide) ?_
            refine w_bret gz_81_29 gm_81 (by omega) (by omega) ?_
            show wp l rho (d + 5) 82 31 [(2, 0), (0, x1), (0, x2), (0, x3), (0, x4), (2, 98), (9, 0)] [(0, 0)] h6 Q
            refine w_ifne (t := 36) gz_82_31 rfl (fun u22 => by exfalso; omega) (fun u22 => ?_)
            refine w_iconst gz_82_34 (by decide) ?_
            exact w_iret gz_82_35 gm_82 (k0 h6 (gh6) Ln_h6)
          ·
            refine w_iconst gz_81_24 (by decide) ?_
            refine w_goto (t := 29) gz_81_25 rfl ?_
            refine w_bret gz_81_29 gm_81 (by omega) (by omega) ?_
            show wp l rho (d + 5) 82 31 [(2, 0), (0, x1), (0, x2), (0, x3), (0, x4), (2, 98), (9, 0)] [(0, 1)] h6 Q
            refine w_ifne (t := 36) gz_82_31 rfl (fun u23 => ?_) (fun u23 => by exfalso; omega)
            refine w_aload gz_82_36 rfl ?_
            refine w_iload_n gz_82_38 rfl ?_
            refine w_iload_n gz_82_39 rfl ?_
            refine w_inv (k := 0) (as := [(0, x3), (0, x2)]) (r := []) (x := 98) (ls0 := [(2, 98), (0, x2), (0, x3)]) gz_82_40 gm_83 rfl is_98 rd_8 rfl rfl rfl rfl rfl ?_
            refine w_aload_n gz_83_0 rfl ?_
            refine w_getX (v := 99) gz_83_1 is_98 rd_8 rfl (by decide) rfl ?_
            refine w_iload_n gz_83_4 rfl ?_
            refine w_bipush gz_83_5 (by decide) ?_
            refine w_imul gz_83_7 ⟨by omega, by omega⟩ ?_
            refine w_bipush gz_83_8 (by decide) ?_
            refine w_iadd gz_83_10 ⟨by omega, by omega⟩ ?_
            refine w_iload_n gz_83_11 rfl ?_
            refine w_iadd gz_83_12 ⟨by omega, by omega⟩ ?_
            refine w_gldS gz_83_13 is_99 rd_42 (by omega) (by omega) (by omega) (by omega) (fun v25 ev25 pv25 qv25 => ?_)
            refine w_iret gz_83_14 gm_83 ?_
            show wp l rho (d + 5) 82 43 [(2, 0), (0, x1), (0, x2), (0, x3), (0, x4), (2, 98), (9, 0)] [(0, v25)] h6 Q
            refine w_istore (ls' := [(2, 0), (0, x1), (0, x2), (0, x3), (0, x4), (2, 98), (0, v25)]) gz_82_43 gm_82 rfl rfl rfl ?_
            refine w_iload gz_82_45 rfl ?_
            refine w_iconst gz_82_47 (by decide) ?_
            refine w_icne (t := 53) gz_82_48 rfl (fun u26 => ?_) (fun u26 => ?_)
            ·
              refine w_iload gz_82_53 rfl ?_
              by_cases u27 : x4 = 0
              ·
                refine w_tswE (t := 80) gz_82_55 u27 (by decide) (by decide) rfl rfl ?_
                refine w_iload gz_82_80 rfl ?_
                refine w_bipush gz_82_82 (by decide) ?_
                refine w_idiv gz_82_84 (by omega) (by decide) ?_
                exact w_iret gz_82_85 gm_82 (k1 h6 ((v25 / 80)) (gh6) (by omega) (by omega) (by omega) (by omega) (by omega) (by omega) (by omega) (by omega) (by omega) (by omega) Ln_h6)
              ·
                by_cases u28 : x4 = 1
                ·
                  refine w_tswE (t := 86) gz_82_55 u28 (by decide) (by decide) rfl rfl ?_
                  refine w_iload gz_82_86 rfl ?_
                  refine w_iconst gz_82_88 (by decide) ?_
                  refine w_idiv gz_82_89 (by omega) (by decide) ?_
                  refine w_bipush gz_82_90 (by decide) ?_
                  refine w_irem gz_82_92 (by omega) (by decide) ?_
                  exact w_iret gz_82_93 gm_82 (k1 h6 (((v25 / 4) % 20)) (gh6) (by omega) (by omega) (by omega) (by omega) (by omega) (by omega) (by omega) (by omega) (by omega) (by omega) Ln_h6)
                ·
                  by_cases u29 : x4 = 2
                  ·
                    refine w_tswE (t := 94) gz_82_55 u29 (by decide) (by decide) rfl rfl ?_
                    refine w_iload gz_82_94 rfl ?_
                    refine w_iconst gz_82_96 (by decide) ?_
                    refine w_irem gz_82_97 (by omega) (by decide) ?_
                    exact w_iret gz_82_98 gm_82 (k1 h6 ((v25 % 4)) (gh6) (by omega) (by omega) (by omega) (by omega) (by omega) (by omega) (by omega) (by omega) (by omega) (by omega) Ln_h6)
                  ·
                    refine w_tswD (t := 99) gz_82_55 (by omega) rfl ?_
                    refine w_iconst gz_82_99 (by decide) ?_
                    exact w_iret gz_82_100 gm_82 (k0 h6 (gh6) Ln_h6)
            ·
              refine w_iconst gz_82_51 (by decide) ?_
              exact w_iret gz_82_52 gm_82 (k0 h6 (gh6) Ln_h6)
theorem c_ThroughWindow_look {l : Launch} {rho : Nat → Int32} {d : Nat} {h : my_H} {Q : my_H → my_V → Prop} {x1 x2 : Int} (n_Ln : Ln h) (k0 : ∀ (h' : my_H), my_fr [(8, 0), (8, 1), (42, -1), (43, -1), (44, -1)] h h' → Ln h' → Q h' (0, (-1))) (k1 : ∀ (h' : my_H) (y : Int), my_fr [(8, 0), (8, 1), (42, -1), (43, -1), (44, -1)] h h' → 0 ≤ x1 → x1 ≤ 5 → 0 ≤ x2 → x2 ≤ 4 → Ln h' → Q h' (0, y)) : wp l rho (d + 5) 84 0 [(2, 0), (0, x1), (0, x2), (9, 0)] [] h Q := by
  refine w_aload_n gz_84_0 rfl ?_
  refine w_getX (v := 94) gz_84_1 is_0 rd_9 rfl (by decide) rfl ?_
  refine w_aload_n gz_84_4 rfl ?_
  refine w_getX (v := 7) gz_84_5 is_0 rd_9 rfl (by decide) rfl ?_
  refine w_iload_n gz_84_8 rfl ?_
  refine w_inv (k := 0) (as := [(0, x1), (2, 7)]) (r := []) (x := 94) (ls0 := [(2, 94), (2, 7), (0, x1)]) gz_84_9 gm_65 rfl is_94 rd_2 rfl rfl rfl rfl rfl (c_Desk_looks (d := d) (x1 := 7) (x2 := x1) is_7 n_Ln (fun h3 frh3 => ?_) (fun h4 frh4 w5 w6 xp7 xp8 => ?_))
  ·
    have gh3 : my_fr [(8, 0), (8, 1), (42, -1), (43, -1), (44, -1)] h h3 := my_fr.tr my_fr.rf (frh3.mo rfl)
    have Ln_h3 : Ln h3 := Ln_ag (my_ag.fr frh3 rfl) n_Ln
    show wp l rho (d + 5) 84 12 [(2, 0), (0, x1), (0, x2), (9, 0)] [(0, 0)] h3 Q
    refine w_ifne (t := 17) gz_84_12 rfl (fun u9 => by exfalso; omega) (fun u9 => ?_)
    refine w_iconst gz_84_15 (by decide) ?_
    exact w_iret gz_84_16 gm_84 (k0 h3 (gh3) Ln_h3)
  ·
    have gh4 : my_fr [(8, 0), (8, 1), (42, -1), (43, -1), (44, -1)] h h4 := my_fr.tr my_fr.rf (frh4.mo rfl)
    have Ln_h4 : Ln h4 := Ln_ag (my_ag.fr frh4 rfl) n_Ln
    show wp l rho (d + 5) 84 12 [(2, 0), (0, x1), (0, x2), (9, 0)] [(0, 1)] h4 Q
    refine w_ifne (t := 17) gz_84_12 rfl (fun u10 => ?_) (fun u10 => by exfalso; omega)
    refine w_aload_n gz_84_17 rfl ?_
    refine w_getX (v := 27) gz_84_18 is_0 rd_9 rfl (by decide) rfl ?_
    refine w_iload_n gz_84_21 rfl ?_
    refine w_aald gz_84_22 is_27 rd_22 rfl (by omega) (by omega) (fun v12 ev12 tv12 => ?_)
    refine w_astore_n (ls' := [(2, 0), (0, x1), (0, x2), (2, v12)]) gz_84_23 gm_84 rfl rfl rfl ?_
    refine w_iload_n gz_84_24 rfl ?_
    by_cases u13 : x2 = 0
    ·
      refine w_tswE (t := 60) gz_84_25 u13 (by decide) (by decide) rfl rfl ?_
      refine w_aload_n gz_84_60 rfl ?_
      refine w_getX (v := 94) gz_84_61 is_0 rd_9 rfl (by decide) rfl ?_
      refine w_getX (v := 98) gz_84_64 is_94 rd_2 rfl (by decide) rfl ?_
      refine v_getI (j := 0) gz_84_67 rfl is_98 rd_8 rfl (fun v16 ev16 pv16 qv16 => ?_)
      exact w_iret gz_84_70 gm_84 (k1 h4 (v16) (gh4) (by omega) (by omega) (by omega) (by omega) Ln_h4)
    ·
      by_cases u17 : x2 = 1
      ·
        refine w_tswE (t := 71) gz_84_25 u17 (by decide) (by decide) rfl rfl ?_
        refine w_aload_n gz_84_71 rfl ?_
        refine v_getI (j := 4) gz_84_72 rfl tv12 rd_4 rfl (fun v18 ev18 pv18 qv18 => ?_)
        exact w_iret gz_84_75 gm_84 (k1 h4 (v18) (gh4) (by omega) (by omega) (by omega) (by omega) Ln_h4)
      ·
        by_cases u19 : x2 = 2
        ·
          refine w_tswE (t := 76) gz_84_25 u19 (by decide) (by decide) rfl rfl ?_
          refine w_aload_n gz_84_76 rfl ?_
          refine v_getI (j := 5) gz_84_77 rfl tv12 rd_4 rfl (fun v20 ev20 pv20 qv20 => ?_)
          exact w_iret gz_84_80 gm_84 (k1 h4 (v20) (gh4) (by omega) (by omega) (by omega) (by omega) Ln_h4)
        ·
          by_cases u21 : x2 = 3
          ·
            refine w_tswE (t := 81) gz_84_25 u21 (by decide) (by decide) rfl rfl ?_
            refine w_aload_n gz_84_81 rfl ?_
            refine v_getI (j := 2) gz_84_82 rfl tv12 rd_4 rfl (fun v22 ev22 pv22 qv22 => ?_)
            exact w_iret gz_84_85 gm_84 (k1 h4 (v22) (gh4) (by omega) (by omega) (by omega) (by omega) Ln_h4)
          ·
            by_cases u23 : x2 = 4
            ·
              refine w_tswE (t := 86) gz_84_25 u23 (by decide) (by decide) rfl rfl ?_
              refine w_aload_n gz_84_86 rfl ?_
              refine v_getI (j := 6) gz_84_87 rfl tv12 rd_4 rfl (fun v24 ev24 pv24 qv24 => ?_)
              exact w_iret gz_84_90 gm_84 (k1 h4 (v24) (gh4) (by omega) (by omega) (by omega) (by omega) Ln_h4)
            ·
              refine w_tswD (t := 91) gz_84_25 (by omega) rfl ?_
              refine w_iconst gz_84_91 (by decide) ?_
              exact w_iret gz_84_92 gm_84 (k0 h4 (gh4) Ln_h4)
theorem c_Desk_opens {l : Launch} {rho : Nat → Int32} {d : Nat} {h : my_H} {Q : my_H → my_V → Prop} {x1 x2 x3 x4 x5 x6 : Int} (t1 : my_is 6 x1) (n_Ln : Ln h) (k0 : ∀ (h' : my_H), my_fr [(2, 15), (2, 16), (8, 0), (8, 1), (42, -1), (43, -1), (44, -1)] h h' → Q h' (0, 0)) (k1 : ∀ (h' : my_H), my_fr [(2, 15), (2, 16), (8, 0), (8, 1), (42, -1), (43, -1), (44, -1)] h h' → 0 ≤ x2 → x2 ≤ 5 → 0 ≤ x3 → x3 ≤ 2 → 0 ≤ h' 94 15 → h' 94 15 ≤ 2 → h' 94 15 = x3 → h' 94 16 = x4 → (x3 ≠ 2 → 0 ≤ x4 ∧ x4 ≤ 9) → (x3 = 0 → 0 ≤ x5 ∧ x5 ≤ 7 ∧ 0 ≤ x6 ∧ x6 ≤ 199) → Td h' x2 → Q h' (0, 1)) : wp l rho (d + 5) 87 0 [(2, 94), (2, x1), (0, x2), (0, x3), (0, x4), (0, x5), (0, x6)] [] h Q := by
  refine w_iload_n gz_87_0 rfl ?_
  refine w_iflt (t := 18) gz_87_1 rfl (fun u1 => ?_) (fun u1 => ?_)
  ·
    refine w_iconst gz_87_18 (by decide) ?_
    exact w_bret gz_87_19 gm_87 (by omega) (by omega) (k0 h (my_fr.rf))
  ·
    refine w_iload_n gz_87_4 rfl ?_
    refine w_iconst gz_87_5 (by decide) ?_
    refine w_icgt (t := 18) gz_87_6 rfl (fun u2 => ?_) (fun u2 => ?_)
    ·
      refine w_iconst gz_87_18 (by decide) ?_
      exact w_bret gz_87_19 gm_87 (by omega) (by omega) (k0 h (my_fr.rf))
    ·
      refine w_aload_n gz_87_9 rfl ?_
      refine w_aload_n gz_87_10 rfl ?_
      refine w_iload_n gz_87_11 rfl ?_
      refine w_inv (k := 0) (as := [(0, x2), (2, x1)]) (r := []) (x := 94) (ls0 := [(2, 94), (2, x1), (0, x2)]) gz_87_12 gm_65 rfl is_94 rd_2 rfl rfl rfl rfl rfl (c_Desk_looks (d := d) (x1 := x1) (x2 := x2) t1 n_Ln (fun h3 frh3 => ?_) (fun h4 frh4 w5 w6 xp7 xp8 => ?_))
      ·
        have gh3 : my_fr [(2, 15), (2, 16), (8, 0), (8, 1), (42, -1), (43, -1), (44, -1)] h h3 := my_fr.tr my_fr.rf (frh3.mo rfl)
        have Ln_h3 : Ln h3 := Ln_ag (my_ag.fr frh3 rfl) n_Ln
        show wp l rho (d + 5) 87 15 [(2, 94), (2, x1), (0, x2), (0, x3), (0, x4), (0, x5), (0, x6)] [(0, 0)] h3 Q
        refine w_ifne (t := 20) gz_87_15 rfl (fun u9 => by exfalso; omega) (fun u9 => ?_)
        refine w_iconst gz_87_18 (by decide) ?_
        have ce10 : h3 94 15 = h 94 15 := ((my_fr.at frh3 is_94 rfl).trans (rfl : h 94 15 = h 94 15))
        have ce11 : h3 94 16 = h 94 16 := ((my_fr.at frh3 is_94 rfl).trans (rfl : h 94 16 = h 94 16))
        exact w_bret gz_87_19 gm_87 (by omega) (by omega) (k0 h3 (gh3))
      ·
        have gh4 : my_fr [(2, 15), (2, 16), (8, 0), (8, 1), (42, -1), (43, -1), (44, -1)] h h4 := my_fr.tr my_fr.rf (frh4.mo rfl)
        have Ln_h4 : Ln h4 := Ln_ag (my_ag.fr frh4 rfl) n_Ln
        show wp l rho (d + 5) 87 15 [(2, 94), (2, x1), (0, x2), (0, x3), (0, x4), (0, x5), (0, x6)] [(0, 1)] h4 Q
        have Td_h4t12 : Td h4 x2 := xp8
        refine w_ifne (t := 20) gz_87_15 rfl (fun u13 => ?_) (fun u13 => by exfalso; omega)
        refine w_iload_n gz_87_20 rfl ?_
        refine w_iconst gz_87_21 (by decide) ?_
        refine w_iceq (t := 44) gz_87_22 rfl (fun u14 => ?_) (fun u14 => ?_)
        ·
          refine w_iload_n gz_87_44 rfl ?_
          refine w_ifne (t := 77) gz_87_45 rfl (fun u15 => ?_) (fun u15 => by exfalso; omega)
          refine w_aload_n gz_87_77 rfl ?_
          refine w_iload_n gz_87_78 rfl ?_
          refine v_putI (j := 15) gz_87_79 rfl is_94 rd_2 rfl (by omega) (by omega) rfl (fun h16 fh16 => ?_)
          have gh16 : my_fr [(2, 15), (2, 16), (8, 0), (8, 1), (42, -1), (43, -1), (44, -1)] h h16 := my_fr.up gh4 is_94 fh16 rfl
          have Ln_h16 : Ln h16 := Ln_ag (my_ag.up fh16 is_94 rfl) Ln_h4
          have Td_h16 : Td h16 x2 := Td_ag (my_ag.up fh16 is_94 rfl) Ln_h4 Td_h4t12
          refine w_aload_n gz_87_82 rfl ?_
          refine w_iload gz_87_83 rfl ?_
          refine v_putA (j := 16) gz_87_85 rfl is_94 rd_2 rfl rfl (fun h17 fh17 => ?_)
          have gh17 : my_fr [(2, 15), (2, 16), (8, 0), (8, 1), (42, -1), (43, -1), (44, -1)] h h17 := my_fr.up gh16 is_94 fh17 rfl
          have Ln_h17 : Ln h17 := Ln_ag (my_ag.up fh17 is_94 rfl) Ln_h16
          have Td_h17 : Td h17 x2 := Td_ag (my_ag.up fh17 is_94 rfl) Ln_h16 Td_h16
          have ce18 : h17 98 0 = h4 98 0 := ((my_up_role fh17 is_98 is_94 rfl).trans ((my_up_role fh16 is_98 is_94 rfl).trans (rfl : h4 98 0 = h4 98 0)))
          refine w_aload_n gz_87_88 rfl ?_
          refine w_getX (v := 102) gz_87_89 is_94 rd_2 rfl (by decide) rfl ?_
          refine w_aload_n gz_87_92 rfl ?_
          refine w_getX (v := 98) gz_87_93 is_94 rd_2 rfl (by decide) rfl ?_
          refine w_inv (k := 0) (as := [(2, 98)]) (r := []) (x := 102) (ls0 := [(2, 102), (2, 98)]) gz_87_96 gm_88 rfl is_102 rd_8 rfl rfl rfl rfl rfl ?_
          refine w_aload_n gz_88_0 rfl ?_
          refine w_aload_n gz_88_1 rfl ?_
          refine v_getI (j := 0) gz_88_2 rfl is_98 rd_8 rfl (fun v21 ev21 pv21 qv21 => ?_)
          refine v_putI (j := 0) gz_88_5 rfl is_102 rd_8 rfl (by omega) (by omega) rfl (fun h22 fh22 => ?_)
          have gh22 : my_fr [(2, 15), (2, 16), (8, 0), (8, 1), (42, -1), (43, -1), (44, -1)] h h22 := my_fr.up gh17 is_102 fh22 rfl
          have Ln_h22 : Ln h22 := Ln_ag (my_ag.up fh22 is_102 rfl) Ln_h17
          have Td_h22 : Td h22 x2 := Td_ag (my_ag.up fh22 is_102 rfl) Ln_h17 Td_h17
          refine w_aload_n gz_88_8 rfl ?_
          refine w_aload_n gz_88_9 rfl ?_
          refine v_getI (j := 1) gz_88_10 rfl is_98 rd_8 rfl (fun v23 ev23 pv23 qv23 => ?_)
          refine v_putI (j := 1) gz_88_13 rfl is_102 rd_8 rfl (by omega) (by omega) rfl (fun h24 fh24 => ?_)
          have gh24 : my_fr [(2, 15), (2, 16), (8, 0), (8, 1), (42, -1), (43, -1), (44, -1)] h h24 := my_fr.up gh22 is_102 fh24 rfl
          have Ln_h24 : Ln h24 := Ln_ag (my_ag.up fh24 is_102 rfl) Ln_h22
          have Td_h24 : Td h24 x2 := Td_ag (my_ag.up fh24 is_102 rfl) Ln_h22 Td_h22
          refine w_aload_n gz_88_16 rfl ?_
          refine w_getX (v := 99) gz_88_17 is_98 rd_8 rfl (by decide) rfl ?_
          refine w_iconst gz_88_20 (by decide) ?_
          refine w_aload_n gz_88_21 rfl ?_
          refine w_getX (v := 103) gz_88_22 is_102 rd_8 rfl (by decide) rfl ?_
          refine w_iconst gz_88_25 (by decide) ?_
          refine w_aload_n gz_88_26 rfl ?_
          refine w_getX (v := 103) gz_88_27 is_102 rd_8 rfl (by decide) rfl ?_
          refine v_alen (j := 204) gz_88_30 rfl is_103 rd_42 (by decide) ?_
          refine w_cpG gz_88_31 is_99 rd_42 is_103 rd_42 (by omega) (by omega) (by omega) (by omega) (by omega) rfl (by omega) (fun h28 fh28 => ?_)
          have gh28 : my_fr [(2, 15), (2, 16), (8, 0), (8, 1), (42, -1), (43, -1), (44, -1)] h h28 := my_fr.cp gh24 is_103 fh28 rfl
          have Ln_h28 : Ln h28 := Ln_ag (my_ag.cp fh28 is_103 rfl) Ln_h24
          have Td_h28 : Td h28 x2 := Td_ag (my_ag.cp fh28 is_103 rfl) Ln_h24 Td_h24
          refine w_vret gz_88_34 gm_88 ?_
          show wp l rho (d + 5) 87 99 [(2, 94), (2, x1), (0, x2), (0, x3), (0, x4), (0, x5), (0, x6)] [] h28 Q
          have ce29 : h28 98 0 = v21 := ((my_cp_role fh28 is_98 is_103 rfl).trans ((my_up_fld fh24 (by decide)).trans ((my_up_ne fh22 (by omega)).trans ev21.symm)))
          have ce30 : h28 102 0 = v21 := ((my_cp_role fh28 is_102 is_103 rfl).trans ((my_up_fld fh24 (by decide)).trans (my_up_self fh22)))
          refine w_iload_n gz_87_99 rfl ?_
          refine w_ifne (t := 119) gz_87_100 rfl (fun u31 => ?_) (fun u31 => by exfalso; omega)
          refine w_iload_n gz_87_119 rfl ?_
          refine w_iconst gz_87_120 (by decide) ?_
          refine w_icne (t := 136) gz_87_121 rfl (fun u32 => ?_) (fun u32 => by exfalso; omega)
          refine w_aload_n gz_87_136 rfl ?_
          refine w_getX (v := 102) gz_87_137 is_94 rd_2 rfl (by decide) rfl ?_
          refine w_aload_n gz_87_140 rfl ?_
          refine w_getX (v := 93) gz_87_141 is_94 rd_2 rfl (by decide) rfl ?_
          refine w_inv (k := 0) (as := [(2, 93)]) (r := []) (x := 102) (ls0 := [(2, 102), (2, 93)]) gz_87_144 gm_91 rfl is_102 rd_8 rfl rfl rfl rfl rfl ?_
          refine w_aload_n gz_91_0 rfl ?_
          refine w_iconst gz_91_1 (by decide) ?_
          refine w_aload_n gz_91_2 rfl ?_
          refine w_getX (v := 103) gz_91_3 is_102 rd_8 rfl (by decide) rfl ?_
          refine w_aload_n gz_91_6 rfl ?_
          refine v_getI (j := 0) gz_91_7 rfl is_102 rd_8 rfl (fun v36 ev36 pv36 qv36 => ?_)
          have zv36 := ev36.trans ((my_cp_role fh28 is_102 is_103 rfl).trans ((my_up_fld fh24 (by decide)).trans (my_up_self fh22)))
          refine w_bipush gz_91_10 (by decide) ?_
          refine w_imul gz_91_12 ⟨by omega, by omega⟩ ?_
          refine w_aload_n gz_91_13 rfl ?_
          refine v_getI (j := 1) gz_91_14 rfl is_102 rd_8 rfl (fun v37 ev37 pv37 qv37 => ?_)
          have zv37 := ev37.trans ((my_cp_role fh28 is_102 is_103 rfl).trans (my_up_self fh24))
          refine w_cpV gz_91_17 is_93 rd_23 is_103 rd_42 (by omega) (by omega) (by omega) (by omega) (by omega) rfl (by omega) (fun h38 fh38 => ?_)
          have gh38 : my_fr [(2, 15), (2, 16), (8, 0), (8, 1), (42, -1), (43, -1), (44, -1)] h h38 := my_fr.cp gh28 is_103 fh38 rfl
          have Ln_h38 : Ln h38 := Ln_ag (my_ag.cp fh38 is_103 rfl) Ln_h28
          have Td_h38 : Td h38 x2 := Td_ag (my_ag.cp fh38 is_103 rfl) Ln_h28 Td_h28
          refine w_aload_n gz_91_20 rfl ?_
          refine w_dup gz_91_21 rfl ?_
          refine v_getI (j := 0) gz_91_22 rfl is_102 rd_8 rfl (fun v39 ev39 pv39 qv39 => ?_)
          have zv39 := ev39.trans ((my_cp_role fh38 is_102 is_103 rfl).trans ev36.symm)
          refine w_iconst gz_91_25 (by decide) ?_
          refine w_iadd gz_91_26 ⟨by omega, by omega⟩ ?_
          have hi40 : 0 ≤ (v39 + 1) := by omega
          have hi41 : (v39 + 1) ≤ 11 := by omega
          refine v_putI (j := 0) gz_91_27 rfl is_102 rd_8 rfl (by omega) (by omega) rfl (fun h42 fh42 => ?_)
          have gh42 : my_fr [(2, 15), (2, 16), (8, 0), (8, 1), (42, -1), (43, -1), (44, -1)] h h42 := my_fr.up gh38 is_102 fh42 rfl
          have Ln_h42 : Ln h42 := Ln_ag (my_ag.up fh42 is_102 rfl) Ln_h38
          have Td_h42 : Td h42 x2 := Td_ag (my_ag.up fh42 is_102 rfl) Ln_h38 Td_h38
          refine w_vret gz_91_30 gm_91 ?_
          show wp l rho (d + 5) 87 147 [(2, 94), (2, x1), (0, x2), (0, x3), (0, x4), (0, x5), (0, x6)] [] h42 Q
          refine w_aload_n gz_87_147 rfl ?_
          refine w_getX (v := 102) gz_87_148 is_94 rd_2 rfl (by decide) rfl ?_
          refine w_inv (k := 3) (as := []) (r := []) (x := 102) (ls0 := [(2, 102), (9, 0), (9, 0), (9, 0)]) gz_87_151 gm_79 rfl is_102 rd_8 rfl rfl rfl rfl rfl (c_View_sort (d := (d + 2)) (x0 := 102) is_102 (fun h44 frh44 fxh44 xp45 xp46 => ?_))
          have gh44 : my_fr [(2, 15), (2, 16), (8, 0), (8, 1), (42, -1), (43, -1), (44, -1)] h h44 := my_fr.tr gh42 (frh44.mo rfl)
          have Ln_h44 : Ln h44 := Ln_ag (my_ag.fr frh44 rfl) Ln_h42
          have Td_h44 : Td h44 x2 := Td_ag (my_ag.fr frh44 rfl) Ln_h42 Td_h42
          show wp l rho (d + 5) 87 154 [(2, 94), (2, x1), (0, x2), (0, x3), (0, x4), (0, x5), (0, x6)] [] h44 Q
          refine w_iconst gz_87_154 (by decide) ?_
          have ce47 : h44 94 15 = x3 := ((my_fr.at frh44 is_94 rfl).trans ((my_up_role fh42 is_94 is_102 rfl).trans ((my_cp_role fh38 is_94 is_103 rfl).trans ((my_cp_role fh28 is_94 is_103 rfl).trans ((my_up_role fh24 is_94 is_102 rfl).trans ((my_up_role fh22 is_94 is_102 rfl).trans ((my_up_fld fh17 (by decide)).trans (my_up_self fh16))))))))
          have ce48 : h44 94 16 = x4 := ((my_fr.at frh44 is_94 rfl).trans ((my_up_role fh42 is_94 is_102 rfl).trans ((my_cp_role fh38 is_94 is_103 rfl).trans ((my_cp_role fh28 is_94 is_103 rfl).trans ((my_up_role fh24 is_94 is_102 rfl).trans ((my_up_role fh22 is_94 is_102 rfl).trans (my_up_self fh17)))))))
          have c49 := ((my_fr.at frh44 is_94 rfl).trans ((my_up_role fh42 is_94 is_102 rfl).trans ((my_cp_role fh38 is_94 is_103 rfl).trans ((my_cp_role fh28 is_94 is_103 rfl).trans ((my_up_role fh24 is_94 is_102 rfl).trans ((my_up_role fh22 is_94 is_102 rfl).trans ((my_up_fld fh17 (by decide)).trans (my_up_self fh16))))))))
          exact w_bret gz_87_155 gm_87 (by omega) (by omega) (k1 h44 (gh44) (by omega) (by omega) (by omega) (by omega) (by omega) (by omega) (by first | assumption | omega | exact Td_h44 | (subst_vars; omega)) (by first | assumption | omega | exact Td_h44 | (subst_vars; omega)) (by first | assumption | omega | exact Td_h44 | (subst_vars; omega)) (by first | assumption | omega | exact Td_h44 | (subst_vars; omega)) (by first | assumption | omega | exact Td_h44 | (subst_vars; omega)))
        ·
          refine w_iload gz_87_25 rfl ?_
          refine w_iflt (t := 42) gz_87_27 rfl (fun u50 => ?_) (fun u50 => ?_)
          ·
            refine w_iconst gz_87_42 (by decide) ?_
            have ce51 : h4 94 15 = h 94 15 := ((my_fr.at frh4 is_94 rfl).trans (rfl : h 94 15 = h 94 15))
            have ce52 : h4 94 16 = h 94 16 := ((my_fr.at frh4 is_94 rfl).trans (rfl : h 94 16 = h 94 16))
            exact w_bret gz_87_43 gm_87 (by omega) (by omega) (k0 h4 (gh4))
          ·
            refine w_iload gz_87_30 rfl ?_
            refine w_aload_n gz_87_32 rfl ?_
            refine w_getX (v := 98) gz_87_33 is_94 rd_2 rfl (by decide) rfl ?_
            refine v_getI (j := 0) gz_87_36 rfl is_98 rd_8 rfl (fun v54 ev54 pv54 qv54 => ?_)
            have hi55 : 0 ≤ v54 := by omega
            have hi56 : v54 ≤ 10 := by omega
            refine w_iclt (t := 44) gz_87_39 rfl (fun u57 => ?_) (fun u57 => ?_)
            ·
              refine w_iload_n gz_87_44 rfl ?_
              refine w_ifne (t := 77) gz_87_45 rfl (fun u58 => ?_) (fun u58 => ?_)
              ·
                refine w_aload_n gz_87_77 rfl ?_
                refine w_iload_n gz_87_78 rfl ?_
                refine v_putI (j := 15) gz_87_79 rfl is_94 rd_2 rfl (by omega) (by omega) rfl (fun h59 fh59 => ?_)
                have gh59 : my_fr [(2, 15), (2, 16), (8, 0), (8, 1), (42, -1), (43, -1), (44, -1)] h h59 := my_fr.up gh4 is_94 fh59 rfl
                have Ln_h59 : Ln h59 := Ln_ag (my_ag.up fh59 is_94 rfl) Ln_h4
                have Td_h59 : Td h59 x2 := Td_ag (my_ag.up fh59 is_94 rfl) Ln_h4 Td_h4t12
                refine w_aload_n gz_87_82 rfl ?_
                refine w_iload gz_87_83 rfl ?_
                refine v_putA (j := 16) gz_87_85 rfl is_94 rd_2 rfl rfl (fun h60 fh60 => ?_)
                have gh60 : my_fr [(2, 15), (2, 16), (8, 0), (8, 1), (42, -1), (43, -1), (44, -1)] h h60 := my_fr.up gh59 is_94 fh60 rfl
                have Ln_h60 : Ln h60 := Ln_ag (my_ag.up fh60 is_94 rfl) Ln_h59
                have Td_h60 : Td h60 x2 := Td_ag (my_ag.up fh60 is_94 rfl) Ln_h59 Td_h59
                have ce61 : h60 98 0 = v54 := ((my_up_role fh60 is_98 is_94 rfl).trans ((my_up_role fh59 is_98 is_94 rfl).trans ev54.symm))
                refine w_aload_n gz_87_88 rfl ?_
                refine w_getX (v := 102) gz_87_89 is_94 rd_2 rfl (by decide) rfl ?_
                refine w_aload_n gz_87_92 rfl ?_
                refine w_getX (v := 98) gz_87_93 is_94 rd_2 rfl (by decide) rfl ?_
                refine w_inv (k := 0) (as := [(2, 98)]) (r := []) (x := 102) (ls0 := [(2, 102), (2, 98)]) gz_87_96 gm_88 rfl is_102 rd_8 rfl rfl rfl rfl rfl ?_
                refine w_aload_n gz_88_0 rfl ?_
                refine w_aload_n gz_88_1 rfl ?_
                refine v_getI (j := 0) gz_88_2 rfl is_98 rd_8 rfl (fun v64 ev64 pv64 qv64 => ?_)
                have zv64 := ev64.trans ((my_up_role fh60 is_98 is_94 rfl).trans ((my_up_role fh59 is_98 is_94 rfl).trans ev54.symm))
                refine v_putI (j := 0) gz_88_5 rfl is_102 rd_8 rfl (by omega) (by omega) rfl (fun h65 fh65 => ?_)
                have gh65 : my_fr [(2, 15), (2, 16), (8, 0), (8, 1), (42, -1), (43, -1), (44, -1)] h h65 := my_fr.up gh60 is_102 fh65 rfl
                have Ln_h65 : Ln h65 := Ln_ag (my_ag.up fh65 is_102 rfl) Ln_h60
                have Td_h65 : Td h65 x2 := Td_ag (my_ag.up fh65 is_102 rfl) Ln_h60 Td_h60
                refine w_aload_n gz_88_8 rfl ?_
                refine w_aload_n gz_88_9 rfl ?_
                refine v_getI (j := 1) gz_88_10 rfl is_98 rd_8 rfl (fun v66 ev66 pv66 qv66 => ?_)
                refine v_putI (j := 1) gz_88_13 rfl is_102 rd_8 rfl (by omega) (by omega) rfl (fun h67 fh67 => ?_)
                have gh67 : my_fr [(2, 15), (2, 16), (8, 0), (8, 1), (42, -1), (43, -1), (44, -1)] h h67 := my_fr.up gh65 is_102 fh67 rfl
                have Ln_h67 : Ln h67 := Ln_ag (my_ag.up fh67 is_102 rfl) Ln_h65
                have Td_h67 : Td h67 x2 := Td_ag (my_ag.up fh67 is_102 rfl) Ln_h65 Td_h65
                refine w_aload_n gz_88_16 rfl ?_
                refine w_getX (v := 99) gz_88_17 is_98 rd_8 rfl (by decide) rfl ?_
                refine w_iconst gz_88_20 (by decide) ?_
                refine w_aload_n gz_88_21 rfl ?_
                refine w_getX (v := 103) gz_88_22 is_102 rd_8 rfl (by decide) rfl ?_
                refine w_iconst gz_88_25 (by decide) ?_
                refine w_aload_n gz_88_26 rfl ?_
                refine w_getX (v := 103) gz_88_27 is_102 rd_8 rfl (by decide) rfl ?_
                refine v_alen (j := 204) gz_88_30 rfl is_103 rd_42 (by decide) ?_
                refine w_cpG gz_88_31 is_99 rd_42 is_103 rd_42 (by omega) (by omega) (by omega) (by omega) (by omega) rfl (by omega) (fun h71 fh71 => ?_)
                have gh71 : my_fr [(2, 15), (2, 16), (8, 0), (8, 1), (42, -1), (43, -1), (44, -1)] h h71 := my_fr.cp gh67 is_103 fh71 rfl
                have Ln_h71 : Ln h71 := Ln_ag (my_ag.cp fh71 is_103 rfl) Ln_h67
                have Td_h71 : Td h71 x2 := Td_ag (my_ag.cp fh71 is_103 rfl) Ln_h67 Td_h67
                refine w_vret gz_88_34 gm_88 ?_
                show wp l rho (d + 5) 87 99 [(2, 94), (2, x1), (0, x2), (0, x3), (0, x4), (0, x5), (0, x6)] [] h71 Q
                have ce72 : h71 98 0 = v64 := ((my_cp_role fh71 is_98 is_103 rfl).trans ((my_up_fld fh67 (by decide)).trans ((my_up_ne fh65 (by omega)).trans ev64.symm)))
                have ce73 : h71 102 0 = v64 := ((my_cp_role fh71 is_102 is_103 rfl).trans ((my_up_fld fh67 (by decide)).trans (my_up_self fh65)))
                refine w_iload_n gz_87_99 rfl ?_
                refine w_ifne (t := 119) gz_87_100 rfl (fun u74 => ?_) (fun u74 => by exfalso; omega)
                refine w_iload_n gz_87_119 rfl ?_
                refine w_iconst gz_87_120 (by decide) ?_
                refine w_icne (t := 136) gz_87_121 rfl (fun u75 => by exfalso; omega) (fun u75 => ?_)
                have hi76 : 0 ≤ x4 := by omega
                have hi77 : x4 ≤ 9 := by omega
                refine w_aload_n gz_87_124 rfl ?_
                refine w_getX (v := 102) gz_87_125 is_94 rd_2 rfl (by decide) rfl ?_
                refine w_iload gz_87_128 rfl ?_
                refine w_inv (k := 1) (as := [(0, x4)]) (r := []) (x := 102) (ls0 := [(2, 102), (0, x4), (9, 0)]) gz_87_130 gm_90 rfl is_102 rd_8 rfl rfl rfl rfl rfl (c_View_dropRow (d := (d + 2)) (x0 := 102) (x1 := x4) is_102 (by omega) (by omega) (by omega) (by omega) (by first | assumption | omega | (subst_vars; omega)) (fun h79 frh79 fxh79 w80 w81 => ?_))
                have gh79 : my_fr [(2, 15), (2, 16), (8, 0), (8, 1), (42, -1), (43, -1), (44, -1)] h h79 := my_fr.tr gh71 (frh79.mo rfl)
                have Ln_h79 : Ln h79 := Ln_ag (my_ag.fr frh79 rfl) Ln_h71
                have Td_h79 : Td h79 x2 := Td_ag (my_ag.fr frh79 rfl) Ln_h71 Td_h71
                show wp l rho (d + 5) 87 133 [(2, 94), (2, x1), (0, x2), (0, x3), (0, x4), (0, x5), (0, x6)] [] h79 Q
                refine w_goto (t := 147) gz_87_133 rfl ?_
                refine w_aload_n gz_87_147 rfl ?_
                refine w_getX (v := 102) gz_87_148 is_94 rd_2 rfl (by decide) rfl ?_
                refine w_inv (k := 3) (as := []) (r := []) (x := 102) (ls0 := [(2, 102), (9, 0), (9, 0), (9, 0)]) gz_87_151 gm_79 rfl is_102 rd_8 rfl rfl rfl rfl rfl (c_View_sort (d := (d + 2)) (x0 := 102) is_102 (fun h83 frh83 fxh83 xp84 xp85 => ?_))
                have gh83 : my_fr [(2, 15), (2, 16), (8, 0), (8, 1), (42, -1), (43, -1), (44, -1)] h h83 := my_fr.tr gh79 (frh83.mo rfl)
                have Ln_h83 : Ln h83 := Ln_ag (my_ag.fr frh83 rfl) Ln_h79
                have Td_h83 : Td h83 x2 := Td_ag (my_ag.fr frh83 rfl) Ln_h79 Td_h79
                show wp l rho (d + 5) 87 154 [(2, 94), (2, x1), (0, x2), (0, x3), (0, x4), (0, x5), (0, x6)] [] h83 Q
                refine w_iconst gz_87_154 (by decide) ?_
                have ce86 : h83 94 15 = x3 := ((my_fr.at frh83 is_94 rfl).trans ((my_fr.at frh79 is_94 rfl).trans ((my_cp_role fh71 is_94 is_103 rfl).trans ((my_up_role fh67 is_94 is_102 rfl).trans ((my_up_role fh65 is_94 is_102 rfl).trans ((my_up_fld fh60 (by decide)).trans (my_up_self fh59)))))))
                have ce87 : h83 94 16 = x4 := ((my_fr.at frh83 is_94 rfl).trans ((my_fr.at frh79 is_94 rfl).trans ((my_cp_role fh71 is_94 is_103 rfl).trans ((my_up_role fh67 is_94 is_102 rfl).trans ((my_up_role fh65 is_94 is_102 rfl).trans (my_up_self fh60))))))
                have c88 := ((my_fr.at frh83 is_94 rfl).trans ((my_fr.at frh79 is_94 rfl).trans ((my_cp_role fh71 is_94 is_103 rfl).trans ((my_up_role fh67 is_94 is_102 rfl).trans ((my_up_role fh65 is_94 is_102 rfl).trans ((my_up_fld fh60 (by decide)).trans (my_up_self fh59)))))))
                exact w_bret gz_87_155 gm_87 (by omega) (by omega) (k1 h83 (gh83) (by omega) (by omega) (by omega) (by omega) (by omega) (by omega) (by first | assumption | omega | exact Td_h83 | (subst_vars; omega)) (by first | assumption | omega | exact Td_h83 | (subst_vars; omega)) (by first | assumption | omega | exact Td_h83 | (subst_vars; omega)) (by first | assumption | omega | exact Td_h83 | (subst_vars; omega)) (by first | assumption | omega | exact Td_h83 | (subst_vars; omega)))
              ·
                refine w_aload_n gz_87_48 rfl ?_
                refine w_getX (v := 98) gz_87_49 is_94 rd_2 rfl (by decide) rfl ?_
                refine w_iload gz_87_52 rfl ?_
                refine w_iload gz_87_54 rfl ?_
                refine w_inv (k := 0) (as := [(0, x5), (0, x4)]) (r := []) (x := 98) (ls0 := [(2, 98), (0, x4), (0, x5)]) gz_87_56 gm_81 rfl is_98 rd_8 rfl rfl rfl rfl rfl ?_
                refine w_iload_n gz_81_0 rfl ?_
                refine w_iflt (t := 28) gz_81_1 rfl (fun u90 => by exfalso; omega) (fun u90 => ?_)
                refine w_iload_n gz_81_4 rfl ?_
                refine w_aload_n gz_81_5 rfl ?_
                refine v_getI (j := 0) gz_81_6 rfl is_98 rd_8 rfl (fun v91 ev91 pv91 qv91 => ?_)
                have zv91 := ev91.trans ev54.symm
                refine w_icge (t := 28) gz_81_9 rfl (fun u92 => by exfalso; omega) (fun u92 => ?_)
                refine w_iload_n gz_81_12 rfl ?_
                refine w_iflt (t := 28) gz_81_13 rfl (fun u93 => ?_) (fun u93 => ?_)
                ·
                  refine w_iconst gz_81_28 (by decide) ?_
                  refine w_bret gz_81_29 gm_81 (by omega) (by omega) ?_
                  show wp l rho (d + 5) 87 59 [(2, 94), (2, x1), (0, x2), (0, x3), (0, x4), (0, x5), (0, x6)] [(0, 0)] h4 Q
                  refine w_ifeq (t := 75) gz_87_59 rfl (fun u94 => ?_) (fun u94 => by exfalso; omega)
                  refine w_iconst gz_87_75 (by decide) ?_
                  have ce95 : h4 94 15 = h 94 15 := ((my_fr.at frh4 is_94 rfl).trans (rfl : h 94 15 = h 94 15))
                  have ce96 : h4 94 16 = h 94 16 := ((my_fr.at frh4 is_94 rfl).trans (rfl : h 94 16 = h 94 16))
                  exact w_bret gz_87_76 gm_87 (by omega) (by omega) (k0 h4 (gh4))
                ·
                  refine w_iload_n gz_81_16 rfl ?_
                  refine w_aload_n gz_81_17 rfl ?_
                  refine v_getI (j := 1) gz_81_18 rfl is_98 rd_8 rfl (fun v97 ev97 pv97 qv97 => ?_)
                  refine w_icge (t := 28) gz_81_21 rfl (fun u98 => ?_) (fun u98 => ?_)
                  ·
                    refine w_iconst gz_81_28 (by decide) ?_
                    refine w_bret gz_81_29 gm_81 (by omega) (by omega) ?_
                    show wp l rho (d + 5) 87 59 [(2, 94), (2, x1), (0, x2), (0, x3), (0, x4), (0, x5), (0, x6)] [(0, 0)] h4 Q
                    refine w_ifeq (t := 75) gz_87_59 rfl (fun u99 => ?_) (fun u99 => by exfalso; omega)
                    refine w_iconst gz_87_75 (by decide) ?_
                    have ce100 : h4 94 15 = h 94 15 := ((my_fr.at frh4 is_94 rfl).trans (rfl : h 94 15 = h 94 15))
                    have ce101 : h4 94 16 = h 94 16 := ((my_fr.at frh4 is_94 rfl).trans (rfl : h 94 16 = h 94 16))
                    exact w_bret gz_87_76 gm_87 (by omega) (by omega) (k0 h4 (gh4))
                  ·
                    refine w_iconst gz_81_24 (by decide) ?_
                    refine w_goto (t := 29) gz_81_25 rfl ?_
                    refine w_bret gz_81_29 gm_81 (by omega) (by omega) ?_
                    show wp l rho (d + 5) 87 59 [(2, 94), (2, x1), (0, x2), (0, x3), (0, x4), (0, x5), (0, x6)] [(0, 1)] h4 Q
                    refine w_ifeq (t := 75) gz_87_59 rfl (fun u102 => by exfalso; omega) (fun u102 => ?_)
                    refine w_iload gz_87_62 rfl ?_
                    refine w_iflt (t := 75) gz_87_64 rfl (fun u103 => ?_) (fun u103 => ?_)
                    ·
                      refine w_iconst gz_87_75 (by decide) ?_
                      have ce104 : h4 94 15 = h 94 15 := ((my_fr.at frh4 is_94 rfl).trans (rfl : h 94 15 = h 94 15))
                      have ce105 : h4 94 16 = h 94 16 := ((my_fr.at frh4 is_94 rfl).trans (rfl : h 94 16 = h 94 16))
                      exact w_bret gz_87_76 gm_87 (by omega) (by omega) (k0 h4 (gh4))
                    ·
                      refine w_iload gz_87_67 rfl ?_
                      refine w_sipush gz_87_69 (by decide) ?_
                      refine w_iclt (t := 77) gz_87_72 rfl (fun u106 => ?_) (fun u106 => ?_)
                      ·
                        refine w_aload_n gz_87_77 rfl ?_
                        refine w_iload_n gz_87_78 rfl ?_
                        refine v_putI (j := 15) gz_87_79 rfl is_94 rd_2 rfl (by omega) (by omega) rfl (fun h107 fh107 => ?_)
                        have gh107 : my_fr [(2, 15), (2, 16), (8, 0), (8, 1), (42, -1), (43, -1), (44, -1)] h h107 := my_fr.up gh4 is_94 fh107 rfl
                        have Ln_h107 : Ln h107 := Ln_ag (my_ag.up fh107 is_94 rfl) Ln_h4
                        have Td_h107 : Td h107 x2 := Td_ag (my_ag.up fh107 is_94 rfl) Ln_h4 Td_h4t12
                        refine w_aload_n gz_87_82 rfl ?_
                        refine w_iload gz_87_83 rfl ?_
                        refine v_putA (j := 16) gz_87_85 rfl is_94 rd_2 rfl rfl (fun h108 fh108 => ?_)
                        have gh108 : my_fr [(2, 15), (2, 16), (8, 0), (8, 1), (42, -1), (43, -1), (44, -1)] h h108 := my_fr.up gh107 is_94 fh108 rfl
                        have Ln_h108 : Ln h108 := Ln_ag (my_ag.up fh108 is_94 rfl) Ln_h107
                        have Td_h108 : Td h108 x2 := Td_ag (my_ag.up fh108 is_94 rfl) Ln_h107 Td_h107
                        have ce109 : h108 98 0 = v91 := ((my_up_role fh108 is_98 is_94 rfl).trans ((my_up_role fh107 is_98 is_94 rfl).trans ev91.symm))
                        refine w_aload_n gz_87_88 rfl ?_
                        refine w_getX (v := 102) gz_87_89 is_94 rd_2 rfl (by decide) rfl ?_
                        refine w_aload_n gz_87_92 rfl ?_
                        refine w_getX (v := 98) gz_87_93 is_94 rd_2 rfl (by decide) rfl ?_
                        refine w_inv (k := 0) (as := [(2, 98)]) (r := []) (x := 102) (ls0 := [(2, 102), (2, 98)]) gz_87_96 gm_88 rfl is_102 rd_8 rfl rfl rfl rfl rfl ?_
                        refine w_aload_n gz_88_0 rfl ?_
                        refine w_aload_n gz_88_1 rfl ?_
                        refine v_getI (j := 0) gz_88_2 rfl is_98 rd_8 rfl (fun v112 ev112 pv112 qv112 => ?_)
                        have zv112 := ev112.trans ((my_up_role fh108 is_98 is_94 rfl).trans ((my_up_role fh107 is_98 is_94 rfl).trans ev91.symm))
                        refine v_putI (j := 0) gz_88_5 rfl is_102 rd_8 rfl (by omega) (by omega) rfl (fun h113 fh113 => ?_)
                        have gh113 : my_fr [(2, 15), (2, 16), (8, 0), (8, 1), (42, -1), (43, -1), (44, -1)] h h113 := my_fr.up gh108 is_102 fh113 rfl
                        have Ln_h113 : Ln h113 := Ln_ag (my_ag.up fh113 is_102 rfl) Ln_h108
                        have Td_h113 : Td h113 x2 := Td_ag (my_ag.up fh113 is_102 rfl) Ln_h108 Td_h108
                        refine w_aload_n gz_88_8 rfl ?_
                        refine w_aload_n gz_88_9 rfl ?_
                        refine v_getI (j := 1) gz_88_10 rfl is_98 rd_8 rfl (fun v114 ev114 pv114 qv114 => ?_)
                        have zv114 := ev114.trans ((my_up_fld fh113 (by decide)).trans ((my_up_role fh108 is_98 is_94 rfl).trans ((my_up_role fh107 is_98 is_94 rfl).trans ev97.symm)))
                        refine v_putI (j := 1) gz_88_13 rfl is_102 rd_8 rfl (by omega) (by omega) rfl (fun h115 fh115 => ?_)
                        have gh115 : my_fr [(2, 15), (2, 16), (8, 0), (8, 1), (42, -1), (43, -1), (44, -1)] h h115 := my_fr.up gh113 is_102 fh115 rfl
                        have Ln_h115 : Ln h115 := Ln_ag (my_ag.up fh115 is_102 rfl) Ln_h113
                        have Td_h115 : Td h115 x2 := Td_ag (my_ag.up fh115 is_102 rfl) Ln_h113 Td_h113
                        refine w_aload_n gz_88_16 rfl ?_
                        refine w_getX (v := 99) gz_88_17 is_98 rd_8 rfl (by decide) rfl ?_
                        refine w_iconst gz_88_20 (by decide) ?_
                        refine w_aload_n gz_88_21 rfl ?_
                        refine w_getX (v := 103) gz_88_22 is_102 rd_8 rfl (by decide) rfl ?_
                        refine w_iconst gz_88_25 (by decide) ?_
                        refine w_aload_n gz_88_26 rfl ?_
                        refine w_getX (v := 103) gz_88_27 is_102 rd_8 rfl (by decide) rfl ?_
                        refine v_alen (j := 204) gz_88_30 rfl is_103 rd_42 (by decide) ?_
                        refine w_cpG gz_88_31 is_99 rd_42 is_103 rd_42 (by omega) (by omega) (by omega) (by omega) (by omega) rfl (by omega) (fun h119 fh119 => ?_)
                        have gh119 : my_fr [(2, 15), (2, 16), (8, 0), (8, 1), (42, -1), (43, -1), (44, -1)] h h119 := my_fr.cp gh115 is_103 fh119 rfl
                        have Ln_h119 : Ln h119 := Ln_ag (my_ag.cp fh119 is_103 rfl) Ln_h115
                        have Td_h119 : Td h119 x2 := Td_ag (my_ag.cp fh119 is_103 rfl) Ln_h115 Td_h115
                        refine w_vret gz_88_34 gm_88 ?_
                        show wp l rho (d + 5) 87 99 [(2, 94), (2, x1), (0, x2), (0, x3), (0, x4), (0, x5), (0, x6)] [] h119 Q
                        have ce120 : h119 98 0 = v112 := ((my_cp_role fh119 is_98 is_103 rfl).trans ((my_up_fld fh115 (by decide)).trans ((my_up_ne fh113 (by omega)).trans ev112.symm)))
                        have ce121 : h119 102 0 = v112 := ((my_cp_role fh119 is_102 is_103 rfl).trans ((my_up_fld fh115 (by decide)).trans (my_up_self fh113)))
                        refine w_iload_n gz_87_99 rfl ?_
                        refine w_ifne (t := 119) gz_87_100 rfl (fun u122 => by exfalso; omega) (fun u122 => ?_)
                        have hi123 : 0 ≤ x4 := by omega
                        have hi124 : x4 ≤ 9 := by omega
                        have hi125 : 0 ≤ x5 := by omega
                        have hi126 : x5 ≤ 7 := by omega
                        refine w_aload_n gz_87_103 rfl ?_
                        refine w_getX (v := 102) gz_87_104 is_94 rd_2 rfl (by decide) rfl ?_
                        refine w_iload gz_87_107 rfl ?_
                        refine w_iload gz_87_109 rfl ?_
                        refine w_iload gz_87_111 rfl ?_
                        refine w_inv (k := 0) (as := [(0, x6), (0, x5), (0, x4)]) (r := []) (x := 102) (ls0 := [(2, 102), (0, x4), (0, x5), (0, x6)]) gz_87_113 gm_89 rfl is_102 rd_8 rfl rfl rfl rfl rfl ?_
                        refine w_aload_n gz_89_0 rfl ?_
                        refine w_getX (v := 103) gz_89_1 is_102 rd_8 rfl (by decide) rfl ?_
                        refine w_iload_n gz_89_4 rfl ?_
                        refine w_bipush gz_89_5 (by decide) ?_
                        refine w_imul gz_89_7 ⟨by omega, by omega⟩ ?_
                        refine w_iload_n gz_89_8 rfl ?_
                        refine w_iadd gz_89_9 ⟨by omega, by omega⟩ ?_
                        refine w_iload_n gz_89_10 rfl ?_
                        refine w_gstV gz_89_11 is_103 rd_42 (by omega) (by omega) (by omega) (fun h129 fh129 => ?_)
                        have gh129 : my_fr [(2, 15), (2, 16), (8, 0), (8, 1), (42, -1), (43, -1), (44, -1)] h h129 := my_fr.up gh119 is_103 fh129 rfl
                        have Ln_h129 : Ln h129 := Ln_ag (my_ag.up fh129 is_103 rfl) Ln_h119
                        have Td_h129 : Td h129 x2 := Td_ag (my_ag.up fh129 is_103 rfl) Ln_h119 Td_h119
                        refine w_vret gz_89_12 gm_89 ?_
                        show wp l rho (d + 5) 87 116 [(2, 94), (2, x1), (0, x2), (0, x3), (0, x4), (0, x5), (0, x6)] [] h129 Q
                        refine w_goto (t := 147) gz_87_116 rfl ?_
                        refine w_aload_n gz_87_147 rfl ?_
                        refine w_getX (v := 102) gz_87_148 is_94 rd_2 rfl (by decide) rfl ?_
                        refine w_inv (k := 3) (as := []) (r := []) (x := 102) (ls0 := [(2, 102), (9, 0), (9, 0), (9, 0)]) gz_87_151 gm_79 rfl is_102 rd_8 rfl rfl rfl rfl rfl (c_View_sort (d := (d + 2)) (x0 := 102) is_102 (fun h131 frh131 fxh131 xp132 xp133 => ?_))
                        have gh131 : my_fr [(2, 15), (2, 16), (8, 0), (8, 1), (42, -1), (43, -1), (44, -1)] h h131 := my_fr.tr gh129 (frh131.mo rfl)
                        have Ln_h131 : Ln h131 := Ln_ag (my_ag.fr frh131 rfl) Ln_h129
                        have Td_h131 : Td h131 x2 := Td_ag (my_ag.fr frh131 rfl) Ln_h129 Td_h129
                        show wp l rho (d + 5) 87 154 [(2, 94), (2, x1), (0, x2), (0, x3), (0, x4), (0, x5), (0, x6)] [] h131 Q
                        refine w_iconst gz_87_154 (by decide) ?_
                        have ce134 : h131 94 15 = x3 := ((my_fr.at frh131 is_94 rfl).trans ((my_up_role fh129 is_94 is_103 rfl).trans ((my_cp_role fh119 is_94 is_103 rfl).trans ((my_up_role fh115 is_94 is_102 rfl).trans ((my_up_role fh113 is_94 is_102 rfl).trans ((my_up_fld fh108 (by decide)).trans (my_up_self fh107)))))))
                        have ce135 : h131 94 16 = x4 := ((my_fr.at frh131 is_94 rfl).trans ((my_up_role fh129 is_94 is_103 rfl).trans ((my_cp_role fh119 is_94 is_103 rfl).trans ((my_up_role fh115 is_94 is_102 rfl).trans ((my_up_role fh113 is_94 is_102 rfl).trans (my_up_self fh108))))))
                        have c136 := ((my_fr.at frh131 is_94 rfl).trans ((my_up_role fh129 is_94 is_103 rfl).trans ((my_cp_role fh119 is_94 is_103 rfl).trans ((my_up_role fh115 is_94 is_102 rfl).trans ((my_up_role fh113 is_94 is_102 rfl).trans ((my_up_fld fh108 (by decide)).trans (my_up_self fh107)))))))
                        exact w_bret gz_87_155 gm_87 (by omega) (by omega) (k1 h131 (gh131) (by omega) (by omega) (by omega) (by omega) (by omega) (by omega) (by first | assumption | omega | exact Td_h131 | (subst_vars; omega)) (by first | assumption | omega | exact Td_h131 | (subst_vars; omega)) (by first | assumption | omega | exact Td_h131 | (subst_vars; omega)) (by first | assumption | omega | exact Td_h131 | (subst_vars; omega)) (by first | assumption | omega | exact Td_h131 | (subst_vars; omega)))
                      ·
                        refine w_iconst gz_87_75 (by decide) ?_
                        have ce137 : h4 94 15 = h 94 15 := ((my_fr.at frh4 is_94 rfl).trans (rfl : h 94 15 = h 94 15))
                        have ce138 : h4 94 16 = h 94 16 := ((my_fr.at frh4 is_94 rfl).trans (rfl : h 94 16 = h 94 16))
                        exact w_bret gz_87_76 gm_87 (by omega) (by omega) (k0 h4 (gh4))
            ·
              refine w_iconst gz_87_42 (by decide) ?_
              have ce139 : h4 94 15 = h 94 15 := ((my_fr.at frh4 is_94 rfl).trans (rfl : h 94 15 = h 94 15))
              have ce140 : h4 94 16 = h 94 16 := ((my_fr.at frh4 is_94 rfl).trans (rfl : h 94 16 = h 94 16))
              exact w_bret gz_87_43 gm_87 (by omega) (by omega) (k0 h4 (gh4))
theorem c_Desk_search {l : Launch} {rho : Nat → Int32} {d : Nat} {h : my_H} {Q : my_H → my_V → Prop} {x1 x2 x3 x4 : Int} (t1 : my_is 6 x1) (a2 : 0 ≤ x2) (b2 : x2 ≤ 5) (a3 : (-1) ≤ x3) (a4 : 0 ≤ x4) (b4 : x4 ≤ 1) (n_Ln : Ln h) (n_Td : Td h x2) (hor : h 94 15 ≠ 2 → 0 ≤ h 94 16 ∧ h 94 16 ≤ 9) (k0 : ∀ (h' : my_H), my_fr [(2, 11), (2, 12), (2, 13), (2, 14), (7, 0), (7, 1), (7, 2), (7, 3), (7, 4), (7, 5), (8, 0), (8, 1), (30, -1), (31, -1), (41, -1), (42, -1), (43, -1), (44, -1)] h h' → (-1) ≤ h' 94 12 → 0 ≤ h' 94 14 → h' 94 14 ≤ 1 → Lst h' → Q h' (9, 0)) : wp l rho (d + 5) 92 0 [(2, 94), (2, x1), (0, x2), (0, x3), (0, x4), (9, 0), (9, 0)] [] h Q := by
  refine w_aload_n gz_92_0 rfl ?_
  refine w_iload gz_92_1 rfl ?_
  refine v_putB (j := 13) gz_92_3 rfl is_94 rd_2 rfl (by omega) (by omega) rfl (fun h1 fh1 => ?_)
  have gh1 : my_fr [(2, 11), (2, 12), (2, 13), (2, 14), (7, 0), (7, 1), (7, 2), (7, 3), (7, 4), (7, 5), (8, 0), (8, 1), (30, -1), (31, -1), (41, -1), (42, -1), (43, -1), (44, -1)] h h1 := my_fr.up my_fr.rf is_94 fh1 rfl
  have Ln_h1 : Ln h1 := Ln_ag (my_ag.up fh1 is_94 rfl) n_Ln
  have Td_h1 : Td h1 x2 := Td_ag (my_ag.up fh1 is_94 rfl) n_Ln n_Td
  refine w_aload_n gz_92_6 rfl ?_
  refine w_iconst gz_92_7 (by decide) ?_
  refine v_putA (j := 11) gz_92_8 rfl is_94 rd_2 rfl rfl (fun h2 fh2 => ?_)
  have gh2 : my_fr [(2, 11), (2, 12), (2, 13), (2, 14), (7, 0), (7, 1), (7, 2), (7, 3), (7, 4), (7, 5), (8, 0), (8, 1), (30, -1), (31, -1), (41, -1), (42, -1), (43, -1), (44, -1)] h h2 := my_fr.up gh1 is_94 fh2 rfl
  have Ln_h2 : Ln h2 := Ln_ag (my_ag.up fh2 is_94 rfl) Ln_h1
  have Td_h2 : Td h2 x2 := Td_ag (my_ag.up fh2 is_94 rfl) Ln_h1 Td_h1
  refine w_aload_n gz_92_11 rfl ?_
  refine w_iload_n gz_92_12 rfl ?_
  refine v_putA (j := 12) gz_92_13 rfl is_94 rd_2 rfl rfl (fun h3 fh3 => ?_)
  have gh3 : my_fr [(2, 11), (2, 12), (2, 13), (2, 14), (7, 0), (7, 1), (7, 2), (7, 3), (7, 4), (7, 5), (8, 0), (8, 1), (30, -1), (31, -1), (41, -1), (42, -1), (43, -1), (44, -1)] h h3 := my_fr.up gh2 is_94 fh3 rfl
  have Ln_h3 : Ln h3 := Ln_ag (my_ag.up fh3 is_94 rfl) Ln_h2
  have Td_h3 : Td h3 x2 := Td_ag (my_ag.up fh3 is_94 rfl) Ln_h2 Td_h2
  refine w_aload_n gz_92_16 rfl ?_
  refine w_getX (v := 112) gz_92_17 is_94 rd_2 rfl (by decide) rfl ?_
  refine w_inv (k := 0) (as := []) (r := []) (x := 112) (ls0 := [(2, 112)]) gz_92_20 gm_9 rfl is_112 rd_7 rfl rfl rfl rfl rfl ?_
  refine w_aload_n gz_9_0 rfl ?_
  refine w_iconst gz_9_1 (by decide) ?_
  refine v_putA (j := 0) gz_9_2 rfl is_112 rd_7 rfl rfl (fun h5 fh5 => ?_)
  have gh5 : my_fr [(2, 11), (2, 12), (2, 13), (2, 14), (7, 0), (7, 1), (7, 2), (7, 3), (7, 4), (7, 5), (8, 0), (8, 1), (30, -1), (31, -1), (41, -1), (42, -1), (43, -1), (44, -1)] h h5 := my_fr.up gh3 is_112 fh5 rfl
  have Ln_h5 : Ln h5 := Ln_ag (my_ag.up fh5 is_112 rfl) Ln_h3
  have Td_h5 : Td h5 x2 := Td_ag (my_ag.up fh5 is_112 rfl) Ln_h3 Td_h3
  refine w_aload_n gz_9_5 rfl ?_
  refine w_iconst gz_9_6 (by decide) ?_
  refine v_putI (j := 1) gz_9_7 rfl is_112 rd_7 rfl (by omega) (by omega) rfl (fun h6 fh6 => ?_)
  have gh6 : my_fr [(2, 11), (2, 12), (2, 13), (2, 14), (7, 0), (7, 1), (7, 2), (7, 3), (7, 4), (7, 5), (8, 0), (8, 1), (30, -1), (31, -1), (41, -1), (42, -1), (43, -1), (44, -1)] h h6 := my_fr.up gh5 is_112 fh6 rfl
  have Ln_h6 : Ln h6 := Ln_ag (my_ag.up fh6 is_112 rfl) Ln_h5
  have Td_h6 : Td h6 x2 := Td_ag (my_ag.up fh6 is_112 rfl) Ln_h5 Td_h5
  refine w_aload_n gz_9_10 rfl ?_
  refine w_iconst gz_9_11 (by decide) ?_
  refine v_putI (j := 2) gz_9_12 rfl is_112 rd_7 rfl (by omega) (by omega) rfl (fun h7 fh7 => ?_)
  have gh7 : my_fr [(2, 11), (2, 12), (2, 13), (2, 14), (7, 0), (7, 1), (7, 2), (7, 3), (7, 4), (7, 5), (8, 0), (8, 1), (30, -1), (31, -1), (41, -1), (42, -1), (43, -1), (44, -1)] h h7 := my_fr.up gh6 is_112 fh7 rfl
  have Ln_h7 : Ln h7 := Ln_ag (my_ag.up fh7 is_112 rfl) Ln_h6
  have Td_h7 : Td h7 x2 := Td_ag (my_ag.up fh7 is_112 rfl) Ln_h6 Td_h6
  refine w_aload_n gz_9_15 rfl ?_
  refine w_iconst gz_9_16 (by decide) ?_
  refine v_putI (j := 3) gz_9_17 rfl is_112 rd_7 rfl (by omega) (by omega) rfl (fun h8 fh8 => ?_)
  have gh8 : my_fr [(2, 11), (2, 12), (2, 13), (2, 14), (7, 0), (7, 1), (7, 2), (7, 3), (7, 4), (7, 5), (8, 0), (8, 1), (30, -1), (31, -1), (41, -1), (42, -1), (43, -1), (44, -1)] h h8 := my_fr.up gh7 is_112 fh8 rfl
  have Ln_h8 : Ln h8 := Ln_ag (my_ag.up fh8 is_112 rfl) Ln_h7
  have Td_h8 : Td h8 x2 := Td_ag (my_ag.up fh8 is_112 rfl) Ln_h7 Td_h7
  refine w_aload_n gz_9_20 rfl ?_
  refine w_iconst gz_9_21 (by decide) ?_
  refine v_putI (j := 4) gz_9_22 rfl is_112 rd_7 rfl (by omega) (by omega) rfl (fun h9 fh9 => ?_)
  have gh9 : my_fr [(2, 11), (2, 12), (2, 13), (2, 14), (7, 0), (7, 1), (7, 2), (7, 3), (7, 4), (7, 5), (8, 0), (8, 1), (30, -1), (31, -1), (41, -1), (42, -1), (43, -1), (44, -1)] h h9 := my_fr.up gh8 is_112 fh9 rfl
  have Ln_h9 : Ln h9 := Ln_ag (my_ag.up fh9 is_112 rfl) Ln_h8
  have Td_h9 : Td h9 x2 := Td_ag (my_ag.up fh9 is_112 rfl) Ln_h8 Td_h8
  refine w_aload_n gz_9_25 rfl ?_
  refine w_iconst gz_9_26 (by decide) ?_
  refine v_putI (j := 5) gz_9_27 rfl is_112 rd_7 rfl (by omega) (by omega) rfl (fun h10 fh10 => ?_)
  have gh10 : my_fr [(2, 11), (2, 12), (2, 13), (2, 14), (7, 0), (7, 1), (7, 2), (7, 3), (7, 4), (7, 5), (8, 0), (8, 1), (30, -1), (31, -1), (41, -1), (42, -1), (43, -1), (44, -1)] h h10 := my_fr.up gh9 is_112 fh10 rfl
  have Ln_h10 : Ln h10 := Ln_ag (my_ag.up fh10 is_112 rfl) Ln_h9
  have Td_h10 : Td h10 x2 := Td_ag (my_ag.up fh10 is_112 rfl) Ln_h9 Td_h9
  refine w_vret gz_9_30 gm_9 ?_
  show wp l rho (d + 5) 92 23 [(2, 94), (2, x1), (0, x2), (0, x3), (0, x4), (9, 0), (9, 0)] [] h10 Q
  have ce11 : h10 112 1 = (-1) := ((my_up_fld fh10 (by decide)).trans ((my_up_fld fh9 (by decide)).trans ((my_up_fld fh8 (by decide)).trans ((my_up_fld fh7 (by decide)).trans (my_up_self fh6)))))
  have Lst_h10t12 : Lst h10 := by unfold Lst; omega
  refine w_aload_n gz_92_23 rfl ?_
  refine w_getX (v := 113) gz_92_24 is_94 rd_2 rfl (by decide) rfl ?_
  refine w_inv (k := 0) (as := []) (r := []) (x := 113) (ls0 := [(2, 113)]) gz_92_27 gm_9 rfl is_113 rd_7 rfl rfl rfl rfl rfl ?_
  refine w_aload_n gz_9_0 rfl ?_
  refine w_iconst gz_9_1 (by decide) ?_
  refine v_putA (j := 0) gz_9_2 rfl is_113 rd_7 rfl rfl (fun h14 fh14 => ?_)
  have gh14 : my_fr [(2, 11), (2, 12), (2, 13), (2, 14), (7, 0), (7, 1), (7, 2), (7, 3), (7, 4), (7, 5), (8, 0), (8, 1), (30, -1), (31, -1), (41, -1), (42, -1), (43, -1), (44, -1)] h h14 := my_fr.up gh10 is_113 fh14 rfl
  have Ln_h14 : Ln h14 := Ln_ag (my_ag.up fh14 is_113 rfl) Ln_h10
  have Td_h14 : Td h14 x2 := Td_ag (my_ag.up fh14 is_113 rfl) Ln_h10 Td_h10
  have Lst_h14 : Lst h14 := Lst_ne fh14 (by decide) Lst_h10t12
  refine w_aload_n gz_9_5 rfl ?_
  refine w_iconst gz_9_6 (by decide) ?_
  refine v_putI (j := 1) gz_9_7 rfl is_113 rd_7 rfl (by omega) (by omega) rfl (fun h15 fh15 => ?_)
  have gh15 : my_fr [(2, 11), (2, 12), (2, 13), (2, 14), (7, 0), (7, 1), (7, 2), (7, 3), (7, 4), (7, 5), (8, 0), (8, 1), (30, -1), (31, -1), (41, -1), (42, -1), (43, -1), (44, -1)] h h15 := my_fr.up gh14 is_113 fh15 rfl
  have Ln_h15 : Ln h15 := Ln_ag (my_ag.up fh15 is_113 rfl) Ln_h14
  have Td_h15 : Td h15 x2 := Td_ag (my_ag.up fh15 is_113 rfl) Ln_h14 Td_h14
  have Lst_h15 : Lst h15 := Lst_ne fh15 (by decide) Lst_h14
  refine w_aload_n gz_9_10 rfl ?_
  refine w_iconst gz_9_11 (by decide) ?_
  refine v_putI (j := 2) gz_9_12 rfl is_113 rd_7 rfl (by omega) (by omega) rfl (fun h16 fh16 => ?_)
  have gh16 : my_fr [(2, 11), (2, 12), (2, 13), (2, 14), (7, 0), (7, 1), (7, 2), (7, 3), (7, 4), (7, 5), (8, 0), (8, 1), (30, -1), (31, -1), (41, -1), (42, -1), (43, -1), (44, -1)] h h16 := my_fr.up gh15 is_113 fh16 rfl
  have Ln_h16 : Ln h16 := Ln_ag (my_ag.up fh16 is_113 rfl) Ln_h15
  have Td_h16 : Td h16 x2 := Td_ag (my_ag.up fh16 is_113 rfl) Ln_h15 Td_h15
  have Lst_h16 : Lst h16 := Lst_ne fh16 (by decide) Lst_h15
  refine w_aload_n gz_9_15 rfl ?_
  refine w_iconst gz_9_16 (by decide) ?_
  refine v_putI (j := 3) gz_9_17 rfl is_113 rd_7 rfl (by omega) (by omega) rfl (fun h17 fh17 => ?_)
  have gh17 : my_fr [(2, 11), (2, 12), (2, 13), (2, 14), (7, 0), (7, 1), (7, 2), (7, 3), (7, 4), (7, 5), (8, 0), (8, 1), (30, -1), (31, -1), (41, -1), (42, -1), (43, -1), (44, -1)] h h17 := my_fr.up gh16 is_113 fh17 rfl
  have Ln_h17 : Ln h17 := Ln_ag (my_ag.up fh17 is_113 rfl) Ln_h16
  have Td_h17 : Td h17 x2 := Td_ag (my_ag.up fh17 is_113 rfl) Ln_h16 Td_h16
  have Lst_h17 : Lst h17 := Lst_ne fh17 (by decide) Lst_h16
  refine w_aload_n gz_9_20 rfl ?_
  refine w_iconst gz_9_21 (by decide) ?_
  refine v_putI (j := 4) gz_9_22 rfl is_113 rd_7 rfl (by omega) (by omega) rfl (fun h18 fh18 => ?_)
  have gh18 : my_fr [(2, 11), (2, 12), (2, 13), (2, 14), (7, 0), (7, 1), (7, 2), (7, 3), (7, 4), (7, 5), (8, 0), (8, 1), (30, -1), (31, -1), (41, -1), (42, -1), (43, -1), (44, -1)] h h18 := my_fr.up gh17 is_113 fh18 rfl
  have Ln_h18 : Ln h18 := Ln_ag (my_ag.up fh18 is_113 rfl) Ln_h17
  have Td_h18 : Td h18 x2 := Td_ag (my_ag.up fh18 is_113 rfl) Ln_h17 Td_h17
  have Lst_h18 : Lst h18 := Lst_ne fh18 (by decide) Lst_h17
  refine w_aload_n gz_9_25 rfl ?_
  refine w_iconst gz_9_26 (by decide) ?_
  refine v_putI (j := 5) gz_9_27 rfl is_113 rd_7 rfl (by omega) (by omega) rfl (fun h19 fh19 => ?_)
  have gh19 : my_fr [(2, 11), (2, 12), (2, 13), (2, 14), (7, 0), (7, 1), (7, 2), (7, 3), (7, 4), (7, 5), (8, 0), (8, 1), (30, -1), (31, -1), (41, -1), (42, -1), (43, -1), (44, -1)] h h19 := my_fr.up gh18 is_113 fh19 rfl
  have Ln_h19 : Ln h19 := Ln_ag (my_ag.up fh19 is_113 rfl) Ln_h18
  have Td_h19 : Td h19 x2 := Td_ag (my_ag.up fh19 is_113 rfl) Ln_h18 Td_h18
  have Lst_h19 : Lst h19 := Lst_ne fh19 (by decide) Lst_h18
  refine w_vret gz_9_30 gm_9 ?_
  show wp l rho (d + 5) 92 30 [(2, 94), (2, x1), (0, x2), (0, x3), (0, x4), (9, 0), (9, 0)] [] h19 Q
  refine w_aload_n gz_92_30 rfl ?_
  refine w_getX (v := 111) gz_92_31 is_94 rd_2 rfl (by decide) rfl ?_
  refine w_inv (k := 0) (as := []) (r := []) (x := 111) (ls0 := [(2, 111)]) gz_92_34 gm_9 rfl is_111 rd_7 rfl rfl rfl rfl rfl ?_
  refine w_aload_n gz_9_0 rfl ?_
  refine w_iconst gz_9_1 (by decide) ?_
  refine v_putA (j := 0) gz_9_2 rfl is_111 rd_7 rfl rfl (fun h21 fh21 => ?_)
  have gh21 : my_fr [(2, 11), (2, 12), (2, 13), (2, 14), (7, 0), (7, 1), (7, 2), (7, 3), (7, 4), (7, 5), (8, 0), (8, 1), (30, -1), (31, -1), (41, -1), (42, -1), (43, -1), (44, -1)] h h21 := my_fr.up gh19 is_111 fh21 rfl
  have Ln_h21 : Ln h21 := Ln_ag (my_ag.up fh21 is_111 rfl) Ln_h19
  have Td_h21 : Td h21 x2 := Td_ag (my_ag.up fh21 is_111 rfl) Ln_h19 Td_h19
  have Lst_h21 : Lst h21 := Lst_ne fh21 (by decide) Lst_h19
  refine w_aload_n gz_9_5 rfl ?_
  refine w_iconst gz_9_6 (by decide) ?_
  refine v_putI (j := 1) gz_9_7 rfl is_111 rd_7 rfl (by omega) (by omega) rfl (fun h22 fh22 => ?_)
  have gh22 : my_fr [(2, 11), (2, 12), (2, 13), (2, 14), (7, 0), (7, 1), (7, 2), (7, 3), (7, 4), (7, 5), (8, 0), (8, 1), (30, -1), (31, -1), (41, -1), (42, -1), (43, -1), (44, -1)] h h22 := my_fr.up gh21 is_111 fh22 rfl
  have Ln_h22 : Ln h22 := Ln_ag (my_ag.up fh22 is_111 rfl) Ln_h21
  have Td_h22 : Td h22 x2 := Td_ag (my_ag.up fh22 is_111 rfl) Ln_h21 Td_h21
  have Lst_h22 : Lst h22 := Lst_ne fh22 (by decide) Lst_h21
  refine w_aload_n gz_9_10 rfl ?_
  refine w_iconst gz_9_11 (by decide) ?_
  refine v_putI (j := 2) gz_9_12 rfl is_111 rd_7 rfl (by omega) (by omega) rfl (fun h23 fh23 => ?_)
  have gh23 : my_fr [(2, 11), (2, 12), (2, 13), (2, 14), (7, 0), (7, 1), (7, 2), (7, 3), (7, 4), (7, 5), (8, 0), (8, 1), (30, -1), (31, -1), (41, -1), (42, -1), (43, -1), (44, -1)] h h23 := my_fr.up gh22 is_111 fh23 rfl
  have Ln_h23 : Ln h23 := Ln_ag (my_ag.up fh23 is_111 rfl) Ln_h22
  have Td_h23 : Td h23 x2 := Td_ag (my_ag.up fh23 is_111 rfl) Ln_h22 Td_h22
  have Lst_h23 : Lst h23 := Lst_ne fh23 (by decide) Lst_h22
  refine w_aload_n gz_9_15 rfl ?_
  refine w_iconst gz_9_16 (by decide) ?_
  refine v_putI (j := 3) gz_9_17 rfl is_111 rd_7 rfl (by omega) (by omega) rfl (fun h24 fh24 => ?_)
  have gh24 : my_fr [(2, 11), (2, 12), (2, 13), (2, 14), (7, 0), (7, 1), (7, 2), (7, 3), (7, 4), (7, 5), (8, 0), (8, 1), (30, -1), (31, -1), (41, -1), (42, -1), (43, -1), (44, -1)] h h24 := my_fr.up gh23 is_111 fh24 rfl
  have Ln_h24 : Ln h24 := Ln_ag (my_ag.up fh24 is_111 rfl) Ln_h23
  have Td_h24 : Td h24 x2 := Td_ag (my_ag.up fh24 is_111 rfl) Ln_h23 Td_h23
  have Lst_h24 : Lst h24 := Lst_ne fh24 (by decide) Lst_h23
  refine w_aload_n gz_9_20 rfl ?_
  refine w_iconst gz_9_21 (by decide) ?_
  refine v_putI (j := 4) gz_9_22 rfl is_111 rd_7 rfl (by omega) (by omega) rfl (fun h25 fh25 => ?_)
  have gh25 : my_fr [(2, 11), (2, 12), (2, 13), (2, 14), (7, 0), (7, 1), (7, 2), (7, 3), (7, 4), (7, 5), (8, 0), (8, 1), (30, -1), (31, -1), (41, -1), (42, -1), (43, -1), (44, -1)] h h25 := my_fr.up gh24 is_111 fh25 rfl
  have Ln_h25 : Ln h25 := Ln_ag (my_ag.up fh25 is_111 rfl) Ln_h24
  have Td_h25 : Td h25 x2 := Td_ag (my_ag.up fh25 is_111 rfl) Ln_h24 Td_h24
  have Lst_h25 : Lst h25 := Lst_ne fh25 (by decide) Lst_h24
  refine w_aload_n gz_9_25 rfl ?_
  refine w_iconst gz_9_26 (by decide) ?_
  refine v_putI (j := 5) gz_9_27 rfl is_111 rd_7 rfl (by omega) (by omega) rfl (fun h26 fh26 => ?_)
  have gh26 : my_fr [(2, 11), (2, 12), (2, 13), (2, 14), (7, 0), (7, 1), (7, 2), (7, 3), (7, 4), (7, 5), (8, 0), (8, 1), (30, -1), (31, -1), (41, -1), (42, -1), (43, -1), (44, -1)] h h26 := my_fr.up gh25 is_111 fh26 rfl
  have Ln_h26 : Ln h26 := Ln_ag (my_ag.up fh26 is_111 rfl) Ln_h25
  have Td_h26 : Td h26 x2 := Td_ag (my_ag.up fh26 is_111 rfl) Ln_h25 Td_h25
  have Lst_h26 : Lst h26 := Lst_ne fh26 (by decide) Lst_h25
  refine w_vret gz_9_30 gm_9 ?_
  show wp l rho (d + 5) 92 37 [(2, 94), (2, x1), (0, x2), (0, x3), (0, x4), (9, 0), (9, 0)] [] h26 Q
  refine w_aload_n gz_92_37 rfl ?_
  refine w_aload_n gz_92_38 rfl ?_
  refine w_getX (v := 98) gz_92_39 is_94 rd_2 rfl (by decide) rfl ?_
  refine w_aload_n gz_92_42 rfl ?_
  refine w_getX (v := 102) gz_92_43 is_94 rd_2 rfl (by decide) rfl ?_
  refine w_inv (k := 1) (as := [(2, 102)]) (r := [(2, 94)]) (x := 98) (ls0 := [(2, 98), (2, 102), (9, 0)]) gz_92_46 gm_93 rfl is_98 rd_8 rfl rfl rfl rfl rfl (c_View_same (d := (d + 3)) (x0 := 98) (x1 := 102) is_98 is_102 ?_ ?_)
  ·
    show wp l rho (d + 5) 92 49 [(2, 94), (2, x1), (0, x2), (0, x3), (0, x4), (9, 0), (9, 0)] [(0, 0), (2, 94)] h26 Q
    refine v_putB (j := 14) gz_92_49 rfl is_94 rd_2 rfl (by omega) (by omega) rfl (fun h29 fh29 => ?_)
    have gh29 : my_fr [(2, 11), (2, 12), (2, 13), (2, 14), (7, 0), (7, 1), (7, 2), (7, 3), (7, 4), (7, 5), (8, 0), (8, 1), (30, -1), (31, -1), (41, -1), (42, -1), (43, -1), (44, -1)] h h29 := my_fr.up gh26 is_94 fh29 rfl
    have Ln_h29 : Ln h29 := Ln_ag (my_ag.up fh29 is_94 rfl) Ln_h26
    have Td_h29 : Td h29 x2 := Td_ag (my_ag.up fh29 is_94 rfl) Ln_h26 Td_h26
    have Lst_h29 : Lst h29 := Lst_ag (my_ag.up fh29 is_94 rfl) Lst_h26
    refine w_aload_n gz_92_52 rfl ?_
    refine v_getI (j := 14) gz_92_53 rfl is_94 rd_2 rfl (fun v30 ev30 pv30 qv30 => ?_)
    have zv30 := ev30.trans (my_up_self fh29)
    refine w_ifeq (t := 65) gz_92_56 rfl (fun u31 => ?_) (fun u31 => by exfalso; omega)
    refine w_aload_n gz_92_65 rfl ?_
    refine w_getX (v := 95) gz_92_66 is_94 rd_2 rfl (by decide) rfl ?_
    refine w_aload_n gz_92_69 rfl ?_
    refine w_inv (k := 0) (as := [(2, x1)]) (r := []) (x := 95) (ls0 := [(2, 95), (2, x1)]) gz_92_70 gm_25 rfl is_95 rd_6 rfl rfl rfl rfl rfl ?_
    refine w_aload_n gz_25_0 rfl ?_
    refine w_getX (v := (x1 + 1)) gz_25_1 t1 rd_6 rfl (by decide) rfl ?_
    refine w_iconst gz_25_4 (by decide) ?_
    refine w_aload_n gz_25_5 rfl ?_
    refine w_getX (v := 96) gz_25_6 is_95 rd_6 rfl (by decide) rfl ?_
    refine w_iconst gz_25_9 (by decide) ?_
    refine w_aload_n gz_25_10 rfl ?_
    refine w_getX (v := 96) gz_25_11 is_95 rd_6 rfl (by decide) rfl ?_
    refine v_alen (j := 240) gz_25_14 rfl is_96 rd_30 (by decide) ?_
    refine w_cpU gz_25_15 (ix_6_1 t1) rd_30 is_96 rd_30 (by omega) (by omega) (by omega) (by omega) (by omega) rfl (by decide) (by decide) (fun h36 fh36 => ?_)
    have gh36 : my_fr [(2, 11), (2, 12), (2, 13), (2, 14), (7, 0), (7, 1), (7, 2), (7, 3), (7, 4), (7, 5), (8, 0), (8, 1), (30, -1), (31, -1), (41, -1), (42, -1), (43, -1), (44, -1)] h h36 := my_fr.cp gh29 is_96 fh36 rfl
    have Ln_h36 : Ln h36 := Ln_ag (my_ag.cp fh36 is_96 rfl) Ln_h29
    have Td_h36 : Td h36 x2 := Td_ag (my_ag.cp fh36 is_96 rfl) Ln_h29 Td_h29
    have Lst_h36 : Lst h36 := Lst_ag (my_ag.cp fh36 is_96 rfl) Lst_h29
    refine w_aload_n gz_25_18 rfl ?_
    refine w_getX (v := (x1 + 2)) gz_25_19 t1 rd_6 rfl (by decide) rfl ?_
    refine w_iconst gz_25_22 (by decide) ?_
    refine w_aload_n gz_25_23 rfl ?_
    refine w_getX (v := 97) gz_25_24 is_95 rd_6 rfl (by decide) rfl ?_
    refine w_iconst gz_25_27 (by decide) ?_
    refine w_aload_n gz_25_28 rfl ?_
    refine w_getX (v := 97) gz_25_29 is_95 rd_6 rfl (by decide) rfl ?_
    refine v_alen (j := 3) gz_25_32 rfl is_97 rd_31 (by decide) ?_
    refine w_cpU gz_25_33 (ix_6_2 t1) rd_31 is_97 rd_31 (by omega) (by omega) (by omega) (by omega) (by omega) rfl (by decide) (by decide) (fun h40 fh40 => ?_)
    have gh40 : my_fr [(2, 11), (2, 12), (2, 13), (2, 14), (7, 0), (7, 1), (7, 2), (7, 3), (7, 4), (7, 5), (8, 0), (8, 1), (30, -1), (31, -1), (41, -1), (42, -1), (43, -1), (44, -1)] h h40 := my_fr.cp gh36 is_97 fh40 rfl
    have Ln_h40 : Ln h40 := Ln_ag (my_ag.cp fh40 is_97 rfl) Ln_h36
    have Td_h40 : Td h40 x2 := Td_ag (my_ag.cp fh40 is_97 rfl) Ln_h36 Td_h36
    have Lst_h40 : Lst h40 := Lst_ag (my_ag.cp fh40 is_97 rfl) Lst_h36
    refine w_vret gz_25_36 gm_25 ?_
    show wp l rho (d + 5) 92 73 [(2, 94), (2, x1), (0, x2), (0, x3), (0, x4), (9, 0), (9, 0)] [] h40 Q
    refine w_aload_n gz_92_73 rfl ?_
    refine w_aload_n gz_92_74 rfl ?_
    refine w_getX (v := 27) gz_92_75 is_94 rd_2 rfl (by decide) rfl ?_
    refine w_iload_n gz_92_78 rfl ?_
    refine w_aald gz_92_79 is_27 rd_22 rfl (by omega) (by omega) (fun v42 ev42 tv42 => ?_)
    have ce43 : h40 94 15 = h 94 15 := ((my_cp_role fh40 is_94 is_97 rfl).trans ((my_cp_role fh36 is_94 is_96 rfl).trans ((my_up_fld fh29 (by decide)).trans ((my_up_role fh26 is_94 is_111 rfl).trans ((my_up_role fh25 is_94 is_111 rfl).trans ((my_up_role fh24 is_94 is_111 rfl).trans ((my_up_role fh23 is_94 is_111 rfl).trans ((my_up_role fh22 is_94 is_111 rfl).trans ((my_up_role fh21 is_94 is_111 rfl).trans ((my_up_role fh19 is_94 is_113 rfl).trans ((my_up_role fh18 is_94 is_113 rfl).trans ((my_up_role fh17 is_94 is_113 rfl).trans ((my_up_role fh16 is_94 is_113 rfl).trans ((my_up_role fh15 is_94 is_113 rfl).trans ((my_up_role fh14 is_94 is_113 rfl).trans ((my_up_role fh10 is_94 is_112 rfl).trans ((my_up_role fh9 is_94 is_112 rfl).trans ((my_up_role fh8 is_94 is_112 rfl).trans ((my_up_role fh7 is_94 is_112 rfl).trans ((my_up_role fh6 is_94 is_112 rfl).trans ((my_up_role fh5 is_94 is_112 rfl).trans ((my_up_fld fh3 (by decide)).trans ((my_up_fld fh2 (by decide)).trans ((my_up_fld fh1 (by decide)).trans (rfl : h 94 15 = h 94 15)))))))))))))))))))))))))
    have ce44 : h40 94 16 = h 94 16 := ((my_cp_role fh40 is_94 is_97 rfl).trans ((my_cp_role fh36 is_94 is_96 rfl).trans ((my_up_fld fh29 (by decide)).trans ((my_up_role fh26 is_94 is_111 rfl).trans ((my_up_role fh25 is_94 is_111 rfl).trans ((my_up_role fh24 is_94 is_111 rfl).trans ((my_up_role fh23 is_94 is_111 rfl).trans ((my_up_role fh22 is_94 is_111 rfl).trans ((my_up_role fh21 is_94 is_111 rfl).trans ((my_up_role fh19 is_94 is_113 rfl).trans ((my_up_role fh18 is_94 is_113 rfl).trans ((my_up_role fh17 is_94 is_113 rfl).trans ((my_up_role fh16 is_94 is_113 rfl).trans ((my_up_role fh15 is_94 is_113 rfl).trans ((my_up_role fh14 is_94 is_113 rfl).trans ((my_up_role fh10 is_94 is_112 rfl).trans ((my_up_role fh9 is_94 is_112 rfl).trans ((my_up_role fh8 is_94 is_112 rfl).trans ((my_up_role fh7 is_94 is_112 rfl).trans ((my_up_role fh6 is_94 is_112 rfl).trans ((my_up_role fh5 is_94 is_112 rfl).trans ((my_up_fld fh3 (by decide)).trans ((my_up_fld fh2 (by decide)).trans ((my_up_fld fh1 (by decide)).trans (rfl : h 94 16 = h 94 16)))))))))))))))))))))))))
    refine w_inv (k := 4) (as := [(2, v42)]) (r := []) (x := 94) (ls0 := [(2, 94), (2, v42), (9, 0), (9, 0), (9, 0), (9, 0)]) gz_92_80 gm_96 rfl is_94 rd_2 rfl rfl rfl rfl rfl (c_Desk_tellingRows (d := (d + 2)) (x1 := v42) tv42 (by first | assumption | omega | (subst_vars; omega)) (fun v45 => ?_))
    show wp l rho (d + 5) 92 83 [(2, 94), (2, x1), (0, x2), (0, x3), (0, x4), (9, 0), (9, 0)] [(1, v45)] h40 Q
    refine w_lstore (ls' := [(2, 94), (2, x1), (0, x2), (0, x3), (0, x4), (1, v45), (9, 0)]) gz_92_83 gm_92 rfl rfl rfl ?_
    refine w_aload_n gz_92_85 rfl ?_
    refine w_iload_n gz_92_86 rfl ?_
    refine w_lload gz_92_87 rfl ?_
    refine w_inv (k := 6) (as := [(1, v45), (0, x2)]) (r := []) (x := 94) (ls0 := [(2, 94), (0, x2), (1, v45), (9, 0), (9, 0), (9, 0), (9, 0), (9, 0), (9, 0), (9, 0)]) gz_92_89 gm_98 rfl is_94 rd_2 rfl rfl rfl rfl rfl (c_Desk_tryOtherValues (d := d) (x1 := x2) (x2 := v45) (by omega) (by omega) Lst_h40 Ln_h40 Td_h40 (fun h46 frh46 Lst_h46t47 => ?_))
    have gh46 : my_fr [(2, 11), (2, 12), (2, 13), (2, 14), (7, 0), (7, 1), (7, 2), (7, 3), (7, 4), (7, 5), (8, 0), (8, 1), (30, -1), (31, -1), (41, -1), (42, -1), (43, -1), (44, -1)] h h46 := my_fr.tr gh40 (frh46.mo rfl)
    have Ln_h46 : Ln h46 := Ln_ag (my_ag.fr frh46 rfl) Ln_h40
    have Td_h46 : Td h46 x2 := Td_ag (my_ag.fr frh46 rfl) Ln_h40 Td_h40
    show wp l rho (d + 5) 92 92 [(2, 94), (2, x1), (0, x2), (0, x3), (0, x4), (1, v45), (9, 0)] [] h46 Q
    refine w_aload_n gz_92_92 rfl ?_
    refine w_aload_n gz_92_93 rfl ?_
    refine w_iload_n gz_92_94 rfl ?_
    refine w_lload gz_92_95 rfl ?_
    refine w_inv (k := 4) (as := [(1, v45), (0, x2), (2, x1)]) (r := []) (x := 94) (ls0 := [(2, 94), (2, x1), (0, x2), (1, v45), (9, 0), (9, 0), (9, 0), (9, 0), (9, 0)]) gz_92_97 gm_104 rfl is_94 rd_2 rfl rfl rfl rfl rfl (c_Desk_tryRowsThatGo (d := d) (x1 := x1) (x2 := x2) (x3 := v45) t1 (by omega) (by omega) Lst_h46t47 Ln_h46 Td_h46 (fun h48 frh48 Lst_h48t49 => ?_))
    have gh48 : my_fr [(2, 11), (2, 12), (2, 13), (2, 14), (7, 0), (7, 1), (7, 2), (7, 3), (7, 4), (7, 5), (8, 0), (8, 1), (30, -1), (31, -1), (41, -1), (42, -1), (43, -1), (44, -1)] h h48 := my_fr.tr gh46 (frh48.mo rfl)
    have Ln_h48 : Ln h48 := Ln_ag (my_ag.fr frh48 rfl) Ln_h46
    have Td_h48 : Td h48 x2 := Td_ag (my_ag.fr frh48 rfl) Ln_h46 Td_h46
    show wp l rho (d + 5) 92 100 [(2, 94), (2, x1), (0, x2), (0, x3), (0, x4), (1, v45), (9, 0)] [] h48 Q
    refine w_aload_n gz_92_100 rfl ?_
    refine w_iload_n gz_92_101 rfl ?_
    refine w_inv (k := 0) (as := [(0, x2)]) (r := []) (x := 94) (ls0 := [(2, 94), (0, x2)]) gz_92_102 gm_105 rfl is_94 rd_2 rfl rfl rfl rfl rfl (c_Desk_tryRowThatComes (d := d) (x1 := x2) (by omega) (by omega) Lst_h48t49 Ln_h48 Td_h48 (fun h50 frh50 w51 w52 Lst_h50t53 => ?_))
    have gh50 : my_fr [(2, 11), (2, 12), (2, 13), (2, 14), (7, 0), (7, 1), (7, 2), (7, 3), (7, 4), (7, 5), (8, 0), (8, 1), (30, -1), (31, -1), (41, -1), (42, -1), (43, -1), (44, -1)] h h50 := my_fr.tr gh48 (frh50.mo rfl)
    have Ln_h50 : Ln h50 := Ln_ag (my_ag.fr frh50 rfl) Ln_h48
    have Td_h50 : Td h50 x2 := Td_ag (my_ag.fr frh50 rfl) Ln_h48 Td_h48
    show wp l rho (d + 5) 92 105 [(2, 94), (2, x1), (0, x2), (0, x3), (0, x4), (1, v45), (9, 0)] [] h50 Q
    have c54 := ((my_fr.at frh50 is_94 rfl).trans ((my_fr.at frh48 is_94 rfl).trans ((my_fr.at frh46 is_94 rfl).trans ((my_cp_role fh40 is_94 is_97 rfl).trans ((my_cp_role fh36 is_94 is_96 rfl).trans ((my_up_fld fh29 (by decide)).trans ((my_up_role fh26 is_94 is_111 rfl).trans ((my_up_role fh25 is_94 is_111 rfl).trans ((my_up_role fh24 is_94 is_111 rfl).trans ((my_up_role fh23 is_94 is_111 rfl).trans ((my_up_role fh22 is_94 is_111 rfl).trans ((my_up_role fh21 is_94 is_111 rfl).trans ((my_up_role fh19 is_94 is_113 rfl).trans ((my_up_role fh18 is_94 is_113 rfl).trans ((my_up_role fh17 is_94 is_113 rfl).trans ((my_up_role fh16 is_94 is_113 rfl).trans ((my_up_role fh15 is_94 is_113 rfl).trans ((my_up_role fh14 is_94 is_113 rfl).trans ((my_up_role fh10 is_94 is_112 rfl).trans ((my_up_role fh9 is_94 is_112 rfl).trans ((my_up_role fh8 is_94 is_112 rfl).trans ((my_up_role fh7 is_94 is_112 rfl).trans ((my_up_role fh6 is_94 is_112 rfl).trans ((my_up_role fh5 is_94 is_112 rfl).trans (my_up_self fh3)))))))))))))))))))))))))
    have c55 := ((my_fr.at frh50 is_94 rfl).trans ((my_fr.at frh48 is_94 rfl).trans ((my_fr.at frh46 is_94 rfl).trans ((my_cp_role fh40 is_94 is_97 rfl).trans ((my_cp_role fh36 is_94 is_96 rfl).trans ev30.symm)))))
    exact w_vret gz_92_105 gm_92 (k0 h50 (gh50) (by omega) (by omega) (by omega) Lst_h50t53)
  ·
    show wp l rho (d + 5) 92 49 [(2, 94), (2, x1), (0, x2), (0, x3), (0, x4), (9, 0), (9, 0)] [(0, 1), (2, 94)] h26 Q
    refine v_putB (j := 14) gz_92_49 rfl is_94 rd_2 rfl (by omega) (by omega) rfl (fun h56 fh56 => ?_)
    have gh56 : my_fr [(2, 11), (2, 12), (2, 13), (2, 14), (7, 0), (7, 1), (7, 2), (7, 3), (7, 4), (7, 5), (8, 0), (8, 1), (30, -1), (31, -1), (41, -1), (42, -1), (43, -1), (44, -1)] h h56 := my_fr.up gh26 is_94 fh56 rfl
    have Ln_h56 : Ln h56 := Ln_ag (my_ag.up fh56 is_94 rfl) Ln_h26
    have Td_h56 : Td h56 x2 := Td_ag (my_ag.up fh56 is_94 rfl) Ln_h26 Td_h26
    have Lst_h56 : Lst h56 := Lst_ag (my_ag.up fh56 is_94 rfl) Lst_h26
    refine w_aload_n gz_92_52 rfl ?_
    refine v_getI (j := 14) gz_92_53 rfl is_94 rd_2 rfl (fun v57 ev57 pv57 qv57 => ?_)
    have zv57 := ev57.trans (my_up_self fh56)
    refine w_ifeq (t := 65) gz_92_56 rfl (fun u58 => by exfalso; omega) (fun u58 => ?_)
    refine w_aload_n gz_92_59 rfl ?_
    refine w_iconst gz_92_60 (by decide) ?_
    refine w_iconst gz_92_61 (by decide) ?_
    refine w_inv (k := 0) (as := [(0, 0), (0, 0)]) (r := []) (x := 94) (ls0 := [(2, 94), (0, 0), (0, 0)]) gz_92_62 gm_94 rfl is_94 rd_2 rfl rfl rfl rfl rfl (c_Desk_keep (d := (d + 3)) (x1 := 0) (x2 := 0) (by omega) (by omega) (by omega) (by omega) Lst_h56 (by first | assumption | omega | (subst_vars; omega)) (by first | assumption | omega | (subst_vars; omega)) (by first | assumption | omega | (subst_vars; omega)) (fun h59 frh59 xp60 xp61 xp62 Lst_h59t63 => ?_))
    have gh59 : my_fr [(2, 11), (2, 12), (2, 13), (2, 14), (7, 0), (7, 1), (7, 2), (7, 3), (7, 4), (7, 5), (8, 0), (8, 1), (30, -1), (31, -1), (41, -1), (42, -1), (43, -1), (44, -1)] h h59 := my_fr.tr gh56 (frh59.mo rfl)
    have Ln_h59 : Ln h59 := Ln_ag (my_ag.fr frh59 rfl) Ln_h56
    have Td_h59 : Td h59 x2 := Td_ag (my_ag.fr frh59 rfl) Ln_h56 Td_h56
    show wp l rho (d + 5) 92 65 [(2, 94), (2, x1), (0, x2), (0, x3), (0, x4), (9, 0), (9, 0)] [] h59 Q
    refine w_aload_n gz_92_65 rfl ?_
    refine w_getX (v := 95) gz_92_66 is_94 rd_2 rfl (by decide) rfl ?_
    refine w_aload_n gz_92_69 rfl ?_
    refine w_inv (k := 0) (as := [(2, x1)]) (r := []) (x := 95) (ls0 := [(2, 95), (2, x1)]) gz_92_70 gm_25 rfl is_95 rd_6 rfl rfl rfl rfl rfl ?_
    refine w_aload_n gz_25_0 rfl ?_
    refine w_getX (v := (x1 + 1)) gz_25_1 t1 rd_6 rfl (by decide) rfl ?_
    refine w_iconst gz_25_4 (by decide) ?_
    refine w_aload_n gz_25_5 rfl ?_
    refine w_getX (v := 96) gz_25_6 is_95 rd_6 rfl (by decide) rfl ?_
    refine w_iconst gz_25_9 (by decide) ?_
    refine w_aload_n gz_25_10 rfl ?_
    refine w_getX (v := 96) gz_25_11 is_95 rd_6 rfl (by decide) rfl ?_
    refine v_alen (j := 240) gz_25_14 rfl is_96 rd_30 (by decide) ?_
    refine w_cpU gz_25_15 (ix_6_1 t1) rd_30 is_96 rd_30 (by omega) (by omega) (by omega) (by omega) (by omega) rfl (by decide) (by decide) (fun h68 fh68 => ?_)
    have gh68 : my_fr [(2, 11), (2, 12), (2, 13), (2, 14), (7, 0), (7, 1), (7, 2), (7, 3), (7, 4), (7, 5), (8, 0), (8, 1), (30, -1), (31, -1), (41, -1), (42, -1), (43, -1), (44, -1)] h h68 := my_fr.cp gh59 is_96 fh68 rfl
    have Ln_h68 : Ln h68 := Ln_ag (my_ag.cp fh68 is_96 rfl) Ln_h59
    have Td_h68 : Td h68 x2 := Td_ag (my_ag.cp fh68 is_96 rfl) Ln_h59 Td_h59
    have Lst_h68 : Lst h68 := Lst_ag (my_ag.cp fh68 is_96 rfl) Lst_h59t63
    refine w_aload_n gz_25_18 rfl ?_
    refine w_getX (v := (x1 + 2)) gz_25_19 t1 rd_6 rfl (by decide) rfl ?_
    refine w_iconst gz_25_22 (by decide) ?_
    refine w_aload_n gz_25_23 rfl ?_
    refine w_getX (v := 97) gz_25_24 is_95 rd_6 rfl (by decide) rfl ?_
    refine w_iconst gz_25_27 (by decide) ?_
    refine w_aload_n gz_25_28 rfl ?_
    refine w_getX (v := 97) gz_25_29 is_95 rd_6 rfl (by decide) rfl ?_
    refine v_alen (j := 3) gz_25_32 rfl is_97 rd_31 (by decide) ?_
    refine w_cpU gz_25_33 (ix_6_2 t1) rd_31 is_97 rd_31 (by omega) (by omega) (by omega) (by omega) (by omega) rfl (by decide) (by decide) (fun h72 fh72 => ?_)
    have gh72 : my_fr [(2, 11), (2, 12), (2, 13), (2, 14), (7, 0), (7, 1), (7, 2), (7, 3), (7, 4), (7, 5), (8, 0), (8, 1), (30, -1), (31, -1), (41, -1), (42, -1), (43, -1), (44, -1)] h h72 := my_fr.cp gh68 is_97 fh72 rfl
    have Ln_h72 : Ln h72 := Ln_ag (my_ag.cp fh72 is_97 rfl) Ln_h68
    have Td_h72 : Td h72 x2 := Td_ag (my_ag.cp fh72 is_97 rfl) Ln_h68 Td_h68
    have Lst_h72 : Lst h72 := Lst_ag (my_ag.cp fh72 is_97 rfl) Lst_h68
    refine w_vret gz_25_36 gm_25 ?_
    show wp l rho (d + 5) 92 73 [(2, 94), (2, x1), (0, x2), (0, x3), (0, x4), (9, 0), (9, 0)] [] h72 Q
    refine w_aload_n gz_92_73 rfl ?_
    refine w_aload_n gz_92_74 rfl ?_
    refine w_getX (v := 27) gz_92_75 is_94 rd_2 rfl (by decide) rfl ?_
    refine w_iload_n gz_92_78 rfl ?_
    refine w_aald gz_92_79 is_27 rd_22 rfl (by omega) (by omega) (fun v74 ev74 tv74 => ?_)
    have ce75 : h72 94 15 = h 94 15 := ((my_cp_role fh72 is_94 is_97 rfl).trans ((my_cp_role fh68 is_94 is_96 rfl).trans ((my_fr.at frh59 is_94 rfl).trans ((my_up_fld fh56 (by decide)).trans ((my_up_role fh26 is_94 is_111 rfl).trans ((my_up_role fh25 is_94 is_111 rfl).trans ((my_up_role fh24 is_94 is_111 rfl).trans ((my_up_role fh23 is_94 is_111 rfl).trans ((my_up_role fh22 is_94 is_111 rfl).trans ((my_up_role fh21 is_94 is_111 rfl).trans ((my_up_role fh19 is_94 is_113 rfl).trans ((my_up_role fh18 is_94 is_113 rfl).trans ((my_up_role fh17 is_94 is_113 rfl).trans ((my_up_role fh16 is_94 is_113 rfl).trans ((my_up_role fh15 is_94 is_113 rfl).trans ((my_up_role fh14 is_94 is_113 rfl).trans ((my_up_role fh10 is_94 is_112 rfl).trans ((my_up_role fh9 is_94 is_112 rfl).trans ((my_up_role fh8 is_94 is_112 rfl).trans ((my_up_role fh7 is_94 is_112 rfl).trans ((my_up_role fh6 is_94 is_112 rfl).trans ((my_up_role fh5 is_94 is_112 rfl).trans ((my_up_fld fh3 (by decide)).trans ((my_up_fld fh2 (by decide)).trans ((my_up_fld fh1 (by decide)).trans (rfl : h 94 15 = h 94 15))))))))))))))))))))))))))
    have ce76 : h72 94 16 = h 94 16 := ((my_cp_role fh72 is_94 is_97 rfl).trans ((my_cp_role fh68 is_94 is_96 rfl).trans ((my_fr.at frh59 is_94 rfl).trans ((my_up_fld fh56 (by decide)).trans ((my_up_role fh26 is_94 is_111 rfl).trans ((my_up_role fh25 is_94 is_111 rfl).trans ((my_up_role fh24 is_94 is_111 rfl).trans ((my_up_role fh23 is_94 is_111 rfl).trans ((my_up_role fh22 is_94 is_111 rfl).trans ((my_up_role fh21 is_94 is_111 rfl).trans ((my_up_role fh19 is_94 is_113 rfl).trans ((my_up_role fh18 is_94 is_113 rfl).trans ((my_up_role fh17 is_94 is_113 rfl).trans ((my_up_role fh16 is_94 is_113 rfl).trans ((my_up_role fh15 is_94 is_113 rfl).trans ((my_up_role fh14 is_94 is_113 rfl).trans ((my_up_role fh10 is_94 is_112 rfl).trans ((my_up_role fh9 is_94 is_112 rfl).trans ((my_up_role fh8 is_94 is_112 rfl).trans ((my_up_role fh7 is_94 is_112 rfl).trans ((my_up_role fh6 is_94 is_112 rfl).trans ((my_up_role fh5 is_94 is_112 rfl).trans ((my_up_fld fh3 (by decide)).trans ((my_up_fld fh2 (by decide)).trans ((my_up_fld fh1 (by decide)).trans (rfl : h 94 16 = h 94 16))))))))))))))))))))))))))
    refine w_inv (k := 4) (as := [(2, v74)]) (r := []) (x := 94) (ls0 := [(2, 94), (2, v74), (9, 0), (9, 0), (9, 0), (9, 0)]) gz_92_80 gm_96 rfl is_94 rd_2 rfl rfl rfl rfl rfl (c_Desk_tellingRows (d := (d + 2)) (x1 := v74) tv74 (by first | assumption | omega | (subst_vars; omega)) (fun v77 => ?_))
    show wp l rho (d + 5) 92 83 [(2, 94), (2, x1), (0, x2), (0, x3), (0, x4), (9, 0), (9, 0)] [(1, v77)] h72 Q
    refine w_lstore (ls' := [(2, 94), (2, x1), (0, x2), (0, x3), (0, x4), (1, v77), (9, 0)]) gz_92_83 gm_92 rfl rfl rfl ?_
    refine w_aload_n gz_92_85 rfl ?_
    refine w_iload_n gz_92_86 rfl ?_
    refine w_lload gz_92_87 rfl ?_
    refine w_inv (k := 6) (as := [(1, v77), (0, x2)]) (r := []) (x := 94) (ls0 := [(2, 94), (0, x2), (1, v77), (9, 0), (9, 0), (9, 0), (9, 0), (9, 0), (9, 0), (9, 0)]) gz_92_89 gm_98 rfl is_94 rd_2 rfl rfl rfl rfl rfl (c_Desk_tryOtherValues (d := d) (x1 := x2) (x2 := v77) (by omega) (by omega) Lst_h72 Ln_h72 Td_h72 (fun h78 frh78 Lst_h78t79 => ?_))
    have gh78 : my_fr [(2, 11), (2, 12), (2, 13), (2, 14), (7, 0), (7, 1), (7, 2), (7, 3), (7, 4), (7, 5), (8, 0), (8, 1), (30, -1), (31, -1), (41, -1), (42, -1), (43, -1), (44, -1)] h h78 := my_fr.tr gh72 (frh78.mo rfl)
    have Ln_h78 : Ln h78 := Ln_ag (my_ag.fr frh78 rfl) Ln_h72
    have Td_h78 : Td h78 x2 := Td_ag (my_ag.fr frh78 rfl) Ln_h72 Td_h72
    show wp l rho (d + 5) 92 92 [(2, 94), (2, x1), (0, x2), (0, x3), (0, x4), (1, v77), (9, 0)] [] h78 Q
    refine w_aload_n gz_92_92 rfl ?_
    refine w_aload_n gz_92_93 rfl ?_
    refine w_iload_n gz_92_94 rfl ?_
    refine w_lload gz_92_95 rfl ?_
    refine w_inv (k := 4) (as := [(1, v77), (0, x2), (2, x1)]) (r := []) (x := 94) (ls0 := [(2, 94), (2, x1), (0, x2), (1, v77), (9, 0), (9, 0), (9, 0), (9, 0), (9, 0)]) gz_92_97 gm_104 rfl is_94 rd_2 rfl rfl rfl rfl rfl (c_Desk_tryRowsThatGo (d := d) (x1 := x1) (x2 := x2) (x3 := v77) t1 (by omega) (by omega) Lst_h78t79 Ln_h78 Td_h78 (fun h80 frh80 Lst_h80t81 => ?_))
    have gh80 : my_fr [(2, 11), (2, 12), (2, 13), (2, 14), (7, 0), (7, 1), (7, 2), (7, 3), (7, 4), (7, 5), (8, 0), (8, 1), (30, -1), (31, -1), (41, -1), (42, -1), (43, -1), (44, -1)] h h80 := my_fr.tr gh78 (frh80.mo rfl)
    have Ln_h80 : Ln h80 := Ln_ag (my_ag.fr frh80 rfl) Ln_h78
    have Td_h80 : Td h80 x2 := Td_ag (my_ag.fr frh80 rfl) Ln_h78 Td_h78
    show wp l rho (d + 5) 92 100 [(2, 94), (2, x1), (0, x2), (0, x3), (0, x4), (1, v77), (9, 0)] [] h80 Q
    refine w_aload_n gz_92_100 rfl ?_
    refine w_iload_n gz_92_101 rfl ?_
    refine w_inv (k := 0) (as := [(0, x2)]) (r := []) (x := 94) (ls0 := [(2, 94), (0, x2)]) gz_92_102 gm_105 rfl is_94 rd_2 rfl rfl rfl rfl rfl (c_Desk_tryRowThatComes (d := d) (x1 := x2) (by omega) (by omega) Lst_h80t81 Ln_h80 Td_h80 (fun h82 frh82 w83 w84 Lst_h82t85 => ?_))
    have gh82 : my_fr [(2, 11), (2, 12), (2, 13), (2, 14), (7, 0), (7, 1), (7, 2), (7, 3), (7, 4), (7, 5), (8, 0), (8, 1), (30, -1), (31, -1), (41, -1), (42, -1), (43, -1), (44, -1)] h h82 := my_fr.tr gh80 (frh82.mo rfl)
    have Ln_h82 : Ln h82 := Ln_ag (my_ag.fr frh82 rfl) Ln_h80
    have Td_h82 : Td h82 x2 := Td_ag (my_ag.fr frh82 rfl) Ln_h80 Td_h80
    show wp l rho (d + 5) 92 105 [(2, 94), (2, x1), (0, x2), (0, x3), (0, x4), (1, v77), (9, 0)] [] h82 Q
    have c86 := ((my_fr.at frh82 is_94 rfl).trans ((my_fr.at frh80 is_94 rfl).trans ((my_fr.at frh78 is_94 rfl).trans ((my_cp_role fh72 is_94 is_97 rfl).trans ((my_cp_role fh68 is_94 is_96 rfl).trans ((my_fr.at frh59 is_94 rfl).trans ((my_up_fld fh56 (by decide)).trans ((my_up_role fh26 is_94 is_111 rfl).trans ((my_up_role fh25 is_94 is_111 rfl).trans ((my_up_role fh24 is_94 is_111 rfl).trans ((my_up_role fh23 is_94 is_111 rfl).trans ((my_up_role fh22 is_94 is_111 rfl).trans ((my_up_role fh21 is_94 is_111 rfl).trans ((my_up_role fh19 is_94 is_113 rfl).trans ((my_up_role fh18 is_94 is_113 rfl).trans ((my_up_role fh17 is_94 is_113 rfl).trans ((my_up_role fh16 is_94 is_113 rfl).trans ((my_up_role fh15 is_94 is_113 rfl).trans ((my_up_role fh14 is_94 is_113 rfl).trans ((my_up_role fh10 is_94 is_112 rfl).trans ((my_up_role fh9 is_94 is_112 rfl).trans ((my_up_role fh8 is_94 is_112 rfl).trans ((my_up_role fh7 is_94 is_112 rfl).trans ((my_up_role fh6 is_94 is_112 rfl).trans ((my_up_role fh5 is_94 is_112 rfl).trans (my_up_self fh3))))))))))))))))))))))))))
    have c87 := ((my_fr.at frh82 is_94 rfl).trans ((my_fr.at frh80 is_94 rfl).trans ((my_fr.at frh78 is_94 rfl).trans ((my_cp_role fh72 is_94 is_97 rfl).trans ((my_cp_role fh68 is_94 is_96 rfl).trans ((my_fr.at frh59 is_94 rfl).trans ev57.symm))))))
    exact w_vret gz_92_105 gm_92 (k0 h82 (gh82) (by omega) (by omega) (by omega) Lst_h82t85)
theorem c_ThroughWindow_way {l : Launch} {rho : Nat → Int32} {d : Nat} {h : my_H} {Q : my_H → my_V → Prop} {x1 x2 x3 x4 x5 x6 x7 : Int} (n_Ln : Ln h) (k0 : ∀ (h' : my_H), my_fr [(2, 11), (2, 12), (2, 13), (2, 14), (2, 15), (2, 16), (7, 0), (7, 1), (7, 2), (7, 3), (7, 4), (7, 5), (8, 0), (8, 1), (30, -1), (31, -1), (41, -1), (42, -1), (43, -1), (44, -1)] h h' → Ln h' → Q h' (0, (-1))) (k1 : ∀ (h' : my_H) (y : Int), my_fr [(2, 11), (2, 12), (2, 13), (2, 14), (2, 15), (2, 16), (7, 0), (7, 1), (7, 2), (7, 3), (7, 4), (7, 5), (8, 0), (8, 1), (30, -1), (31, -1), (41, -1), (42, -1), (43, -1), (44, -1)] h h' → 0 ≤ x1 → x1 ≤ 5 → 0 ≤ x2 → x2 ≤ 2 → (-1) ≤ x6 → 0 ≤ x7 → x7 ≤ 5 → Ln h' → Q h' (0, y)) : wp l rho (d + 6) 108 0 [(2, 0), (0, x1), (0, x2), (0, x3), (0, x4), (0, x5), (0, x6), (0, x7), (9, 0)] [] h Q := by
  have J77_0 : ∀ (p77_0 r77_1 p77_2 p77_3 p77_4 : Int) (h77_0 : my_H), my_fr [(2, 11), (2, 12), (2, 13), (2, 14), (2, 15), (2, 16), (7, 0), (7, 1), (7, 2), (7, 3), (7, 4), (7, 5), (8, 0), (8, 1), (30, -1), (31, -1), (41, -1), (42, -1), (43, -1), (44, -1)] h h77_0 → my_is 7 r77_1 → 0 ≤ x1 → x1 ≤ 5 → 0 ≤ x2 → x2 ≤ 2 → (-1) ≤ p77_0 → 0 ≤ p77_4 → p77_4 ≤ 2 → (-1) ≤ p77_2 → 0 ≤ p77_3 → p77_3 ≤ 1 → (-1) ≤ x6 → p77_0 ≤ x6 → x6 ≤ p77_0 → h77_0 94 12 = p77_2 → h77_0 94 14 = p77_3 → h77_0 94 15 = p77_4 → Ln h77_0 → wp l rho (d + 6) 108 77 [(2, 0), (0, x1), (0, x2), (0, x3), (0, x4), (0, x5), (0, p77_0), (0, x7), (9, 0)] [(2, r77_1)] h77_0 Q := by
    intro p77_0 r77_1 p77_2 p77_3 p77_4 h77_0 gh_77_0 tr77_1_77_0 q0_77_0 q1_77_0 q2_77_0 q3_77_0 q4_77_0 q5_77_0 q6_77_0 q7_77_0 q8_77_0 q9_77_0 q10_77_0 q11_77_0 q12_77_0 c94_12_77_0 c94_14_77_0 c94_15_77_0 n_Ln_77_0
    refine w_astore (ls' := [(2, 0), (0, x1), (0, x2), (0, x3), (0, x4), (0, x5), (0, p77_0), (0, x7), (2, r77_1)]) gz_108_77 gm_108 rfl rfl rfl ?_
    refine w_iload gz_108_79 rfl ?_
    by_cases u1 : x7 = 0
    ·
      refine w_tswE (t := 120) gz_108_81 u1 (by decide) (by decide) rfl rfl ?_
      refine w_aload gz_108_120 rfl ?_
      refine v_getI (j := 0) gz_108_122 rfl tr77_1_77_0 rd_7 rfl (fun v2 ev2 pv2 qv2 => ?_)
      exact w_iret gz_108_125 gm_108 (k1 h77_0 (v2) (gh_77_0) (by omega) (by omega) (by omega) (by omega) (by omega) (by omega) (by omega) n_Ln_77_0)
    ·
      by_cases u3 : x7 = 1
      ·
        refine w_tswE (t := 126) gz_108_81 u3 (by decide) (by decide) rfl rfl ?_
        refine w_aload gz_108_126 rfl ?_
        refine v_getI (j := 1) gz_108_128 rfl tr77_1_77_0 rd_7 rfl (fun v4 ev4 pv4 qv4 => ?_)
        exact w_iret gz_108_131 gm_108 (k1 h77_0 (v4) (gh_77_0) (by omega) (by omega) (by omega) (by omega) (by omega) (by omega) (by omega) n_Ln_77_0)
      ·
        by_cases u5 : x7 = 2
        ·
          refine w_tswE (t := 132) gz_108_81 u5 (by decide) (by decide) rfl rfl ?_
          refine w_aload gz_108_132 rfl ?_
          refine v_getI (j := 2) gz_108_134 rfl tr77_1_77_0 rd_7 rfl (fun v6 ev6 pv6 qv6 => ?_)
          exact w_iret gz_108_137 gm_108 (k1 h77_0 (v6) (gh_77_0) (by omega) (by omega) (by omega) (by omega) (by omega) (by omega) (by omega) n_Ln_77_0)
        ·
          by_cases u7 : x7 = 3
          ·
            refine w_tswE (t := 138) gz_108_81 u7 (by decide) (by decide) rfl rfl ?_
            refine w_aload gz_108_138 rfl ?_
            refine v_getI (j := 3) gz_108_140 rfl tr77_1_77_0 rd_7 rfl (fun v8 ev8 pv8 qv8 => ?_)
            exact w_iret gz_108_143 gm_108 (k1 h77_0 (v8) (gh_77_0) (by omega) (by omega) (by omega) (by omega) (by omega) (by omega) (by omega) n_Ln_77_0)
          ·
            by_cases u9 : x7 = 4
            ·
              refine w_tswE (t := 144) gz_108_81 u9 (by decide) (by decide) rfl rfl ?_
              refine w_aload gz_108_144 rfl ?_
              refine v_getI (j := 4) gz_108_146 rfl tr77_1_77_0 rd_7 rfl (fun v10 ev10 pv10 qv10 => ?_)
              exact w_iret gz_108_149 gm_108 (k1 h77_0 (v10) (gh_77_0) (by omega) (by omega) (by omega) (by omega) (by omega) (by omega) (by omega) n_Ln_77_0)
            ·
              by_cases u11 : x7 = 5
              ·
                refine w_tswE (t := 150) gz_108_81 u11 (by decide) (by decide) rfl rfl ?_
                refine w_aload gz_108_150 rfl ?_
                refine v_getI (j := 5) gz_108_152 rfl tr77_1_77_0 rd_7 rfl (fun v12 ev12 pv12 qv12 => ?_)
                exact w_iret gz_108_155 gm_108 (k1 h77_0 (v12) (gh_77_0) (by omega) (by omega) (by omega) (by omega) (by omega) (by omega) (by omega) n_Ln_77_0)
              ·
                refine w_tswD (t := 156) gz_108_81 (by omega) rfl ?_
                refine w_iconst gz_108_156 (by decide) ?_
                exact w_iret gz_108_157 gm_108 (k0 h77_0 (gh_77_0) n_Ln_77_0)
  refine w_iload gz_108_0 rfl ?_
  refine w_iconst gz_108_2 (by decide) ?_
  refine w_iclt (t := 27) gz_108_3 rfl (fun u13 => ?_) (fun u13 => ?_)
  ·
    refine w_iconst gz_108_27 (by decide) ?_
    exact w_iret gz_108_28 gm_108 (k0 h (my_fr.rf) n_Ln)
  ·
    refine w_aload_n gz_108_6 rfl ?_
    refine w_getX (v := 94) gz_108_7 is_0 rd_9 rfl (by decide) rfl ?_
    refine w_aload_n gz_108_10 rfl ?_
    refine w_getX (v := 7) gz_108_11 is_0 rd_9 rfl (by decide) rfl ?_
    refine w_iload_n gz_108_14 rfl ?_
    refine w_iload_n gz_108_15 rfl ?_
    refine w_iload_n gz_108_16 rfl ?_
    refine w_iload gz_108_17 rfl ?_
    refine w_iload gz_108_19 rfl ?_
    refine w_inv (k := 0) (as := [(0, x5), (0, x4), (0, x3), (0, x2), (0, x1), (2, 7)]) (r := []) (x := 94) (ls0 := [(2, 94), (2, 7), (0, x1), (0, x2), (0, x3), (0, x4), (0, x5)]) gz_108_21 gm_87 rfl is_94 rd_2 rfl rfl rfl rfl rfl (c_Desk_opens (d := d) (x1 := 7) (x2 := x1) (x3 := x2) (x4 := x3) (x5 := x4) (x6 := x5) is_7 n_Ln (fun h16 frh16 => ?_) (fun h17 frh17 w18 w19 w20 w21 w22 w23 xp24 xp25 xp26 xp27 xp28 => ?_))
    ·
      have gh16 : my_fr [(2, 11), (2, 12), (2, 13), (2, 14), (2, 15), (2, 16), (7, 0), (7, 1), (7, 2), (7, 3), (7, 4), (7, 5), (8, 0), (8, 1), (30, -1), (31, -1), (41, -1), (42, -1), (43, -1), (44, -1)] h h16 := my_fr.tr my_fr.rf (frh16.mo rfl)
      have Ln_h16 : Ln h16 := Ln_ag (my_ag.fr frh16 rfl) n_Ln
      show wp l rho (d + 6) 108 24 [(2, 0), (0, x1), (0, x2), (0, x3), (0, x4), (0, x5), (0, x6), (0, x7), (9, 0)] [(0, 0)] h16 Q
      refine w_ifne (t := 29) gz_108_24 rfl (fun u29 => by exfalso; omega) (fun u29 => ?_)
      refine w_iconst gz_108_27 (by decide) ?_
      exact w_iret gz_108_28 gm_108 (k0 h16 (gh16) Ln_h16)
    ·
      have gh17 : my_fr [(2, 11), (2, 12), (2, 13), (2, 14), (2, 15), (2, 16), (7, 0), (7, 1), (7, 2), (7, 3), (7, 4), (7, 5), (8, 0), (8, 1), (30, -1), (31, -1), (41, -1), (42, -1), (43, -1), (44, -1)] h h17 := my_fr.tr my_fr.rf (frh17.mo rfl)
      have Ln_h17 : Ln h17 := Ln_ag (my_ag.fr frh17 rfl) n_Ln
      show wp l rho (d + 6) 108 24 [(2, 0), (0, x1), (0, x2), (0, x3), (0, x4), (0, x5), (0, x6), (0, x7), (9, 0)] [(0, 1)] h17 Q
      have Td_h17t30 : Td h17 x1 := xp28
      refine w_ifne (t := 29) gz_108_24 rfl (fun u31 => ?_) (fun u31 => by exfalso; omega)
      refine w_aload_n gz_108_29 rfl ?_
      refine w_getX (v := 94) gz_108_30 is_0 rd_9 rfl (by decide) rfl ?_
      refine w_aload_n gz_108_33 rfl ?_
      refine w_getX (v := 7) gz_108_34 is_0 rd_9 rfl (by decide) rfl ?_
      refine w_iload_n gz_108_37 rfl ?_
      refine w_iload gz_108_38 rfl ?_
      refine w_iload gz_108_40 rfl ?_
      refine w_iconst gz_108_42 (by decide) ?_
      refine w_icne (t := 50) gz_108_43 rfl (fun u34 => ?_) (fun u34 => ?_)
      ·
        refine w_iconst gz_108_50 (by decide) ?_
        refine w_inv (k := 2) (as := [(0, 0), (0, x6), (0, x1), (2, 7)]) (r := []) (x := 94) (ls0 := [(2, 94), (2, 7), (0, x1), (0, x6), (0, 0), (9, 0), (9, 0)]) gz_108_51 gm_92 rfl is_94 rd_2 rfl rfl rfl rfl rfl (c_Desk_search (d := d) (x1 := 7) (x2 := x1) (x3 := x6) (x4 := 0) is_7 (by omega) (by omega) (by omega) (by omega) (by omega) Ln_h17 Td_h17t30 (by first | assumption | omega | (subst_vars; omega)) (fun h35 frh35 w36 w37 w38 Lst_h35t39 => ?_))
        have gh35 : my_fr [(2, 11), (2, 12), (2, 13), (2, 14), (2, 15), (2, 16), (7, 0), (7, 1), (7, 2), (7, 3), (7, 4), (7, 5), (8, 0), (8, 1), (30, -1), (31, -1), (41, -1), (42, -1), (43, -1), (44, -1)] h h35 := my_fr.tr gh17 (frh35.mo rfl)
        have Ln_h35 : Ln h35 := Ln_ag (my_ag.fr frh35 rfl) Ln_h17
        have Td_h35 : Td h35 x1 := Td_ag (my_ag.fr frh35 rfl) Ln_h17 Td_h17t30
        show wp l rho (d + 6) 108 54 [(2, 0), (0, x1), (0, x2), (0, x3), (0, x4), (0, x5), (0, x6), (0, x7), (9, 0)] [] h35 Q
        refine w_iload gz_108_54 rfl ?_
        refine w_iconst gz_108_56 (by decide) ?_
        refine w_icne (t := 70) gz_108_57 rfl (fun u40 => ?_) (fun u40 => by exfalso; omega)
        refine w_aload_n gz_108_70 rfl ?_
        refine w_getX (v := 94) gz_108_71 is_0 rd_9 rfl (by decide) rfl ?_
        refine w_getX (v := 113) gz_108_74 is_94 rd_2 rfl (by decide) rfl ?_
        exact J77_0 (x6) (113) ((h35 94 12)) ((h35 94 14)) ((h17 94 15)) h35 (gh35) is_113 (by omega) (by omega) (by omega) (by omega) (by omega) (by omega) (by omega) (by omega) (by omega) (by omega) (by omega) (by omega) (by omega) ((rfl : h35 94 12 = h35 94 12).trans (by omega)) ((rfl : h35 94 14 = h35 94 14).trans (by omega)) (((my_fr.at frh35 is_94 rfl).trans (rfl : h17 94 15 = h17 94 15)).trans (by omega)) Ln_h35
      ·
        refine w_iconst gz_108_46 (by decide) ?_
        refine w_goto (t := 51) gz_108_47 rfl ?_
        refine w_inv (k := 2) (as := [(0, 1), (0, x6), (0, x1), (2, 7)]) (r := []) (x := 94) (ls0 := [(2, 94), (2, 7), (0, x1), (0, x6), (0, 1), (9, 0), (9, 0)]) gz_108_51 gm_92 rfl is_94 rd_2 rfl rfl rfl rfl rfl (c_Desk_search (d := d) (x1 := 7) (x2 := x1) (x3 := x6) (x4 := 1) is_7 (by omega) (by omega) (by omega) (by omega) (by omega) Ln_h17 Td_h17t30 (by first | assumption | omega | (subst_vars; omega)) (fun h43 frh43 w44 w45 w46 Lst_h43t47 => ?_))
        have gh43 : my_fr [(2, 11), (2, 12), (2, 13), (2, 14), (2, 15), (2, 16), (7, 0), (7, 1), (7, 2), (7, 3), (7, 4), (7, 5), (8, 0), (8, 1), (30, -1), (31, -1), (41, -1), (42, -1), (43, -1), (44, -1)] h h43 := my_fr.tr gh17 (frh43.mo rfl)
        have Ln_h43 : Ln h43 := Ln_ag (my_ag.fr frh43 rfl) Ln_h17
        have Td_h43 : Td h43 x1 := Td_ag (my_ag.fr frh43 rfl) Ln_h17 Td_h17t30
        show wp l rho (d + 6) 108 54 [(2, 0), (0, x1), (0, x2), (0, x3), (0, x4), (0, x5), (0, x6), (0, x7), (9, 0)] [] h43 Q
        refine w_iload gz_108_54 rfl ?_
        refine w_iconst gz_108_56 (by decide) ?_
        refine w_icne (t := 70) gz_108_57 rfl (fun u48 => by exfalso; omega) (fun u48 => ?_)
        refine w_aload_n gz_108_60 rfl ?_
        refine w_getX (v := 94) gz_108_61 is_0 rd_9 rfl (by decide) rfl ?_
        refine w_getX (v := 112) gz_108_64 is_94 rd_2 rfl (by decide) rfl ?_
        refine w_goto (t := 77) gz_108_67 rfl ?_
        exact J77_0 (x6) (112) ((h43 94 12)) ((h43 94 14)) ((h17 94 15)) h43 (gh43) is_112 (by omega) (by omega) (by omega) (by omega) (by omega) (by omega) (by omega) (by omega) (by omega) (by omega) (by omega) (by omega) (by omega) ((rfl : h43 94 12 = h43 94 12).trans (by omega)) ((rfl : h43 94 14 = h43 94 14).trans (by omega)) (((my_fr.at frh43 is_94 rfl).trans (rfl : h17 94 15 = h17 94 15)).trans (by omega)) Ln_h43
end MYNThroughWindow_row
