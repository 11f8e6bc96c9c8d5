/-! contracts, printed by wip/gen/gy.py -/
section MYNModel_isEdit5
theorem c_Model_isEdit5 {l : Launch} {rho : Nat → Int32} {d : Nat} {h : my_H} {Q : my_H → my_V → Prop} {x1 x2 x3 x4 x5 x6 : Int} (a1 : 0 ≤ x1) (b1 : x1 ≤ 15) (n_Mw : Mw h) (n_Mw3 : Mw3 h) (n_Rws : Rws h) (k0 : ∀ (h' : my_H), my_fr [(10, 27), (10, 32), (10, 33), (10, 37), (73, -1), (74, -1), (75, -1), (76, -1), (77, -1), (78, -1), (79, -1), (80, -1), (81, -1), (82, -1), (83, -1), (84, -1), (85, -1), (86, -1)] h h' → ¬ MdOk h x1 x2 x3 x4 x5 x6 → Q h' (0, 0)) (k1 : ∀ (h' : my_H), my_fr [(10, 27), (10, 32), (10, 33), (10, 37), (73, -1), (74, -1), (75, -1), (76, -1), (77, -1), (78, -1), (79, -1), (80, -1), (81, -1), (82, -1), (83, -1), (84, -1), (85, -1), (86, -1)] h h' → 0 ≤ x2 → x2 ≤ 5 → 0 ≤ x3 → x3 ≤ 2 → 0 ≤ x2 → x2 ≤ 5 → Fp h' x2 → 0 ≤ x3 → x3 ≤ 2 → (x3 ≠ 2 → 0 ≤ x4 ∧ x4 < h' 151 37) → (x3 = 0 → 0 ≤ x5 ∧ x5 < h' 151 27 ∧ 0 ≤ x6 ∧ x6 ≤ 199) → FwW h' (h' 151 27) → MdOk h x1 x2 x3 x4 x5 x6 → VmI h' (zqMS h x1) (mBs h x2) (h 157 (mBs h x2)) (mCW h x2) → VmS h' → h' 151 33 = mBs h x2 → Q h' (0, 1)) : wp l rho (d + 4) 208 0 [(2, 151), (0, x1), (0, x2), (0, x3), (0, x4), (0, x5), (0, x6), (9, 0)] [] h Q := by
  refine w_aload_n gz_208_0 rfl ?_
  refine w_iload_n gz_208_1 rfl ?_
  refine w_inv (k := 0) (as := [(0, x2)]) (r := []) (x := 151) (ls0 := [(2, 151), (0, x2)]) gz_208_2 gm_193 rfl is_151 rd_10 rfl rfl rfl rfl rfl ?_
  refine w_iload_n gz_193_0 rfl ?_
  refine w_iflt (t := 23) gz_193_1 rfl (fun u1 => ?_) (fun u1 => ?_)
  ·
    refine w_iconst gz_193_23 (by decide) ?_
    refine w_bret gz_193_24 gm_193 (by omega) (by omega) ?_
    show wp l rho (d + 4) 208 5 [(2, 151), (0, x1), (0, x2), (0, x3), (0, x4), (0, x5), (0, x6), (9, 0)] [(0, 0)] h Q
    refine w_ifeq (t := 17) gz_208_5 rfl (fun u2 => ?_) (fun u2 => by exfalso; omega)
    refine w_iconst gz_208_17 (by decide) ?_
    exact w_bret gz_208_18 gm_208 (by omega) (by omega) (k0 h (my_fr.rf) (by first | exact no_such_saying | exact fwz | exact vn | exact vs | exact vb | (unfold MdOk; exact ⟨⟨by omega, by omega⟩, ⟨by omega, by omega, by omega⟩, (fun _ => ⟨by omega, by omega⟩), (fun _ => ⟨by omega, by omega, by omega, by omega⟩)⟩) | (intro z; have z1 := z.1; omega) | (intro z; have z2 := z.2.1; have z3 := z2.2.2; omega) | (intro z; have z3 := z.2.2.1 (by omega); omega) | (intro z; have z4 := z.2.2.2 (by omega); omega) | assumption | omega))
  ·
    refine w_iload_n gz_193_4 rfl ?_
    refine w_bipush gz_193_5 (by decide) ?_
    refine w_icge (t := 23) gz_193_7 rfl (fun u3 => ?_) (fun u3 => ?_)
    ·
      refine w_iconst gz_193_23 (by decide) ?_
      refine w_bret gz_193_24 gm_193 (by omega) (by omega) ?_
      show wp l rho (d + 4) 208 5 [(2, 151), (0, x1), (0, x2), (0, x3), (0, x4), (0, x5), (0, x6), (9, 0)] [(0, 0)] h Q
      refine w_ifeq (t := 17) gz_208_5 rfl (fun u4 => ?_) (fun u4 => by exfalso; omega)
      refine w_iconst gz_208_17 (by decide) ?_
      exact w_bret gz_208_18 gm_208 (by omega) (by omega) (k0 h (my_fr.rf) (by first | exact no_such_saying | exact fwz | exact vn | exact vs | exact vb | (unfold MdOk; exact ⟨⟨by omega, by omega⟩, ⟨by omega, by omega, by omega⟩, (fun _ => ⟨by omega, by omega⟩), (fun _ => ⟨by omega, by omega, by omega, by omega⟩)⟩) | (intro z; have z1 := z.1; omega) | (intro z; have z2 := z.2.1; have z3 := z2.2.2; omega) | (intro z; have z3 := z.2.2.1 (by omega); omega) | (intro z; have z4 := z.2.2.2 (by omega); omega) | assumption | omega))
    ·
      refine w_aload_n gz_193_10 rfl ?_
      refine w_getX (v := 164) gz_193_11 is_151 rd_10 rfl (by decide) rfl ?_
      refine w_iload_n gz_193_14 rfl ?_
      refine w_bald gz_193_15 is_164 rd_63 (by omega) (by omega) (fun v6 ev6 pv6 qv6 => ?_)
      refine w_ifeq (t := 23) gz_193_16 rfl (fun u7 => ?_) (fun u7 => ?_)
      ·
        refine w_iconst gz_193_23 (by decide) ?_
        refine w_bret gz_193_24 gm_193 (by omega) (by omega) ?_
        show wp l rho (d + 4) 208 5 [(2, 151), (0, x1), (0, x2), (0, x3), (0, x4), (0, x5), (0, x6), (9, 0)] [(0, 0)] h Q
        refine w_ifeq (t := 17) gz_208_5 rfl (fun u8 => ?_) (fun u8 => by exfalso; omega)
        refine w_iconst gz_208_17 (by decide) ?_
        exact w_bret gz_208_18 gm_208 (by omega) (by omega) (k0 h (my_fr.rf) (by first | exact no_such_saying | exact fwz | exact vn | exact vs | exact vb | (unfold MdOk; exact ⟨⟨by omega, by omega⟩, ⟨by omega, by omega, by omega⟩, (fun _ => ⟨by omega, by omega⟩), (fun _ => ⟨by omega, by omega, by omega, by omega⟩)⟩) | (intro z; have z1 := z.1; omega) | (intro z; have z2 := z.2.1; have z3 := z2.2.2; omega) | (intro z; have z3 := z.2.2.1 (by omega); omega) | (intro z; have z4 := z.2.2.2 (by omega); omega) | assumption | omega))
      ·
        refine w_iconst gz_193_19 (by decide) ?_
        refine w_goto (t := 24) gz_193_20 rfl ?_
        refine w_bret gz_193_24 gm_193 (by omega) (by omega) ?_
        show wp l rho (d + 4) 208 5 [(2, 151), (0, x1), (0, x2), (0, x3), (0, x4), (0, x5), (0, x6), (9, 0)] [(0, 1)] h Q
        refine w_ifeq (t := 17) gz_208_5 rfl (fun u9 => by exfalso; omega) (fun u9 => ?_)
        refine w_iload_n gz_208_8 rfl ?_
        refine w_iconst gz_208_9 (by decide) ?_
        refine w_iconst gz_208_10 (by decide) ?_
        refine w_inS (k := 0) (as := [(0, 2), (0, 0), (0, x3)]) (r := []) (ls0 := [(0, x3), (0, 0), (0, 2)]) gz_208_11 gm_147 rfl rfl rfl rfl rfl rfl ?_
        refine w_iload_n gz_147_0 rfl ?_
        refine w_iload_n gz_147_1 rfl ?_
        refine w_iclt (t := 14) gz_147_2 rfl (fun u10 => ?_) (fun u10 => ?_)
        ·
          refine w_iconst gz_147_14 (by decide) ?_
          refine w_bret gz_147_15 gm_147 (by omega) (by omega) ?_
          show wp l rho (d + 4) 208 14 [(2, 151), (0, x1), (0, x2), (0, x3), (0, x4), (0, x5), (0, x6), (9, 0)] [(0, 0)] h Q
          refine w_ifne (t := 19) gz_208_14 rfl (fun u11 => by exfalso; omega) (fun u11 => ?_)
          refine w_iconst gz_208_17 (by decide) ?_
          exact w_bret gz_208_18 gm_208 (by omega) (by omega) (k0 h (my_fr.rf) (by first | exact no_such_saying | exact fwz | exact vn | exact vs | exact vb | (unfold MdOk; exact ⟨⟨by omega, by omega⟩, ⟨by omega, by omega, by omega⟩, (fun _ => ⟨by omega, by omega⟩), (fun _ => ⟨by omega, by omega, by omega, by omega⟩)⟩) | (intro z; have z1 := z.1; omega) | (intro z; have z2 := z.2.1; have z3 := z2.2.2; omega) | (intro z; have z3 := z.2.2.1 (by omega); omega) | (intro z; have z4 := z.2.2.2 (by omega); omega) | assumption | omega))
        ·
          refine w_iload_n gz_147_5 rfl ?_
          refine w_iload_n gz_147_6 rfl ?_
          refine w_icgt (t := 14) gz_147_7 rfl (fun u12 => ?_) (fun u12 => ?_)
          ·
            refine w_iconst gz_147_14 (by decide) ?_
            refine w_bret gz_147_15 gm_147 (by omega) (by omega) ?_
            show wp l rho (d + 4) 208 14 [(2, 151), (0, x1), (0, x2), (0, x3), (0, x4), (0, x5), (0, x6), (9, 0)] [(0, 0)] h Q
            refine w_ifne (t := 19) gz_208_14 rfl (fun u13 => by exfalso; omega) (fun u13 => ?_)
            refine w_iconst gz_208_17 (by decide) ?_
            exact w_bret gz_208_18 gm_208 (by omega) (by omega) (k0 h (my_fr.rf) (by first | exact no_such_saying | exact fwz | exact vn | exact vs | exact vb | (unfold MdOk; exact ⟨⟨by omega, by omega⟩, ⟨by omega, by omega, by omega⟩, (fun _ => ⟨by omega, by omega⟩), (fun _ => ⟨by omega, by omega, by omega, by omega⟩)⟩) | (intro z; have z1 := z.1; omega) | (intro z; have z2 := z.2.1; have z3 := z2.2.2; omega) | (intro z; have z3 := z.2.2.1 (by omega); omega) | (intro z; have z4 := z.2.2.2 (by omega); omega) | assumption | omega))
          ·
            refine w_iconst gz_147_10 (by decide) ?_
            refine w_goto (t := 15) gz_147_11 rfl ?_
            refine w_bret gz_147_15 gm_147 (by omega) (by omega) ?_
            show wp l rho (d + 4) 208 14 [(2, 151), (0, x1), (0, x2), (0, x3), (0, x4), (0, x5), (0, x6), (9, 0)] [(0, 1)] h Q
            refine w_ifne (t := 19) gz_208_14 rfl (fun u14 => ?_) (fun u14 => by exfalso; omega)
            refine w_aload_n gz_208_19 rfl ?_
            refine w_iload_n gz_208_20 rfl ?_
            refine w_iload_n gz_208_21 rfl ?_
            have Fp_ht15 : Fp h x2 := Fp_told (by omega) (by omega)
            refine w_inv (k := 5) (as := [(0, x2), (0, x1)]) (r := []) (x := 151) (ls0 := [(2, 151), (0, x1), (0, x2), (9, 0), (9, 0), (9, 0), (9, 0), (9, 0)]) gz_208_22 gm_194 rfl is_151 rd_10 rfl rfl rfl rfl rfl (c_Model_shows5 (d := d) (x1 := x1) (x2 := x2) (by omega) (by omega) (by omega) (by omega) n_Mw n_Mw3 n_Rws (by first | assumption | exact Fp_ht15 | exact Fp_told (by omega) (by omega) | omega | (subst_vars; omega) | omega) (fun h16 frh16 xp17 xp18 xp19 xp20 => ?_))
            have gh16 : my_fr [(10, 27), (10, 32), (10, 33), (10, 37), (73, -1), (74, -1), (75, -1), (76, -1), (77, -1), (78, -1), (79, -1), (80, -1), (81, -1), (82, -1), (83, -1), (84, -1), (85, -1), (86, -1)] h h16 := my_fr.tr my_fr.rf (frh16.mo rfl)
            have Mw_h16 : Mw h16 := Mw_ag (my_ag.fr frh16 rfl) n_Mw
            have Mw3_h16 : Mw3 h16 := Mw3_ag (my_ag.fr frh16 rfl) n_Mw3
            have Rws_h16 : Rws h16 := Rws_ag (my_ag.fr frh16 rfl) n_Rws
            have Fp_h16 : Fp h16 x2 := Fp_ag (my_ag.fr frh16 rfl) Fp_ht15
            show wp l rho (d + 4) 208 25 [(2, 151), (0, x1), (0, x2), (0, x3), (0, x4), (0, x5), (0, x6), (9, 0)] [] h16 Q
            have fwz := xp17
            have vn := xp18
            have vs := xp19
            have vb := xp20
            have vl := VmI_len xp18
            have vw := xp18.1
            refine w_iload_n gz_208_25 rfl ?_
            refine w_iconst gz_208_26 (by decide) ?_
            refine w_iceq (t := 45) gz_208_27 rfl (fun u21 => ?_) (fun u21 => ?_)
            ·
              refine w_iconst gz_208_45 (by decide) ?_
              refine w_goto (t := 50) gz_208_46 rfl ?_
              refine w_istore (ls' := [(2, 151), (0, x1), (0, x2), (0, x3), (0, x4), (0, x5), (0, x6), (0, 1)]) gz_208_50 gm_208 rfl rfl rfl ?_
              refine w_iload gz_208_52 rfl ?_
              refine w_ifeq (t := 92) gz_208_54 rfl (fun u22 => by exfalso; omega) (fun u22 => ?_)
              refine w_iload_n gz_208_57 rfl ?_
              refine w_ifgt (t := 88) gz_208_58 rfl (fun u23 => ?_) (fun u23 => by exfalso; omega)
              refine w_iconst gz_208_88 (by decide) ?_
              refine w_goto (t := 93) gz_208_89 rfl ?_
              exact w_bret gz_208_93 gm_208 (by omega) (by omega) (k1 h16 (gh16) (by omega) (by omega) (by omega) (by omega) (by first | exact Fp_h16 | exact fwz | exact vn | exact vs | exact vb | (unfold MdOk; exact ⟨⟨by omega, by omega⟩, ⟨by omega, by omega, by omega⟩, (fun _ => ⟨by omega, by omega⟩), (fun _ => ⟨by omega, by omega, by omega, by omega⟩)⟩) | (intro z; have z1 := z.1; omega) | (intro z; have z2 := z.2.1; have z3 := z2.2.2; omega) | (intro z; have z3 := z.2.2.1 (by omega); omega) | (intro z; have z4 := z.2.2.2 (by omega); omega) | assumption | omega) (by first | exact Fp_h16 | exact fwz | exact vn | exact vs | exact vb | (unfold MdOk; exact ⟨⟨by omega, by omega⟩, ⟨by omega, by omega, by omega⟩, (fun _ => ⟨by omega, by omega⟩), (fun _ => ⟨by omega, by omega, by omega, by omega⟩)⟩) | (intro z; have z1 := z.1; omega) | (intro z; have z2 := z.2.1; have z3 := z2.2.2; omega) | (intro z; have z3 := z.2.2.1 (by omega); omega) | (intro z; have z4 := z.2.2.2 (by omega); omega) | assumption | omega) (by first | exact Fp_h16 | exact fwz | exact vn | exact vs | exact vb | (unfold MdOk; exact ⟨⟨by omega, by omega⟩, ⟨by omega, by omega, by omega⟩, (fun _ => ⟨by omega, by omega⟩), (fun _ => ⟨by omega, by omega, by omega, by omega⟩)⟩) | (intro z; have z1 := z.1; omega) | (intro z; have z2 := z.2.1; have z3 := z2.2.2; omega) | (intro z; have z3 := z.2.2.1 (by omega); omega) | (intro z; have z4 := z.2.2.2 (by omega); omega) | assumption | omega) (by first | exact Fp_h16 | exact fwz | exact vn | exact vs | exact vb | (unfold MdOk; exact ⟨⟨by omega, by omega⟩, ⟨by omega, by omega, by omega⟩, (fun _ => ⟨by omega, by omega⟩), (fun _ => ⟨by omega, by omega, by omega, by omega⟩)⟩) | (intro z; have z1 := z.1; omega) | (intro z; have z2 := z.2.1; have z3 := z2.2.2; omega) | (intro z; have z3 := z.2.2.1 (by omega); omega) | (intro z; have z4 := z.2.2.2 (by omega); omega) | assumption | omega) (by first | exact Fp_h16 | exact fwz | exact vn | exact vs | exact vb | (unfold MdOk; exact ⟨⟨by omega, by omega⟩, ⟨by omega, by omega, by omega⟩, (fun _ => ⟨by omega, by omega⟩), (fun _ => ⟨by omega, by omega, by omega, by omega⟩)⟩) | (intro z; have z1 := z.1; omega) | (intro z; have z2 := z.2.1; have z3 := z2.2.2; omega) | (intro z; have z3 := z.2.2.1 (by omega); omega) | (intro z; have z4 := z.2.2.2 (by omega); omega) | assumption | omega) (by first | exact Fp_h16 | exact fwz | exact vn | exact vs | exact vb | (unfold MdOk; exact ⟨⟨by omega, by omega⟩, ⟨by omega, by omega, by omega⟩, (fun _ => ⟨by omega, by omega⟩), (fun _ => ⟨by omega, by omega, by omega, by omega⟩)⟩) | (intro z; have z1 := z.1; omega) | (intro z; have z2 := z.2.1; have z3 := z2.2.2; omega) | (intro z; have z3 := z.2.2.1 (by omega); omega) | (intro z; have z4 := z.2.2.2 (by omega); omega) | assumption | omega) (by first | exact Fp_h16 | exact fwz | exact vn | exact vs | exact vb | (unfold MdOk; exact ⟨⟨by omega, by omega⟩, ⟨by omega, by omega, by omega⟩, (fun _ => ⟨by omega, by omega⟩), (fun _ => ⟨by omega, by omega, by omega, by omega⟩)⟩) | (intro z; have z1 := z.1; omega) | (intro z; have z2 := z.2.1; have z3 := z2.2.2; omega) | (intro z; have z3 := z.2.2.1 (by omega); omega) | (intro z; have z4 := z.2.2.2 (by omega); omega) | assumption | omega) (by first | exact Fp_h16 | exact fwz | exact vn | exact vs | exact vb | (unfold MdOk; exact ⟨⟨by omega, by omega⟩, ⟨by omega, by omega, by omega⟩, (fun _ => ⟨by omega, by omega⟩), (fun _ => ⟨by omega, by omega, by omega, by omega⟩)⟩) | (intro z; have z1 := z.1; omega) | (intro z; have z2 := z.2.1; have z3 := z2.2.2; omega) | (intro z; have z3 := z.2.2.1 (by omega); omega) | (intro z; have z4 := z.2.2.2 (by omega); omega) | assumption | omega) (by first | exact Fp_h16 | exact fwz | exact vn | exact vs | exact vb | (unfold MdOk; exact ⟨⟨by omega, by omega⟩, ⟨by omega, by omega, by omega⟩, (fun _ => ⟨by omega, by omega⟩), (fun _ => ⟨by omega, by omega, by omega, by omega⟩)⟩) | (intro z; have z1 := z.1; omega) | (intro z; have z2 := z.2.1; have z3 := z2.2.2; omega) | (intro z; have z3 := z.2.2.1 (by omega); omega) | (intro z; have z4 := z.2.2.2 (by omega); omega) | assumption | omega) (by first | exact Fp_h16 | exact fwz | exact vn | exact vs | exact vb | (unfold MdOk; exact ⟨⟨by omega, by omega⟩, ⟨by omega, by omega, by omega⟩, (fun _ => ⟨by omega, by omega⟩), (fun _ => ⟨by omega, by omega, by omega, by omega⟩)⟩) | (intro z; have z1 := z.1; omega) | (intro z; have z2 := z.2.1; have z3 := z2.2.2; omega) | (intro z; have z3 := z.2.2.1 (by omega); omega) | (intro z; have z4 := z.2.2.2 (by omega); omega) | assumption | omega) (by first | exact Fp_h16 | exact fwz | exact vn | exact vs | exact vb | (unfold MdOk; exact ⟨⟨by omega, by omega⟩, ⟨by omega, by omega, by omega⟩, (fun _ => ⟨by omega, by omega⟩), (fun _ => ⟨by omega, by omega, by omega, by omega⟩)⟩) | (intro z; have z1 := z.1; omega) | (intro z; have z2 := z.2.1; have z3 := z2.2.2; omega) | (intro z; have z3 := z.2.2.1 (by omega); omega) | (intro z; have z4 := z.2.2.2 (by omega); omega) | assumption | omega) (by first | exact Fp_h16 | exact fwz | exact vn | exact vs | exact vb | (unfold MdOk; exact ⟨⟨by omega, by omega⟩, ⟨by omega, by omega, by omega⟩, (fun _ => ⟨by omega, by omega⟩), (fun _ => ⟨by omega, by omega, by omega, by omega⟩)⟩) | (intro z; have z1 := z.1; omega) | (intro z; have z2 := z.2.1; have z3 := z2.2.2; omega) | (intro z; have z3 := z.2.2.1 (by omega); omega) | (intro z; have z4 := z.2.2.2 (by omega); omega) | assumption | omega))
            ·
              refine w_iload gz_208_30 rfl ?_
              refine w_iconst gz_208_32 (by decide) ?_
              refine w_aload_n gz_208_33 rfl ?_
              refine v_getI (j := 37) gz_208_34 rfl is_151 rd_10 rfl (fun v24 ev24 pv24 qv24 => ?_)
              refine w_iconst gz_208_37 (by decide) ?_
              refine w_isub gz_208_38 ⟨by omega, by omega⟩ ?_
              refine w_inS (k := 0) (as := [(0, (v24 - 1)), (0, 0), (0, x4)]) (r := []) (ls0 := [(0, x4), (0, 0), (0, (v24 - 1))]) gz_208_39 gm_147 rfl rfl rfl rfl rfl rfl ?_
              refine w_iload_n gz_147_0 rfl ?_
              refine w_iload_n gz_147_1 rfl ?_
              refine w_iclt (t := 14) gz_147_2 rfl (fun u25 => ?_) (fun u25 => ?_)
              ·
                refine w_iconst gz_147_14 (by decide) ?_
                refine w_bret gz_147_15 gm_147 (by omega) (by omega) ?_
                show wp l rho (d + 4) 208 42 [(2, 151), (0, x1), (0, x2), (0, x3), (0, x4), (0, x5), (0, x6), (9, 0)] [(0, 0)] h16 Q
                refine w_ifeq (t := 49) gz_208_42 rfl (fun u26 => ?_) (fun u26 => by exfalso; omega)
                refine w_iconst gz_208_49 (by decide) ?_
                refine w_istore (ls' := [(2, 151), (0, x1), (0, x2), (0, x3), (0, x4), (0, x5), (0, x6), (0, 0)]) gz_208_50 gm_208 rfl rfl rfl ?_
                refine w_iload gz_208_52 rfl ?_
                refine w_ifeq (t := 92) gz_208_54 rfl (fun u27 => ?_) (fun u27 => by exfalso; omega)
                refine w_iconst gz_208_92 (by decide) ?_
                exact w_bret gz_208_93 gm_208 (by omega) (by omega) (k0 h16 (gh16) (by first | exact Fp_h16 | exact fwz | exact vn | exact vs | exact vb | (unfold MdOk; exact ⟨⟨by omega, by omega⟩, ⟨by omega, by omega, by omega⟩, (fun _ => ⟨by omega, by omega⟩), (fun _ => ⟨by omega, by omega, by omega, by omega⟩)⟩) | (intro z; have z1 := z.1; omega) | (intro z; have z2 := z.2.1; have z3 := z2.2.2; omega) | (intro z; have z3 := z.2.2.1 (by omega); omega) | (intro z; have z4 := z.2.2.2 (by omega); omega) | assumption | omega))
              ·
                refine w_iload_n gz_147_5 rfl ?_
                refine w_iload_n gz_147_6 rfl ?_
                refine w_icgt (t := 14) gz_147_7 rfl (fun u28 => ?_) (fun u28 => ?_)
                ·
                  refine w_iconst gz_147_14 (by decide) ?_
                  refine w_bret gz_147_15 gm_147 (by omega) (by omega) ?_
                  show wp l rho (d + 4) 208 42 [(2, 151), (0, x1), (0, x2), (0, x3), (0, x4), (0, x5), (0, x6), (9, 0)] [(0, 0)] h16 Q
                  refine w_ifeq (t := 49) gz_208_42 rfl (fun u29 => ?_) (fun u29 => by exfalso; omega)
                  refine w_iconst gz_208_49 (by decide) ?_
                  refine w_istore (ls' := [(2, 151), (0, x1), (0, x2), (0, x3), (0, x4), (0, x5), (0, x6), (0, 0)]) gz_208_50 gm_208 rfl rfl rfl ?_
                  refine w_iload gz_208_52 rfl ?_
                  refine w_ifeq (t := 92) gz_208_54 rfl (fun u30 => ?_) (fun u30 => by exfalso; omega)
                  refine w_iconst gz_208_92 (by decide) ?_
                  exact w_bret gz_208_93 gm_208 (by omega) (by omega) (k0 h16 (gh16) (by first | exact Fp_h16 | exact fwz | exact vn | exact vs | exact vb | (unfold MdOk; exact ⟨⟨by omega, by omega⟩, ⟨by omega, by omega, by omega⟩, (fun _ => ⟨by omega, by omega⟩), (fun _ => ⟨by omega, by omega, by omega, by omega⟩)⟩) | (intro z; have z1 := z.1; omega) | (intro z; have z2 := z.2.1; have z3 := z2.2.2; omega) | (intro z; have z3 := z.2.2.1 (by omega); omega) | (intro z; have z4 := z.2.2.2 (by omega); omega) | assumption | omega))
                ·
                  refine w_iconst gz_147_10 (by decide) ?_
                  refine w_goto (t := 15) gz_147_11 rfl ?_
                  refine w_bret gz_147_15 gm_147 (by omega) (by omega) ?_
                  show wp l rho (d + 4) 208 42 [(2, 151), (0, x1), (0, x2), (0, x3), (0, x4), (0, x5), (0, x6), (9, 0)] [(0, 1)] h16 Q
                  refine w_ifeq (t := 49) gz_208_42 rfl (fun u31 => by exfalso; omega) (fun u31 => ?_)
                  refine w_iconst gz_208_45 (by decide) ?_
                  refine w_goto (t := 50) gz_208_46 rfl ?_
                  refine w_istore (ls' := [(2, 151), (0, x1), (0, x2), (0, x3), (0, x4), (0, x5), (0, x6), (0, 1)]) gz_208_50 gm_208 rfl rfl rfl ?_
                  refine w_iload gz_208_52 rfl ?_
                  refine w_ifeq (t := 92) gz_208_54 rfl (fun u32 => by exfalso; omega) (fun u32 => ?_)
                  refine w_iload_n gz_208_57 rfl ?_
                  refine w_ifgt (t := 88) gz_208_58 rfl (fun u33 => ?_) (fun u33 => ?_)
                  ·
                    refine w_iconst gz_208_88 (by decide) ?_
                    refine w_goto (t := 93) gz_208_89 rfl ?_
                    exact w_bret gz_208_93 gm_208 (by omega) (by omega) (k1 h16 (gh16) (by omega) (by omega) (by omega) (by omega) (by first | exact Fp_h16 | exact fwz | exact vn | exact vs | exact vb | (unfold MdOk; exact ⟨⟨by omega, by omega⟩, ⟨by omega, by omega, by omega⟩, (fun _ => ⟨by omega, by omega⟩), (fun _ => ⟨by omega, by omega, by omega, by omega⟩)⟩) | (intro z; have z1 := z.1; omega) | (intro z; have z2 := z.2.1; have z3 := z2.2.2; omega) | (intro z; have z3 := z.2.2.1 (by omega); omega) | (intro z; have z4 := z.2.2.2 (by omega); omega) | assumption | omega) (by first | exact Fp_h16 | exact fwz | exact vn | exact vs | exact vb | (unfold MdOk; exact ⟨⟨by omega, by omega⟩, ⟨by omega, by omega, by omega⟩, (fun _ => ⟨by omega, by omega⟩), (fun _ => ⟨by omega, by omega, by omega, by omega⟩)⟩) | (intro z; have z1 := z.1; omega) | (intro z; have z2 := z.2.1; have z3 := z2.2.2; omega) | (intro z; have z3 := z.2.2.1 (by omega); omega) | (intro z; have z4 := z.2.2.2 (by omega); omega) | assumption | omega) (by first | exact Fp_h16 | exact fwz | exact vn | exact vs | exact vb | (unfold MdOk; exact ⟨⟨by omega, by omega⟩, ⟨by omega, by omega, by omega⟩, (fun _ => ⟨by omega, by omega⟩), (fun _ => ⟨by omega, by omega, by omega, by omega⟩)⟩) | (intro z; have z1 := z.1; omega) | (intro z; have z2 := z.2.1; have z3 := z2.2.2; omega) | (intro z; have z3 := z.2.2.1 (by omega); omega) | (intro z; have z4 := z.2.2.2 (by omega); omega) | assumption | omega) (by first | exact Fp_h16 | exact fwz | exact vn | exact vs | exact vb | (unfold MdOk; exact ⟨⟨by omega, by omega⟩, ⟨by omega, by omega, by omega⟩, (fun _ => ⟨by omega, by omega⟩), (fun _ => ⟨by omega, by omega, by omega, by omega⟩)⟩) | (intro z; have z1 := z.1; omega) | (intro z; have z2 := z.2.1; have z3 := z2.2.2; omega) | (intro z; have z3 := z.2.2.1 (by omega); omega) | (intro z; have z4 := z.2.2.2 (by omega); omega) | assumption | omega) (by first | exact Fp_h16 | exact fwz | exact vn | exact vs | exact vb | (unfold MdOk; exact ⟨⟨by omega, by omega⟩, ⟨by omega, by omega, by omega⟩, (fun _ => ⟨by omega, by omega⟩), (fun _ => ⟨by omega, by omega, by omega, by omega⟩)⟩) | (intro z; have z1 := z.1; omega) | (intro z; have z2 := z.2.1; have z3 := z2.2.2; omega) | (intro z; have z3 := z.2.2.1 (by omega); omega) | (intro z; have z4 := z.2.2.2 (by omega); omega) | assumption | omega) (by first | exact Fp_h16 | exact fwz | exact vn | exact vs | exact vb | (unfold MdOk; exact ⟨⟨by omega, by omega⟩, ⟨by omega, by omega, by omega⟩, (fun _ => ⟨by omega, by omega⟩), (fun _ => ⟨by omega, by omega, by omega, by omega⟩)⟩) | (intro z; have z1 := z.1; omega) | (intro z; have z2 := z.2.1; have z3 := z2.2.2; omega) | (intro z; have z3 := z.2.2.1 (by omega); omega) | (intro z; have z4 := z.2.2.2 (by omega); omega) | assumption | omega) (by first | exact Fp_h16 | exact fwz | exact vn | exact vs | exact vb | (unfold MdOk; exact ⟨⟨by omega, by omega⟩, ⟨by omega, by omega, by omega⟩, (fun _ => ⟨by omega, by omega⟩), (fun _ => ⟨by omega, by omega, by omega, by omega⟩)⟩) | (intro z; have z1 := z.1; omega) | (intro z; have z2 := z.2.1; have z3 := z2.2.2; omega) | (intro z; have z3 := z.2.2.1 (by omega); omega) | (intro z; have z4 := z.2.2.2 (by omega); omega) | assumption | omega) (by first | exact Fp_h16 | exact fwz | exact vn | exact vs | exact vb | (unfold MdOk; exact ⟨⟨by omega, by omega⟩, ⟨by omega, by omega, by omega⟩, (fun _ => ⟨by omega, by omega⟩), (fun _ => ⟨by omega, by omega, by omega, by omega⟩)⟩) | (intro z; have z1 := z.1; omega) | (intro z; have z2 := z.2.1; have z3 := z2.2.2; omega) | (intro z; have z3 := z.2.2.1 (by omega); omega) | (intro z; have z4 := z.2.2.2 (by omega); omega) | assumption | omega) (by first | exact Fp_h16 | exact fwz | exact vn | exact vs | exact vb | (unfold MdOk; exact ⟨⟨by omega, by omega⟩, ⟨by omega, by omega, by omega⟩, (fun _ => ⟨by omega, by omega⟩), (fun _ => ⟨by omega, by omega, by omega, by omega⟩)⟩) | (intro z; have z1 := z.1; omega) | (intro z; have z2 := z.2.1; have z3 := z2.2.2; omega) | (intro z; have z3 := z.2.2.1 (by omega); omega) | (intro z; have z4 := z.2.2.2 (by omega); omega) | assumption | omega) (by first | exact Fp_h16 | exact fwz | exact vn | exact vs | exact vb | (unfold MdOk; exact ⟨⟨by omega, by omega⟩, ⟨by omega, by omega, by omega⟩, (fun _ => ⟨by omega, by omega⟩), (fun _ => ⟨by omega, by omega, by omega, by omega⟩)⟩) | (intro z; have z1 := z.1; omega) | (intro z; have z2 := z.2.1; have z3 := z2.2.2; omega) | (intro z; have z3 := z.2.2.1 (by omega); omega) | (intro z; have z4 := z.2.2.2 (by omega); omega) | assumption | omega) (by first | exact Fp_h16 | exact fwz | exact vn | exact vs | exact vb | (unfold MdOk; exact ⟨⟨by omega, by omega⟩, ⟨by omega, by omega, by omega⟩, (fun _ => ⟨by omega, by omega⟩), (fun _ => ⟨by omega, by omega, by omega, by omega⟩)⟩) | (intro z; have z1 := z.1; omega) | (intro z; have z2 := z.2.1; have z3 := z2.2.2; omega) | (intro z; have z3 := z.2.2.1 (by omega); omega) | (intro z; have z4 := z.2.2.2 (by omega); omega) | assumption | omega) (by first | exact Fp_h16 | exact fwz | exact vn | exact vs | exact vb | (unfold MdOk; exact ⟨⟨by omega, by omega⟩, ⟨by omega, by omega, by omega⟩, (fun _ => ⟨by omega, by omega⟩), (fun _ => ⟨by omega, by omega, by omega, by omega⟩)⟩) | (intro z; have z1 := z.1; omega) | (intro z; have z2 := z.2.1; have z3 := z2.2.2; omega) | (intro z; have z3 := z.2.2.1 (by omega); omega) | (intro z; have z4 := z.2.2.2 (by omega); omega) | assumption | omega))
                  ·
                    refine w_iload gz_208_61 rfl ?_
                    refine w_iconst gz_208_63 (by decide) ?_
                    refine w_aload_n gz_208_64 rfl ?_
                    refine v_getI (j := 27) gz_208_65 rfl is_151 rd_10 rfl (fun v34 ev34 pv34 qv34 => ?_)
                    refine w_iconst gz_208_68 (by decide) ?_
                    refine w_isub gz_208_69 ⟨by omega, by omega⟩ ?_
                    refine w_inS (k := 0) (as := [(0, (v34 - 1)), (0, 0), (0, x5)]) (r := []) (ls0 := [(0, x5), (0, 0), (0, (v34 - 1))]) gz_208_70 gm_147 rfl rfl rfl rfl rfl rfl ?_
                    refine w_iload_n gz_147_0 rfl ?_
                    refine w_iload_n gz_147_1 rfl ?_
                    refine w_iclt (t := 14) gz_147_2 rfl (fun u35 => ?_) (fun u35 => ?_)
                    ·
                      refine w_iconst gz_147_14 (by decide) ?_
                      refine w_bret gz_147_15 gm_147 (by omega) (by omega) ?_
                      show wp l rho (d + 4) 208 73 [(2, 151), (0, x1), (0, x2), (0, x3), (0, x4), (0, x5), (0, x6), (0, 1)] [(0, 0)] h16 Q
                      refine w_ifeq (t := 92) gz_208_73 rfl (fun u36 => ?_) (fun u36 => by exfalso; omega)
                      refine w_iconst gz_208_92 (by decide) ?_
                      exact w_bret gz_208_93 gm_208 (by omega) (by omega) (k0 h16 (gh16) (by first | exact Fp_h16 | exact fwz | exact vn | exact vs | exact vb | (unfold MdOk; exact ⟨⟨by omega, by omega⟩, ⟨by omega, by omega, by omega⟩, (fun _ => ⟨by omega, by omega⟩), (fun _ => ⟨by omega, by omega, by omega, by omega⟩)⟩) | (intro z; have z1 := z.1; omega) | (intro z; have z2 := z.2.1; have z3 := z2.2.2; omega) | (intro z; have z3 := z.2.2.1 (by omega); omega) | (intro z; have z4 := z.2.2.2 (by omega); omega) | assumption | omega))
                    ·
                      refine w_iload_n gz_147_5 rfl ?_
                      refine w_iload_n gz_147_6 rfl ?_
                      refine w_icgt (t := 14) gz_147_7 rfl (fun u37 => ?_) (fun u37 => ?_)
                      ·
                        refine w_iconst gz_147_14 (by decide) ?_
                        refine w_bret gz_147_15 gm_147 (by omega) (by omega) ?_
                        show wp l rho (d + 4) 208 73 [(2, 151), (0, x1), (0, x2), (0, x3), (0, x4), (0, x5), (0, x6), (0, 1)] [(0, 0)] h16 Q
                        refine w_ifeq (t := 92) gz_208_73 rfl (fun u38 => ?_) (fun u38 => by exfalso; omega)
                        refine w_iconst gz_208_92 (by decide) ?_
                        exact w_bret gz_208_93 gm_208 (by omega) (by omega) (k0 h16 (gh16) (by first | exact Fp_h16 | exact fwz | exact vn | exact vs | exact vb | (unfold MdOk; exact ⟨⟨by omega, by omega⟩, ⟨by omega, by omega, by omega⟩, (fun _ => ⟨by omega, by omega⟩), (fun _ => ⟨by omega, by omega, by omega, by omega⟩)⟩) | (intro z; have z1 := z.1; omega) | (intro z; have z2 := z.2.1; have z3 := z2.2.2; omega) | (intro z; have z3 := z.2.2.1 (by omega); omega) | (intro z; have z4 := z.2.2.2 (by omega); omega) | assumption | omega))
                      ·
                        refine w_iconst gz_147_10 (by decide) ?_
                        refine w_goto (t := 15) gz_147_11 rfl ?_
                        refine w_bret gz_147_15 gm_147 (by omega) (by omega) ?_
                        show wp l rho (d + 4) 208 73 [(2, 151), (0, x1), (0, x2), (0, x3), (0, x4), (0, x5), (0, x6), (0, 1)] [(0, 1)] h16 Q
                        refine w_ifeq (t := 92) gz_208_73 rfl (fun u39 => by exfalso; omega) (fun u39 => ?_)
                        refine w_iload gz_208_76 rfl ?_
                        refine w_iconst gz_208_78 (by decide) ?_
                        refine w_sipush gz_208_79 (by decide) ?_
                        refine w_inS (k := 0) (as := [(0, 199), (0, 0), (0, x6)]) (r := []) (ls0 := [(0, x6), (0, 0), (0, 199)]) gz_208_82 gm_147 rfl rfl rfl rfl rfl rfl ?_
                        refine w_iload_n gz_147_0 rfl ?_
                        refine w_iload_n gz_147_1 rfl ?_
                        refine w_iclt (t := 14) gz_147_2 rfl (fun u40 => ?_) (fun u40 => ?_)
                        ·
                          refine w_iconst gz_147_14 (by decide) ?_
                          refine w_bret gz_147_15 gm_147 (by omega) (by omega) ?_
                          show wp l rho (d + 4) 208 85 [(2, 151), (0, x1), (0, x2), (0, x3), (0, x4), (0, x5), (0, x6), (0, 1)] [(0, 0)] h16 Q
                          refine w_ifeq (t := 92) gz_208_85 rfl (fun u41 => ?_) (fun u41 => by exfalso; omega)
                          refine w_iconst gz_208_92 (by decide) ?_
                          exact w_bret gz_208_93 gm_208 (by omega) (by omega) (k0 h16 (gh16) (by first | exact Fp_h16 | exact fwz | exact vn | exact vs | exact vb | (unfold MdOk; exact ⟨⟨by omega, by omega⟩, ⟨by omega, by omega, by omega⟩, (fun _ => ⟨by omega, by omega⟩), (fun _ => ⟨by omega, by omega, by omega, by omega⟩)⟩) | (intro z; have z1 := z.1; omega) | (intro z; have z2 := z.2.1; have z3 := z2.2.2; omega) | (intro z; have z3 := z.2.2.1 (by omega); omega) | (intro z; have z4 := z.2.2.2 (by omega); omega) | assumption | omega))
                        ·
                          refine w_iload_n gz_147_5 rfl ?_
                          refine w_iload_n gz_147_6 rfl ?_
                          refine w_icgt (t := 14) gz_147_7 rfl (fun u42 => ?_) (fun u42 => ?_)
                          ·
                            refine w_iconst gz_147_14 (by decide) ?_
                            refine w_bret gz_147_15 gm_147 (by omega) (by omega) ?_
                            show wp l rho (d + 4) 208 85 [(2, 151), (0, x1), (0, x2), (0, x3), (0, x4), (0, x5), (0, x6), (0, 1)] [(0, 0)] h16 Q
                            refine w_ifeq (t := 92) gz_208_85 rfl (fun u43 => ?_) (fun u43 => by exfalso; omega)
                            refine w_iconst gz_208_92 (by decide) ?_
                            exact w_bret gz_208_93 gm_208 (by omega) (by omega) (k0 h16 (gh16) (by first | exact Fp_h16 | exact fwz | exact vn | exact vs | exact vb | (unfold MdOk; exact ⟨⟨by omega, by omega⟩, ⟨by omega, by omega, by omega⟩, (fun _ => ⟨by omega, by omega⟩), (fun _ => ⟨by omega, by omega, by omega, by omega⟩)⟩) | (intro z; have z1 := z.1; omega) | (intro z; have z2 := z.2.1; have z3 := z2.2.2; omega) | (intro z; have z3 := z.2.2.1 (by omega); omega) | (intro z; have z4 := z.2.2.2 (by omega); omega) | assumption | omega))
                          ·
                            refine w_iconst gz_147_10 (by decide) ?_
                            refine w_goto (t := 15) gz_147_11 rfl ?_
                            refine w_bret gz_147_15 gm_147 (by omega) (by omega) ?_
                            show wp l rho (d + 4) 208 85 [(2, 151), (0, x1), (0, x2), (0, x3), (0, x4), (0, x5), (0, x6), (0, 1)] [(0, 1)] h16 Q
                            refine w_ifeq (t := 92) gz_208_85 rfl (fun u44 => by exfalso; omega) (fun u44 => ?_)
                            refine w_iconst gz_208_88 (by decide) ?_
                            refine w_goto (t := 93) gz_208_89 rfl ?_
                            exact w_bret gz_208_93 gm_208 (by omega) (by omega) (k1 h16 (gh16) (by omega) (by omega) (by omega) (by omega) (by first | exact Fp_h16 | exact fwz | exact vn | exact vs | exact vb | (unfold MdOk; exact ⟨⟨by omega, by omega⟩, ⟨by omega, by omega, by omega⟩, (fun _ => ⟨by omega, by omega⟩), (fun _ => ⟨by omega, by omega, by omega, by omega⟩)⟩) | (intro z; have z1 := z.1; omega) | (intro z; have z2 := z.2.1; have z3 := z2.2.2; omega) | (intro z; have z3 := z.2.2.1 (by omega); omega) | (intro z; have z4 := z.2.2.2 (by omega); omega) | assumption | omega) (by first | exact Fp_h16 | exact fwz | exact vn | exact vs | exact vb | (unfold MdOk; exact ⟨⟨by omega, by omega⟩, ⟨by omega, by omega, by omega⟩, (fun _ => ⟨by omega, by omega⟩), (fun _ => ⟨by omega, by omega, by omega, by omega⟩)⟩) | (intro z; have z1 := z.1; omega) | (intro z; have z2 := z.2.1; have z3 := z2.2.2; omega) | (intro z; have z3 := z.2.2.1 (by omega); omega) | (intro z; have z4 := z.2.2.2 (by omega); omega) | assumption | omega) (by first | exact Fp_h16 | exact fwz | exact vn | exact vs | exact vb | (unfold MdOk; exact ⟨⟨by omega, by omega⟩, ⟨by omega, by omega, by omega⟩, (fun _ => ⟨by omega, by omega⟩), (fun _ => ⟨by omega, by omega, by omega, by omega⟩)⟩) | (intro z; have z1 := z.1; omega) | (intro z; have z2 := z.2.1; have z3 := z2.2.2; omega) | (intro z; have z3 := z.2.2.1 (by omega); omega) | (intro z; have z4 := z.2.2.2 (by omega); omega) | assumption | omega) (by first | exact Fp_h16 | exact fwz | exact vn | exact vs | exact vb | (unfold MdOk; exact ⟨⟨by omega, by omega⟩, ⟨by omega, by omega, by omega⟩, (fun _ => ⟨by omega, by omega⟩), (fun _ => ⟨by omega, by omega, by omega, by omega⟩)⟩) | (intro z; have z1 := z.1; omega) | (intro z; have z2 := z.2.1; have z3 := z2.2.2; omega) | (intro z; have z3 := z.2.2.1 (by omega); omega) | (intro z; have z4 := z.2.2.2 (by omega); omega) | assumption | omega) (by first | exact Fp_h16 | exact fwz | exact vn | exact vs | exact vb | (unfold MdOk; exact ⟨⟨by omega, by omega⟩, ⟨by omega, by omega, by omega⟩, (fun _ => ⟨by omega, by omega⟩), (fun _ => ⟨by omega, by omega, by omega, by omega⟩)⟩) | (intro z; have z1 := z.1; omega) | (intro z; have z2 := z.2.1; have z3 := z2.2.2; omega) | (intro z; have z3 := z.2.2.1 (by omega); omega) | (intro z; have z4 := z.2.2.2 (by omega); omega) | assumption | omega) (by first | exact Fp_h16 | exact fwz | exact vn | exact vs | exact vb | (unfold MdOk; exact ⟨⟨by omega, by omega⟩, ⟨by omega, by omega, by omega⟩, (fun _ => ⟨by omega, by omega⟩), (fun _ => ⟨by omega, by omega, by omega, by omega⟩)⟩) | (intro z; have z1 := z.1; omega) | (intro z; have z2 := z.2.1; have z3 := z2.2.2; omega) | (intro z; have z3 := z.2.2.1 (by omega); omega) | (intro z; have z4 := z.2.2.2 (by omega); omega) | assumption | omega) (by first | exact Fp_h16 | exact fwz | exact vn | exact vs | exact vb | (unfold MdOk; exact ⟨⟨by omega, by omega⟩, ⟨by omega, by omega, by omega⟩, (fun _ => ⟨by omega, by omega⟩), (fun _ => ⟨by omega, by omega, by omega, by omega⟩)⟩) | (intro z; have z1 := z.1; omega) | (intro z; have z2 := z.2.1; have z3 := z2.2.2; omega) | (intro z; have z3 := z.2.2.1 (by omega); omega) | (intro z; have z4 := z.2.2.2 (by omega); omega) | assumption | omega) (by first | exact Fp_h16 | exact fwz | exact vn | exact vs | exact vb | (unfold MdOk; exact ⟨⟨by omega, by omega⟩, ⟨by omega, by omega, by omega⟩, (fun _ => ⟨by omega, by omega⟩), (fun _ => ⟨by omega, by omega, by omega, by omega⟩)⟩) | (intro z; have z1 := z.1; omega) | (intro z; have z2 := z.2.1; have z3 := z2.2.2; omega) | (intro z; have z3 := z.2.2.1 (by omega); omega) | (intro z; have z4 := z.2.2.2 (by omega); omega) | assumption | omega) (by first | exact Fp_h16 | exact fwz | exact vn | exact vs | exact vb | (unfold MdOk; exact ⟨⟨by omega, by omega⟩, ⟨by omega, by omega, by omega⟩, (fun _ => ⟨by omega, by omega⟩), (fun _ => ⟨by omega, by omega, by omega, by omega⟩)⟩) | (intro z; have z1 := z.1; omega) | (intro z; have z2 := z.2.1; have z3 := z2.2.2; omega) | (intro z; have z3 := z.2.2.1 (by omega); omega) | (intro z; have z4 := z.2.2.2 (by omega); omega) | assumption | omega) (by first | exact Fp_h16 | exact fwz | exact vn | exact vs | exact vb | (unfold MdOk; exact ⟨⟨by omega, by omega⟩, ⟨by omega, by omega, by omega⟩, (fun _ => ⟨by omega, by omega⟩), (fun _ => ⟨by omega, by omega, by omega, by omega⟩)⟩) | (intro z; have z1 := z.1; omega) | (intro z; have z2 := z.2.1; have z3 := z2.2.2; omega) | (intro z; have z3 := z.2.2.1 (by omega); omega) | (intro z; have z4 := z.2.2.2 (by omega); omega) | assumption | omega) (by first | exact Fp_h16 | exact fwz | exact vn | exact vs | exact vb | (unfold MdOk; exact ⟨⟨by omega, by omega⟩, ⟨by omega, by omega, by omega⟩, (fun _ => ⟨by omega, by omega⟩), (fun _ => ⟨by omega, by omega, by omega, by omega⟩)⟩) | (intro z; have z1 := z.1; omega) | (intro z; have z2 := z.2.1; have z3 := z2.2.2; omega) | (intro z; have z3 := z.2.2.1 (by omega); omega) | (intro z; have z4 := z.2.2.2 (by omega); omega) | assumption | omega) (by first | exact Fp_h16 | exact fwz | exact vn | exact vs | exact vb | (unfold MdOk; exact ⟨⟨by omega, by omega⟩, ⟨by omega, by omega, by omega⟩, (fun _ => ⟨by omega, by omega⟩), (fun _ => ⟨by omega, by omega, by omega, by omega⟩)⟩) | (intro z; have z1 := z.1; omega) | (intro z; have z2 := z.2.1; have z3 := z2.2.2; omega) | (intro z; have z3 := z.2.2.1 (by omega); omega) | (intro z; have z4 := z.2.2.2 (by omega); omega) | assumption | omega))
end MYNModel_isEdit5
