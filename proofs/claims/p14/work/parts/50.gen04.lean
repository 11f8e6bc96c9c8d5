/-! contracts, printed by wip/gen/gy.py -/
section MYG4
theorem is_202 : my_is 101 202 := by unfold my_is; decide +kernel
theorem gz_248_0 : mz_pg 248 0 = some (.aload_n 0, 0, 0, 0) := by decide +kernel
theorem gz_248_1 : mz_pg 248 1 = some (.iconst 0, 0, 0, 0) := by decide +kernel
theorem gz_248_2 : mz_pg 248 2 = some (.putfield 1, 10, 0, 1213) := by decide +kernel
theorem gz_248_5 : mz_pg 248 5 = some (.iload_n 1, 0, 0, 0) := by decide +kernel
theorem gz_248_6 : mz_pg 248 6 = some (.iconst 0, 0, 0, 0) := by decide +kernel
theorem gz_248_7 : mz_pg 248 7 = some (.iconst 3, 0, 0, 0) := by decide +kernel
theorem gz_248_8 : mz_pg 248 8 = some (.invokestatic 250, 1, 147, 1419) := by decide +kernel
theorem gz_248_11 : mz_pg 248 11 = some (.ifCond .eq 26, 0, 0, 0) := by decide +kernel
theorem gz_248_14 : mz_pg 248 14 = some (.iload_n 2, 0, 0, 0) := by decide +kernel
theorem gz_248_15 : mz_pg 248 15 = some (.ifCond .eq 24, 0, 0, 0) := by decide +kernel
theorem gz_248_18 : mz_pg 248 18 = some (.aload_n 0, 0, 0, 0) := by decide +kernel
theorem gz_248_19 : mz_pg 248 19 = some (.getfield 197, 10, 66, 1279) := by decide +kernel
theorem gz_248_22 : mz_pg 248 22 = some (.iload_n 1, 0, 0, 0) := by decide +kernel
theorem gz_248_23 : mz_pg 248 23 = some (.baload, 0, 0, 0) := by decide +kernel
theorem gz_248_24 : mz_pg 248 24 = some (.ifCond .eq 13, 0, 0, 0) := by decide +kernel
theorem gz_248_27 : mz_pg 248 27 = some (.aload_n 0, 0, 0, 0) := by decide +kernel
theorem gz_248_28 : mz_pg 248 28 = some (.iconst 1, 0, 0, 0) := by decide +kernel
theorem gz_248_29 : mz_pg 248 29 = some (.iload_n 1, 0, 0, 0) := by decide +kernel
theorem gz_248_30 : mz_pg 248 30 = some (.iadd, 0, 0, 0) := by decide +kernel
theorem gz_248_31 : mz_pg 248 31 = some (.invokevirtual 260, 1, 155, 1444) := by decide +kernel
theorem gz_248_34 : mz_pg 248 34 = some (.ifCond .ne 5, 0, 0, 0) := by decide +kernel
theorem gz_248_37 : mz_pg 248 37 = some (.iconst 0, 0, 0, 0) := by decide +kernel
theorem gz_248_38 : mz_pg 248 38 = some (.ireturn, 0, 0, 0) := by decide +kernel
theorem gz_248_39 : mz_pg 248 39 = some (.aload_n 0, 0, 0, 0) := by decide +kernel
theorem gz_248_40 : mz_pg 248 40 = some (.iload_n 2, 0, 0, 0) := by decide +kernel
theorem gz_248_41 : mz_pg 248 41 = some (.ifCond .eq 9, 0, 0, 0) := by decide +kernel
theorem gz_248_44 : mz_pg 248 44 = some (.iconst 1, 0, 0, 0) := by decide +kernel
theorem gz_248_45 : mz_pg 248 45 = some (.iload_n 1, 0, 0, 0) := by decide +kernel
theorem gz_248_46 : mz_pg 248 46 = some (.iadd, 0, 0, 0) := by decide +kernel
theorem gz_248_47 : mz_pg 248 47 = some (.goto 4, 0, 0, 0) := by decide +kernel
theorem gz_248_50 : mz_pg 248 50 = some (.iconst 0, 0, 0, 0) := by decide +kernel
theorem gz_248_51 : mz_pg 248 51 = some (.iload_n 2, 0, 0, 0) := by decide +kernel
theorem gz_248_52 : mz_pg 248 52 = some (.ifCond .eq 7, 0, 0, 0) := by decide +kernel
theorem gz_248_55 : mz_pg 248 55 = some (.iconst 0, 0, 0, 0) := by decide +kernel
theorem gz_248_56 : mz_pg 248 56 = some (.goto 6, 0, 0, 0) := by decide +kernel
theorem gz_248_59 : mz_pg 248 59 = some (.iconst 1, 0, 0, 0) := by decide +kernel
theorem gz_248_60 : mz_pg 248 60 = some (.iload_n 1, 0, 0, 0) := by decide +kernel
theorem gz_248_61 : mz_pg 248 61 = some (.iadd, 0, 0, 0) := by decide +kernel
theorem gz_248_62 : mz_pg 248 62 = some (.invokevirtual 263, 1, 152, 1435) := by decide +kernel
theorem gz_248_65 : mz_pg 248 65 = some (.aload_n 0, 0, 0, 0) := by decide +kernel
theorem gz_248_66 : mz_pg 248 66 = some (.getfield 197, 10, 66, 1279) := by decide +kernel
theorem gz_248_69 : mz_pg 248 69 = some (.iload_n 1, 0, 0, 0) := by decide +kernel
theorem gz_248_70 : mz_pg 248 70 = some (.iconst 1, 0, 0, 0) := by decide +kernel
theorem gz_248_71 : mz_pg 248 71 = some (.bastore, 0, 0, 0) := by decide +kernel
theorem gz_248_72 : mz_pg 248 72 = some (.iconst 1, 0, 0, 0) := by decide +kernel
theorem gz_248_73 : mz_pg 248 73 = some (.ireturn, 0, 0, 0) := by decide +kernel
theorem gm_248 : my_mm 248 3 (some .boolean) 2 10 := by unfold my_mm; decide +kernel
theorem rd_101 : my_rd 101 = .inl (1, 4, [(0, 0, 1)]) := rfl
theorem c74_Model_mark {l : Launch} {rho : Nat → Int32} {d : Nat} {h : my_H} {Q : my_H → my_V → Prop} {x1 x2 : Int} (a2 : 0 ≤ x2) (b2 : x2 ≤ 1) (k0 : ∀ (h' : my_H), my_fr [(10, 0), (61, -1), (62, -1), (101, -1)] h h' → h' 151 0 = 0 → Q h' (0, 0)) (k1 : ∀ (h' : my_H), my_fr [(10, 0), (61, -1), (62, -1), (101, -1)] h h' → 0 ≤ x1 → x1 ≤ 3 → h' 151 0 = 0 → Q h' (0, 1)) : wp l rho (d + 4) 248 0 [(2, 151), (0, x1), (0, x2)] [] h Q := by
  have J39_0 : ∀ (p39_0 : Int) (h39_0 : my_H), my_fr [(10, 0), (61, -1), (62, -1), (101, -1)] h h39_0 → 0 ≤ x1 → x1 ≤ 3 → 0 ≤ p39_0 → p39_0 ≤ 1 → p39_0 ≤ x2 → x2 ≤ p39_0 → h39_0 151 0 = 0 → wp l rho (d + 4) 248 39 [(2, 151), (0, x1), (0, p39_0)] [] h39_0 Q := by
    intro p39_0 h39_0 gh_39_0 q0_39_0 q1_39_0 q2_39_0 q3_39_0 q4_39_0 q5_39_0 c151_0_39_0
    refine w_aload_n gz_248_39 rfl ?_
    refine w_iload_n gz_248_40 rfl ?_
    refine w_ifeq (t := 50) gz_248_41 rfl (fun u1 => ?_) (fun u1 => ?_)
    ·
      refine w_iconst gz_248_50 (by decide) ?_
      refine w_iload_n gz_248_51 rfl ?_
      refine w_ifeq (t := 59) gz_248_52 rfl (fun u2 => ?_) (fun u2 => by exfalso; omega)
      refine w_iconst gz_248_59 (by decide) ?_
      refine w_iload_n gz_248_60 rfl ?_
      refine w_iadd gz_248_61 ⟨by omega, by omega⟩ ?_
      refine w_inv (k := 1) (as := [(0, (1 + x1)), (0, 0)]) (r := []) (x := 151) (ls0 := [(2, 151), (0, 0), (0, (1 + x1)), (9, 0)]) gz_248_62 gm_152 rfl is_151 rd_10 rfl rfl rfl rfl rfl (c15_Model_copies (d := (d + 3)) (x1 := 0) (x2 := (1 + x1)) (by omega) (by omega) (by omega) (by omega) (fun h3 frh3 => ?_))
      have gh3 : my_fr [(10, 0), (61, -1), (62, -1), (101, -1)] h h3 := my_fr.tr gh_39_0 (frh3.mo rfl)
      show wp l rho (d + 4) 248 65 [(2, 151), (0, x1), (0, p39_0)] [] h3 Q
      refine w_aload_n gz_248_65 rfl ?_
      refine w_getX (v := 202) gz_248_66 is_151 rd_10 rfl (by decide) rfl ?_
      refine w_iload_n gz_248_69 rfl ?_
      refine w_iconst gz_248_70 (by decide) ?_
      refine w_bast gz_248_71 is_202 rd_101 (by omega) (by omega) (by omega) (by omega) (fun h5 fh5 => ?_)
      have gh5 : my_fr [(10, 0), (61, -1), (62, -1), (101, -1)] h h5 := my_fr.up gh3 is_202 fh5 rfl
      refine w_iconst gz_248_72 (by decide) ?_
      have c6 := ((my_up_role fh5 is_151 is_202 rfl).trans ((my_fr.at frh3 is_151 rfl).trans c151_0_39_0))
      exact w_bret gz_248_73 gm_248 (by omega) (by omega) (k1 h5 (gh5) (by omega) (by omega) (by omega))
    ·
      refine w_iconst gz_248_44 (by decide) ?_
      refine w_iload_n gz_248_45 rfl ?_
      refine w_iadd gz_248_46 ⟨by omega, by omega⟩ ?_
      refine w_goto (t := 51) gz_248_47 rfl ?_
      refine w_iload_n gz_248_51 rfl ?_
      refine w_ifeq (t := 59) gz_248_52 rfl (fun u7 => by exfalso; omega) (fun u7 => ?_)
      refine w_iconst gz_248_55 (by decide) ?_
      refine w_goto (t := 62) gz_248_56 rfl ?_
      refine w_inv (k := 1) (as := [(0, 0), (0, (1 + x1))]) (r := []) (x := 151) (ls0 := [(2, 151), (0, (1 + x1)), (0, 0), (9, 0)]) gz_248_62 gm_152 rfl is_151 rd_10 rfl rfl rfl rfl rfl (c15_Model_copies (d := (d + 3)) (x1 := (1 + x1)) (x2 := 0) (by omega) (by omega) (by omega) (by omega) (fun h8 frh8 => ?_))
      have gh8 : my_fr [(10, 0), (61, -1), (62, -1), (101, -1)] h h8 := my_fr.tr gh_39_0 (frh8.mo rfl)
      show wp l rho (d + 4) 248 65 [(2, 151), (0, x1), (0, p39_0)] [] h8 Q
      refine w_aload_n gz_248_65 rfl ?_
      refine w_getX (v := 202) gz_248_66 is_151 rd_10 rfl (by decide) rfl ?_
      refine w_iload_n gz_248_69 rfl ?_
      refine w_iconst gz_248_70 (by decide) ?_
      refine w_bast gz_248_71 is_202 rd_101 (by omega) (by omega) (by omega) (by omega) (fun h10 fh10 => ?_)
      have gh10 : my_fr [(10, 0), (61, -1), (62, -1), (101, -1)] h h10 := my_fr.up gh8 is_202 fh10 rfl
      refine w_iconst gz_248_72 (by decide) ?_
      have c11 := ((my_up_role fh10 is_151 is_202 rfl).trans ((my_fr.at frh8 is_151 rfl).trans c151_0_39_0))
      exact w_bret gz_248_73 gm_248 (by omega) (by omega) (k1 h10 (gh10) (by omega) (by omega) (by omega))
  refine w_aload_n gz_248_0 rfl ?_
  refine w_iconst gz_248_1 (by decide) ?_
  refine v_putI (j := 0) gz_248_2 rfl is_151 rd_10 rfl (by omega) (by omega) rfl (fun h12 fh12 => ?_)
  have gh12 : my_fr [(10, 0), (61, -1), (62, -1), (101, -1)] h h12 := my_fr.up my_fr.rf is_151 fh12 rfl
  refine w_iload_n gz_248_5 rfl ?_
  refine w_iconst gz_248_6 (by decide) ?_
  refine w_iconst gz_248_7 (by decide) ?_
  refine w_inS (k := 0) (as := [(0, 3), (0, 0), (0, x1)]) (r := []) (ls0 := [(0, x1), (0, 0), (0, 3)]) gz_248_8 gm_147 rfl rfl rfl rfl rfl rfl ?_
  refine w_iload_n gz_147_0 rfl ?_
  refine w_iload_n gz_147_1 rfl ?_
  refine w_iclt (t := 14) gz_147_2 rfl (fun u13 => ?_) (fun u13 => ?_)
  ·
    refine w_iconst gz_147_14 (by decide) ?_
    refine w_bret gz_147_15 gm_147 (by omega) (by omega) ?_
    show wp l rho (d + 4) 248 11 [(2, 151), (0, x1), (0, x2)] [(0, 0)] h12 Q
    refine w_ifeq (t := 37) gz_248_11 rfl (fun u14 => ?_) (fun u14 => by exfalso; omega)
    refine w_iconst gz_248_37 (by decide) ?_
    have c15 := (my_up_self fh12)
    exact w_bret gz_248_38 gm_248 (by omega) (by omega) (k0 h12 (gh12) (by omega))
  ·
    refine w_iload_n gz_147_5 rfl ?_
    refine w_iload_n gz_147_6 rfl ?_
    refine w_icgt (t := 14) gz_147_7 rfl (fun u16 => ?_) (fun u16 => ?_)
    ·
      refine w_iconst gz_147_14 (by decide) ?_
      refine w_bret gz_147_15 gm_147 (by omega) (by omega) ?_
      show wp l rho (d + 4) 248 11 [(2, 151), (0, x1), (0, x2)] [(0, 0)] h12 Q
      refine w_ifeq (t := 37) gz_248_11 rfl (fun u17 => ?_) (fun u17 => by exfalso; omega)
      refine w_iconst gz_248_37 (by decide) ?_
      have c18 := (my_up_self fh12)
      exact w_bret gz_248_38 gm_248 (by omega) (by omega) (k0 h12 (gh12) (by omega))
    ·
      refine w_iconst gz_147_10 (by decide) ?_
      refine w_goto (t := 15) gz_147_11 rfl ?_
      refine w_bret gz_147_15 gm_147 (by omega) (by omega) ?_
      show wp l rho (d + 4) 248 11 [(2, 151), (0, x1), (0, x2)] [(0, 1)] h12 Q
      refine w_ifeq (t := 37) gz_248_11 rfl (fun u19 => by exfalso; omega) (fun u19 => ?_)
      refine w_iload_n gz_248_14 rfl ?_
      refine w_ifeq (t := 39) gz_248_15 rfl (fun u20 => ?_) (fun u20 => ?_)
      ·
        exact J39_0 (x2) h12 (gh12) (by omega) (by omega) (by omega) (by omega) (by omega) (by omega) ((my_up_self fh12).trans (by omega))
      ·
        refine w_aload_n gz_248_18 rfl ?_
        refine w_getX (v := 202) gz_248_19 is_151 rd_10 rfl (by decide) rfl ?_
        refine w_iload_n gz_248_22 rfl ?_
        refine w_bald gz_248_23 is_202 rd_101 (by omega) (by omega) (fun v22 ev22 pv22 qv22 => ?_)
        refine w_ifeq (t := 37) gz_248_24 rfl (fun u23 => ?_) (fun u23 => ?_)
        ·
          refine w_iconst gz_248_37 (by decide) ?_
          have c24 := (my_up_self fh12)
          exact w_bret gz_248_38 gm_248 (by omega) (by omega) (k0 h12 (gh12) (by omega))
        ·
          refine w_aload_n gz_248_27 rfl ?_
          refine w_iconst gz_248_28 (by decide) ?_
          refine w_iload_n gz_248_29 rfl ?_
          refine w_iadd gz_248_30 ⟨by omega, by omega⟩ ?_
          refine w_inv (k := 2) (as := [(0, (1 + x1))]) (r := []) (x := 151) (ls0 := [(2, 151), (0, (1 + x1)), (9, 0), (9, 0)]) gz_248_31 gm_155 rfl is_151 rd_10 rfl rfl rfl rfl rfl (c68_Model_isLawful (d := d) (x1 := (1 + x1)) (by omega) (by omega) ?_ ?_)
          ·
            show wp l rho (d + 4) 248 34 [(2, 151), (0, x1), (0, x2)] [(0, 0)] h12 Q
            refine w_ifne (t := 39) gz_248_34 rfl (fun u25 => by exfalso; omega) (fun u25 => ?_)
            refine w_iconst gz_248_37 (by decide) ?_
            have c26 := (my_up_self fh12)
            exact w_bret gz_248_38 gm_248 (by omega) (by omega) (k0 h12 (gh12) (by omega))
          ·
            show wp l rho (d + 4) 248 34 [(2, 151), (0, x1), (0, x2)] [(0, 1)] h12 Q
            refine w_ifne (t := 39) gz_248_34 rfl (fun u27 => ?_) (fun u27 => by exfalso; omega)
            exact J39_0 (x2) h12 (gh12) (by omega) (by omega) (by omega) (by omega) (by omega) (by omega) ((my_up_self fh12).trans (by omega))
theorem gz_32_0 : mz_pg 32 0 = some (.aload_n 0, 0, 0, 0) := by decide +kernel
theorem gz_32_1 : mz_pg 32 1 = some (.getfield 46, 9, 7, 535) := by decide +kernel
theorem gz_32_4 : mz_pg 32 4 = some (.lload_n 1, 0, 0, 0) := by decide +kernel
theorem gz_32_5 : mz_pg 32 5 = some (.invokevirtual 142, 1, 33, 658) := by decide +kernel
theorem gz_32_8 : mz_pg 32 8 = some (.aload_n 0, 0, 0, 0) := by decide +kernel
theorem gz_32_9 : mz_pg 32 9 = some (.getfield 46, 9, 7, 535) := by decide +kernel
theorem gz_32_12 : mz_pg 32 12 = some (.lload_n 3, 0, 0, 0) := by decide +kernel
theorem gz_32_13 : mz_pg 32 13 = some (.invokevirtual 142, 1, 33, 658) := by decide +kernel
theorem gz_32_16 : mz_pg 32 16 = some (.aload_n 0, 0, 0, 0) := by decide +kernel
theorem gz_32_17 : mz_pg 32 17 = some (.getfield 46, 9, 7, 535) := by decide +kernel
theorem gz_32_20 : mz_pg 32 20 = some (.lload 5, 0, 0, 0) := by decide +kernel
theorem gz_32_22 : mz_pg 32 22 = some (.invokevirtual 142, 1, 33, 658) := by decide +kernel
theorem gz_32_25 : mz_pg 32 25 = some (.aload_n 0, 0, 0, 0) := by decide +kernel
theorem gz_32_26 : mz_pg 32 26 = some (.getfield 46, 9, 7, 535) := by decide +kernel
theorem gz_32_29 : mz_pg 32 29 = some (.getfield 146, 5, 4, 286) := by decide +kernel
theorem gz_32_32 : mz_pg 32 32 = some (.ireturn, 0, 0, 0) := by decide +kernel
theorem gm_32 : my_mm 32 7 (some .int) 3 9 := by unfold my_mm; decide +kernel
theorem c75_ThroughWindow_feed {l : Launch} {rho : Nat → Int32} {d : Nat} {h : my_H} {Q : my_H → my_V → Prop} {x1 x2 x3 : Int} (k0 : ∀ (h' : my_H) (y : Int), my_fr [(5, 4), (40, -1)] h h' → 0 ≤ y → y ≤ 1000 → Q h' (0, y)) : wp l rho (d + 1) 32 0 [(2, 0), (1, x1), (9, 0), (1, x2), (9, 0), (1, x3), (9, 0)] [] h Q := by
  refine w_aload_n gz_32_0 rfl ?_
  refine w_getX (v := 82) gz_32_1 is_0 rd_9 rfl (by decide) rfl ?_
  refine w_lload_n gz_32_4 rfl ?_
  refine w_inv (k := 2) (as := [(1, x1)]) (r := []) (x := 82) (ls0 := [(2, 82), (1, x1), (9, 0), (9, 0), (9, 0)]) gz_32_5 gm_33 rfl is_82 rd_5 rfl rfl rfl rfl rfl (c47_Reader_take (d := d) (x1 := x1)  (fun h2 frh2 => ?_))
  have gh2 : my_fr [(5, 4), (40, -1)] h h2 := my_fr.tr my_fr.rf (frh2.mo rfl)
  show wp l rho (d + 1) 32 8 [(2, 0), (1, x1), (9, 0), (1, x2), (9, 0), (1, x3), (9, 0)] [] h2 Q
  refine w_aload_n gz_32_8 rfl ?_
  refine w_getX (v := 82) gz_32_9 is_0 rd_9 rfl (by decide) rfl ?_
  refine w_lload_n gz_32_12 rfl ?_
  refine w_inv (k := 2) (as := [(1, x2)]) (r := []) (x := 82) (ls0 := [(2, 82), (1, x2), (9, 0), (9, 0), (9, 0)]) gz_32_13 gm_33 rfl is_82 rd_5 rfl rfl rfl rfl rfl (c47_Reader_take (d := d) (x1 := x2)  (fun h4 frh4 => ?_))
  have gh4 : my_fr [(5, 4), (40, -1)] h h4 := my_fr.tr gh2 (frh4.mo rfl)
  show wp l rho (d + 1) 32 16 [(2, 0), (1, x1), (9, 0), (1, x2), (9, 0), (1, x3), (9, 0)] [] h4 Q
  refine w_aload_n gz_32_16 rfl ?_
  refine w_getX (v := 82) gz_32_17 is_0 rd_9 rfl (by decide) rfl ?_
  refine w_lload gz_32_20 rfl ?_
  refine w_inv (k := 2) (as := [(1, x3)]) (r := []) (x := 82) (ls0 := [(2, 82), (1, x3), (9, 0), (9, 0), (9, 0)]) gz_32_22 gm_33 rfl is_82 rd_5 rfl rfl rfl rfl rfl (c47_Reader_take (d := d) (x1 := x3)  (fun h6 frh6 => ?_))
  have gh6 : my_fr [(5, 4), (40, -1)] h h6 := my_fr.tr gh4 (frh6.mo rfl)
  show wp l rho (d + 1) 32 25 [(2, 0), (1, x1), (9, 0), (1, x2), (9, 0), (1, x3), (9, 0)] [] h6 Q
  refine w_aload_n gz_32_25 rfl ?_
  refine w_getX (v := 82) gz_32_26 is_0 rd_9 rfl (by decide) rfl ?_
  refine v_getI (j := 4) gz_32_29 rfl is_82 rd_5 rfl (fun v8 ev8 pv8 qv8 => ?_)
  exact w_iret gz_32_32 gm_32 (k0 h6 (v8) (gh6) (by omega) (by omega))
theorem gz_79_0 : mz_pg 79 0 = some (.iconst 1, 0, 0, 0) := by decide +kernel
theorem gz_79_1 : mz_pg 79 1 = some (.istore_n 1, 0, 0, 0) := by decide +kernel
theorem gz_79_2 : mz_pg 79 2 = some (.iload_n 1, 0, 0, 0) := by decide +kernel
theorem gz_79_3 : mz_pg 79 3 = some (.aload_n 0, 0, 0, 0) := by decide +kernel
theorem gz_79_4 : mz_pg 79 4 = some (.getfield 22, 8, 0, 327) := by decide +kernel
theorem gz_79_7 : mz_pg 79 7 = some (.if_icmp .ge 97, 0, 0, 0) := by decide +kernel
theorem gz_79_10 : mz_pg 79 10 = some (.iload_n 1, 0, 0, 0) := by decide +kernel
theorem gz_79_11 : mz_pg 79 11 = some (.istore_n 2, 0, 0, 0) := by decide +kernel
theorem gz_79_12 : mz_pg 79 12 = some (.iload_n 2, 0, 0, 0) := by decide +kernel
theorem gz_79_13 : mz_pg 79 13 = some (.ifCond .le 45, 0, 0, 0) := by decide +kernel
theorem gz_79_16 : mz_pg 79 16 = some (.aload_n 0, 0, 0, 0) := by decide +kernel
theorem gz_79_17 : mz_pg 79 17 = some (.iload_n 1, 0, 0, 0) := by decide +kernel
theorem gz_79_18 : mz_pg 79 18 = some (.aload_n 0, 0, 0, 0) := by decide +kernel
theorem gz_79_19 : mz_pg 79 19 = some (.iload_n 2, 0, 0, 0) := by decide +kernel
theorem gz_79_20 : mz_pg 79 20 = some (.iconst 1, 0, 0, 0) := by decide +kernel
theorem gz_79_21 : mz_pg 79 21 = some (.isub, 0, 0, 0) := by decide +kernel
theorem gz_79_22 : mz_pg 79 22 = some (.invokevirtual 120, 1, 80, 864) := by decide +kernel
theorem gz_79_25 : mz_pg 79 25 = some (.istore_n 3, 0, 0, 0) := by decide +kernel
theorem gz_79_26 : mz_pg 79 26 = some (.iload_n 3, 0, 0, 0) := by decide +kernel
theorem gz_79_27 : mz_pg 79 27 = some (.ifCond .gt 31, 0, 0, 0) := by decide +kernel
theorem gz_79_30 : mz_pg 79 30 = some (.iload_n 3, 0, 0, 0) := by decide +kernel
theorem gz_79_31 : mz_pg 79 31 = some (.ifCond .ne 21, 0, 0, 0) := by decide +kernel
theorem gz_79_34 : mz_pg 79 34 = some (.aload_n 0, 0, 0, 0) := by decide +kernel
theorem gz_79_35 : mz_pg 79 35 = some (.iload_n 1, 0, 0, 0) := by decide +kernel
theorem gz_79_36 : mz_pg 79 36 = some (.invokevirtual 116, 1, 75, 848) := by decide +kernel
theorem gz_79_39 : mz_pg 79 39 = some (.aload_n 0, 0, 0, 0) := by decide +kernel
theorem gz_79_40 : mz_pg 79 40 = some (.iload_n 2, 0, 0, 0) := by decide +kernel
theorem gz_79_41 : mz_pg 79 41 = some (.iconst 1, 0, 0, 0) := by decide +kernel
theorem gz_79_42 : mz_pg 79 42 = some (.isub, 0, 0, 0) := by decide +kernel
theorem gz_79_43 : mz_pg 79 43 = some (.invokevirtual 116, 1, 75, 848) := by decide +kernel
theorem gz_79_46 : mz_pg 79 46 = some (.if_icmp .lt 6, 0, 0, 0) := by decide +kernel
theorem gz_79_49 : mz_pg 79 49 = some (.goto 9, 0, 0, 0) := by decide +kernel
theorem gz_79_52 : mz_pg 79 52 = some (.iinc 2 (-1), 0, 0, 0) := by decide +kernel
theorem gz_79_55 : mz_pg 79 55 = some (.goto (-43), 0, 0, 0) := by decide +kernel
theorem gz_79_58 : mz_pg 79 58 = some (.iload_n 2, 0, 0, 0) := by decide +kernel
theorem gz_79_59 : mz_pg 79 59 = some (.iload_n 1, 0, 0, 0) := by decide +kernel
theorem gz_79_60 : mz_pg 79 60 = some (.if_icmp .ge 38, 0, 0, 0) := by decide +kernel
theorem gz_79_63 : mz_pg 79 63 = some (.aload_n 0, 0, 0, 0) := by decide +kernel
theorem gz_79_64 : mz_pg 79 64 = some (.iload_n 1, 0, 0, 0) := by decide +kernel
theorem gz_79_65 : mz_pg 79 65 = some (.bipush 11, 0, 0, 0) := by decide +kernel
theorem gz_79_67 : mz_pg 79 67 = some (.invokevirtual 109, 1, 72, 836) := by decide +kernel
theorem gz_79_70 : mz_pg 79 70 = some (.iload_n 1, 0, 0, 0) := by decide +kernel
theorem gz_79_71 : mz_pg 79 71 = some (.istore_n 3, 0, 0, 0) := by decide +kernel
theorem gz_79_72 : mz_pg 79 72 = some (.iload_n 3, 0, 0, 0) := by decide +kernel
theorem gz_79_73 : mz_pg 79 73 = some (.iload_n 2, 0, 0, 0) := by decide +kernel
theorem gz_79_74 : mz_pg 79 74 = some (.if_icmp .le 17, 0, 0, 0) := by decide +kernel
theorem gz_79_77 : mz_pg 79 77 = some (.aload_n 0, 0, 0, 0) := by decide +kernel
theorem gz_79_78 : mz_pg 79 78 = some (.iload_n 3, 0, 0, 0) := by decide +kernel
theorem gz_79_79 : mz_pg 79 79 = some (.iconst 1, 0, 0, 0) := by decide +kernel
theorem gz_79_80 : mz_pg 79 80 = some (.isub, 0, 0, 0) := by decide +kernel
theorem gz_79_81 : mz_pg 79 81 = some (.iload_n 3, 0, 0, 0) := by decide +kernel
theorem gz_79_82 : mz_pg 79 82 = some (.invokevirtual 109, 1, 72, 836) := by decide +kernel
theorem gz_79_85 : mz_pg 79 85 = some (.iinc 3 (-1), 0, 0, 0) := by decide +kernel
theorem gz_79_88 : mz_pg 79 88 = some (.goto (-16), 0, 0, 0) := by decide +kernel
theorem gz_79_91 : mz_pg 79 91 = some (.aload_n 0, 0, 0, 0) := by decide +kernel
theorem gz_79_92 : mz_pg 79 92 = some (.bipush 11, 0, 0, 0) := by decide +kernel
theorem gz_79_94 : mz_pg 79 94 = some (.iload_n 2, 0, 0, 0) := by decide +kernel
theorem gz_79_95 : mz_pg 79 95 = some (.invokevirtual 109, 1, 72, 836) := by decide +kernel
theorem gz_79_98 : mz_pg 79 98 = some (.iinc 1 1, 0, 0, 0) := by decide +kernel
theorem gz_79_101 : mz_pg 79 101 = some (.goto (-99), 0, 0, 0) := by decide +kernel
theorem gz_79_104 : mz_pg 79 104 = some (.return_, 0, 0, 0) := by decide +kernel
theorem gm_79 : my_mm 79 4 none 0 8 := by unfold my_mm; decide +kernel
theorem c76_View_sort {l : Launch} {rho : Nat → Int32} {d : Nat} {h : my_H} {Q : my_H → my_V → Prop} {x0 : Int} (t0 : my_is 8 x0) (k0 : ∀ (h' : my_H), my_fr [(42, -1)] h h' → my_fx x0 3 h h' → Q h' (9, 0)) : wp l rho (d + 2) 79 0 [(2, x0), (9, 0), (9, 0), (9, 0)] [] h Q := by
  have J2_0 : ∀ (n : Nat) (p2_0 : Int) (h2_0 : my_H), my_fr [(42, -1)] h h2_0 → my_fx x0 3 h h2_0 → 1 ≤ p2_0 → p2_0 ≤ 11 → 12 - p2_0 ≤ (n : Int) → wp l rho (d + 2) 79 2 [(2, x0), (0, p2_0), (9, 0), (9, 0)] [] h2_0 Q := by
    intro n
    induction n with
    | zero => intro p2_0 h2_0 gh_2_0 gx_2_0 q0_2_0 q1_2_0 hm_2_0; exfalso; omega
    | succ n ih_2_0 =>
      intro p2_0 h2_0 gh_2_0 gx_2_0 q0_2_0 q1_2_0 hm_2_0
      have J98_0 : ∀ (p98_0 p98_1 : Int) (h98_0 : my_H), my_fr [(42, -1)] h h98_0 → my_fx x0 3 h h98_0 → p2_0 ≤ 10 → 0 ≤ p98_0 → p98_0 ≤ 10 → 2 ≤ p98_1 → p98_1 ≤ 11 → p98_0 ≤ (p98_1 - 1) → p98_0 ≤ p2_0 → p2_0 ≤ (p98_1 - 1) → h98_0 x0 0 = p98_1 → wp l rho (d + 2) 79 98 [(2, x0), (0, p2_0), (0, p98_0), (9, 0)] [] h98_0 Q := by
        intro p98_0 p98_1 h98_0 gh_98_0 gx_98_0 q0_98_0 q1_98_0 q2_98_0 q3_98_0 q4_98_0 q5_98_0 q6_98_0 q7_98_0 ca0_0_98_0
        refine w_iinc (ls' := [(2, x0), (0, (p2_0 + 1)), (0, p98_0), (9, 0)]) gz_79_98 rfl gm_79 rfl rfl rfl ⟨by omega, by omega⟩ ?_
        refine w_goto (t := 2) gz_79_101 rfl ?_
        refine w_weak (ls' := [(2, x0), (0, (p2_0 + 1)), (9, 0), (9, 0)]) (wk_e (wk_e (wk_9 (wk_9 wk_n)))) ?_
        exact ih_2_0 ((p2_0 + 1)) h98_0 (gh_98_0) (gx_98_0) (by omega) (by omega) (by omega)
      have J72_0 : ∀ (n : Nat) (p72_0 p72_1 p72_2 : Int) (h72_0 : my_H), my_fr [(42, -1)] h h72_0 → my_fx x0 3 h h72_0 → p2_0 ≤ 10 → 0 ≤ p72_0 → p72_0 ≤ 9 → 0 ≤ p72_1 → p72_1 ≤ 10 → 2 ≤ p72_2 → p72_2 ≤ 11 → p72_0 ≤ p72_1 → p72_0 ≤ (p72_2 - 2) → p72_0 ≤ (p2_0 - 1) → p72_1 ≤ (p72_2 - 1) → p72_1 ≤ p2_0 → p2_0 ≤ (p72_2 - 1) → h72_0 x0 0 = p72_2 → p72_1 - (-1) ≤ (n : Int) → wp l rho (d + 2) 79 72 [(2, x0), (0, p2_0), (0, p72_0), (0, p72_1)] [] h72_0 Q := by
        intro n
        induction n with
        | zero => intro p72_0 p72_1 p72_2 h72_0 gh_72_0 gx_72_0 q0_72_0 q1_72_0 q2_72_0 q3_72_0 q4_72_0 q5_72_0 q6_72_0 q7_72_0 q8_72_0 q9_72_0 q10_72_0 q11_72_0 q12_72_0 ca0_0_72_0 hm_72_0; exfalso; omega
        | succ n ih_72_0 =>
          intro p72_0 p72_1 p72_2 h72_0 gh_72_0 gx_72_0 q0_72_0 q1_72_0 q2_72_0 q3_72_0 q4_72_0 q5_72_0 q6_72_0 q7_72_0 q8_72_0 q9_72_0 q10_72_0 q11_72_0 q12_72_0 ca0_0_72_0 hm_72_0
          refine w_iload_n gz_79_72 rfl ?_
          refine w_iload_n gz_79_73 rfl ?_
          refine w_icle (t := 91) gz_79_74 rfl (fun u1 => ?_) (fun u1 => ?_)
          ·
            refine w_aload_n gz_79_91 rfl ?_
            refine w_bipush gz_79_92 (by decide) ?_
            refine w_iload_n gz_79_94 rfl ?_
            refine w_inv (k := 0) (as := [(0, p72_0), (0, 11)]) (r := []) (x := x0) (ls0 := [(2, x0), (0, 11), (0, p72_0)]) gz_79_95 gm_72 rfl t0 rd_8 rfl rfl rfl rfl rfl ?_
            refine w_iload_n gz_72_0 rfl ?_
            refine w_iload_n gz_72_1 rfl ?_
            refine w_iceq (t := 26) gz_72_2 rfl (fun u2 => by exfalso; omega) (fun u2 => ?_)
            refine w_aload_n gz_72_5 rfl ?_
            refine w_getX (v := (x0 + 1)) gz_72_6 t0 rd_8 rfl (by decide) rfl ?_
            refine w_iload_n gz_72_9 rfl ?_
            refine w_bipush gz_72_10 (by decide) ?_
            refine w_imul gz_72_12 ⟨by omega, by omega⟩ ?_
            refine w_aload_n gz_72_13 rfl ?_
            refine w_getX (v := (x0 + 1)) gz_72_14 t0 rd_8 rfl (by decide) rfl ?_
            refine w_iload_n gz_72_17 rfl ?_
            refine w_bipush gz_72_18 (by decide) ?_
            refine w_imul gz_72_20 ⟨by omega, by omega⟩ ?_
            refine w_bipush gz_72_21 (by decide) ?_
            refine w_cpG gz_72_23 (ix_8_1 t0) rd_42 (ix_8_1 t0) rd_42 (by omega) (by omega) (by omega) (by omega) (by omega) rfl (by omega) (fun h5 fh5 => ?_)
            have gh5 : my_fr [(42, -1)] h h5 := my_fr.cp gh_72_0 (ix_8_1 t0) fh5 rfl
            have gxh5 : my_fx x0 3 h h5 := my_fx.cp gx_72_0 fh5 (by omega)
            refine w_vret gz_72_26 gm_72 ?_
            show wp l rho (d + 2) 79 98 [(2, x0), (0, p2_0), (0, p72_0), (0, p72_1)] [] h5 Q
            refine w_weak (ls' := [(2, x0), (0, p2_0), (0, p72_0), (9, 0)]) (wk_e (wk_e (wk_e (wk_9 wk_n)))) ?_
            exact J98_0 (p72_0) (p72_2) h5 (gh5) (gxh5) (by omega) (by omega) (by omega) (by omega) (by omega) (by omega) (by omega) (by omega) (((my_cp_role fh5 t0 (ix_8_1 t0) rfl).trans ca0_0_72_0).trans (by omega))
          ·
            refine w_aload_n gz_79_77 rfl ?_
            refine w_iload_n gz_79_78 rfl ?_
            refine w_iconst gz_79_79 (by decide) ?_
            refine w_isub gz_79_80 ⟨by omega, by omega⟩ ?_
            refine w_iload_n gz_79_81 rfl ?_
            refine w_inv (k := 0) (as := [(0, p72_1), (0, (p72_1 - 1))]) (r := []) (x := x0) (ls0 := [(2, x0), (0, (p72_1 - 1)), (0, p72_1)]) gz_79_82 gm_72 rfl t0 rd_8 rfl rfl rfl rfl rfl ?_
            refine w_iload_n gz_72_0 rfl ?_
            refine w_iload_n gz_72_1 rfl ?_
            refine w_iceq (t := 26) gz_72_2 rfl (fun u6 => by exfalso; omega) (fun u6 => ?_)
            refine w_aload_n gz_72_5 rfl ?_
            refine w_getX (v := (x0 + 1)) gz_72_6 t0 rd_8 rfl (by decide) rfl ?_
            refine w_iload_n gz_72_9 rfl ?_
            refine w_bipush gz_72_10 (by decide) ?_
            refine w_imul gz_72_12 ⟨by omega, by omega⟩ ?_
            refine w_aload_n gz_72_13 rfl ?_
            refine w_getX (v := (x0 + 1)) gz_72_14 t0 rd_8 rfl (by decide) rfl ?_
            refine w_iload_n gz_72_17 rfl ?_
            refine w_bipush gz_72_18 (by decide) ?_
            refine w_imul gz_72_20 ⟨by omega, by omega⟩ ?_
            refine w_bipush gz_72_21 (by decide) ?_
            refine w_cpG gz_72_23 (ix_8_1 t0) rd_42 (ix_8_1 t0) rd_42 (by omega) (by omega) (by omega) (by omega) (by omega) rfl (by omega) (fun h9 fh9 => ?_)
            have gh9 : my_fr [(42, -1)] h h9 := my_fr.cp gh_72_0 (ix_8_1 t0) fh9 rfl
            have gxh9 : my_fx x0 3 h h9 := my_fx.cp gx_72_0 fh9 (by omega)
            refine w_vret gz_72_26 gm_72 ?_
            show wp l rho (d + 2) 79 85 [(2, x0), (0, p2_0), (0, p72_0), (0, p72_1)] [] h9 Q
            refine w_iinc (ls' := [(2, x0), (0, p2_0), (0, p72_0), (0, (p72_1 + (-1)))]) gz_79_85 rfl gm_79 rfl rfl rfl ⟨by omega, by omega⟩ ?_
            refine w_goto (t := 72) gz_79_88 rfl ?_
            exact ih_72_0 (p72_0) ((p72_1 + (-1))) (p72_2) h9 (gh9) (gxh9) (by omega) (by omega) (by omega) (by omega) (by omega) (by omega) (by omega) (by omega) (by omega) (by omega) (by omega) (by omega) (by omega) (((my_cp_role fh9 t0 (ix_8_1 t0) rfl).trans ca0_0_72_0).trans (by omega)) (by omega)
      have J58_0 : ∀ (p58_0 p58_1 : Int) (h58_0 : my_H), my_fr [(42, -1)] h h58_0 → my_fx x0 3 h h58_0 → p2_0 ≤ 10 → 0 ≤ p58_0 → p58_0 ≤ 10 → 2 ≤ p58_1 → p58_1 ≤ 11 → p58_0 ≤ (p58_1 - 1) → p58_0 ≤ p2_0 → p2_0 ≤ (p58_1 - 1) → h58_0 x0 0 = p58_1 → wp l rho (d + 2) 79 58 [(2, x0), (0, p2_0), (0, p58_0), (9, 0)] [] h58_0 Q := by
        intro p58_0 p58_1 h58_0 gh_58_0 gx_58_0 q0_58_0 q1_58_0 q2_58_0 q3_58_0 q4_58_0 q5_58_0 q6_58_0 q7_58_0 ca0_0_58_0
        refine w_iload_n gz_79_58 rfl ?_
        refine w_iload_n gz_79_59 rfl ?_
        refine w_icge (t := 98) gz_79_60 rfl (fun u10 => ?_) (fun u10 => ?_)
        ·
          exact J98_0 (p58_0) (p58_1) h58_0 (gh_58_0) (gx_58_0) (by omega) (by omega) (by omega) (by omega) (by omega) (by omega) (by omega) (by omega) (ca0_0_58_0.trans (by omega))
        ·
          refine w_aload_n gz_79_63 rfl ?_
          refine w_iload_n gz_79_64 rfl ?_
          refine w_bipush gz_79_65 (by decide) ?_
          refine w_inv (k := 0) (as := [(0, 11), (0, p2_0)]) (r := []) (x := x0) (ls0 := [(2, x0), (0, p2_0), (0, 11)]) gz_79_67 gm_72 rfl t0 rd_8 rfl rfl rfl rfl rfl ?_
          refine w_iload_n gz_72_0 rfl ?_
          refine w_iload_n gz_72_1 rfl ?_
          refine w_iceq (t := 26) gz_72_2 rfl (fun u11 => by exfalso; omega) (fun u11 => ?_)
          refine w_aload_n gz_72_5 rfl ?_
          refine w_getX (v := (x0 + 1)) gz_72_6 t0 rd_8 rfl (by decide) rfl ?_
          refine w_iload_n gz_72_9 rfl ?_
          refine w_bipush gz_72_10 (by decide) ?_
          refine w_imul gz_72_12 ⟨by omega, by omega⟩ ?_
          refine w_aload_n gz_72_13 rfl ?_
          refine w_getX (v := (x0 + 1)) gz_72_14 t0 rd_8 rfl (by decide) rfl ?_
          refine w_iload_n gz_72_17 rfl ?_
          refine w_bipush gz_72_18 (by decide) ?_
          refine w_imul gz_72_20 ⟨by omega, by omega⟩ ?_
          refine w_bipush gz_72_21 (by decide) ?_
          refine w_cpG gz_72_23 (ix_8_1 t0) rd_42 (ix_8_1 t0) rd_42 (by omega) (by omega) (by omega) (by omega) (by omega) rfl (by omega) (fun h14 fh14 => ?_)
          have gh14 : my_fr [(42, -1)] h h14 := my_fr.cp gh_58_0 (ix_8_1 t0) fh14 rfl
          have gxh14 : my_fx x0 3 h h14 := my_fx.cp gx_58_0 fh14 (by omega)
          refine w_vret gz_72_26 gm_72 ?_
          show wp l rho (d + 2) 79 70 [(2, x0), (0, p2_0), (0, p58_0), (9, 0)] [] h14 Q
          refine w_iload_n gz_79_70 rfl ?_
          refine w_istore_n (ls' := [(2, x0), (0, p2_0), (0, p58_0), (0, p2_0)]) gz_79_71 gm_79 rfl rfl rfl ?_
          exact J72_0 11 (p58_0) (p2_0) (p58_1) h14 (gh14) (gxh14) (by omega) (by omega) (by omega) (by omega) (by omega) (by omega) (by omega) (by omega) (by omega) (by omega) (by omega) (by omega) (by omega) (((my_cp_role fh14 t0 (ix_8_1 t0) rfl).trans ca0_0_58_0).trans (by omega)) (by omega)
      have J12_0 : ∀ (n : Nat) (p12_0 p12_1 : Int) (h12_0 : my_H), my_fr [(42, -1)] h h12_0 → my_fx x0 3 h h12_0 → p2_0 ≤ 10 → 0 ≤ p12_0 → p12_0 ≤ 10 → 2 ≤ p12_1 → p12_1 ≤ 11 → p12_0 ≤ (p12_1 - 1) → p12_0 ≤ p2_0 → p2_0 ≤ (p12_1 - 1) → h12_0 x0 0 = p12_1 → p12_0 - (-1) ≤ (n : Int) → wp l rho (d + 2) 79 12 [(2, x0), (0, p2_0), (0, p12_0), (9, 0)] [] h12_0 Q := by
        intro n
        induction n with
        | zero => intro p12_0 p12_1 h12_0 gh_12_0 gx_12_0 q0_12_0 q1_12_0 q2_12_0 q3_12_0 q4_12_0 q5_12_0 q6_12_0 q7_12_0 ca0_0_12_0 hm_12_0; exfalso; omega
        | succ n ih_12_0 =>
          intro p12_0 p12_1 h12_0 gh_12_0 gx_12_0 q0_12_0 q1_12_0 q2_12_0 q3_12_0 q4_12_0 q5_12_0 q6_12_0 q7_12_0 ca0_0_12_0 hm_12_0
          have J52_0 : ∀ (p52_0 : Int) (h52_0 : my_H), my_fr [(42, -1)] h h52_0 → my_fx x0 3 h h52_0 → 1 ≤ p12_0 → p52_0 ≤ 0 → p2_0 ≤ (p12_1 - 1) → p12_0 ≤ p2_0 → p12_0 ≤ (p12_1 - 1) → h52_0 x0 0 = p12_1 → wp l rho (d + 2) 79 52 [(2, x0), (0, p2_0), (0, p12_0), (0, p52_0)] [] h52_0 Q := by
            intro p52_0 h52_0 gh_52_0 gx_52_0 q0_52_0 q1_52_0 q2_52_0 q3_52_0 q4_52_0 ca0_0_52_0
            refine w_iinc (ls' := [(2, x0), (0, p2_0), (0, (p12_0 + (-1))), (0, p52_0)]) gz_79_52 rfl gm_79 rfl rfl rfl ⟨by omega, by omega⟩ ?_
            refine w_goto (t := 12) gz_79_55 rfl ?_
            refine w_weak (ls' := [(2, x0), (0, p2_0), (0, (p12_0 + (-1))), (9, 0)]) (wk_e (wk_e (wk_e (wk_9 wk_n)))) ?_
            exact ih_12_0 ((p12_0 + (-1))) (p12_1) h52_0 (gh_52_0) (gx_52_0) (by omega) (by omega) (by omega) (by omega) (by omega) (by omega) (by omega) (by omega) (ca0_0_52_0.trans (by omega)) (by omega)
          refine w_iload_n gz_79_12 rfl ?_
          refine w_ifle (t := 58) gz_79_13 rfl (fun u15 => ?_) (fun u15 => ?_)
          ·
            exact J58_0 (p12_0) (p12_1) h12_0 (gh_12_0) (gx_12_0) (by omega) (by omega) (by omega) (by omega) (by omega) (by omega) (by omega) (by omega) (ca0_0_12_0.trans (by omega))
          ·
            refine w_aload_n gz_79_16 rfl ?_
            refine w_iload_n gz_79_17 rfl ?_
            refine w_aload_n gz_79_18 rfl ?_
            refine w_iload_n gz_79_19 rfl ?_
            refine w_iconst gz_79_20 (by decide) ?_
            refine w_isub gz_79_21 ⟨by omega, by omega⟩ ?_
            refine w_inv (k := 2) (as := [(0, (p12_0 - 1)), (2, x0), (0, p2_0)]) (r := []) (x := x0) (ls0 := [(2, x0), (0, p2_0), (2, x0), (0, (p12_0 - 1)), (9, 0), (9, 0)]) gz_79_22 gm_80 rfl t0 rd_8 rfl rfl rfl rfl rfl (c55_View_compare (d := (d + 1)) (x0 := x0) (x1 := p2_0) (x2 := x0) (x3 := (p12_0 - 1)) t0 (by omega) (by omega) t0 (by omega) (by omega) ?_ (fun v16 w17 w18 => ?_))
            ·
              show wp l rho (d + 2) 79 25 [(2, x0), (0, p2_0), (0, p12_0), (9, 0)] [(0, 0)] h12_0 Q
              refine w_istore_n (ls' := [(2, x0), (0, p2_0), (0, p12_0), (0, 0)]) gz_79_25 gm_79 rfl rfl rfl ?_
              refine w_iload_n gz_79_26 rfl ?_
              refine w_ifgt (t := 58) gz_79_27 rfl (fun u19 => by exfalso; omega) (fun u19 => ?_)
              refine w_iload_n gz_79_30 rfl ?_
              refine w_ifne (t := 52) gz_79_31 rfl (fun u20 => by exfalso; omega) (fun u20 => ?_)
              refine w_aload_n gz_79_34 rfl ?_
              refine w_iload_n gz_79_35 rfl ?_
              refine w_inv (k := 0) (as := [(0, p2_0)]) (r := []) (x := x0) (ls0 := [(2, x0), (0, p2_0)]) gz_79_36 gm_75 rfl t0 rd_8 rfl rfl rfl rfl rfl ?_
              refine w_aload_n gz_75_0 rfl ?_
              refine w_getX (v := (x0 + 1)) gz_75_1 t0 rd_8 rfl (by decide) rfl ?_
              refine w_iload_n gz_75_4 rfl ?_
              refine w_bipush gz_75_5 (by decide) ?_
              refine w_imul gz_75_7 ⟨by omega, by omega⟩ ?_
              refine w_bipush gz_75_8 (by decide) ?_
              refine w_iadd gz_75_10 ⟨by omega, by omega⟩ ?_
              refine w_gldT gz_75_11 (ix_8_1 t0) rd_42 (by omega) (by omega) (by omega) (fun v22 ev22 pv22 qv22 => ?_)
              refine w_iret gz_75_12 gm_75 ?_
              show wp l rho (d + 2) 79 39 [(2, x0), (0, p2_0), (0, p12_0), (0, 0)] [(0, v22)] h12_0 Q
              refine w_aload_n gz_79_39 rfl ?_
              refine w_iload_n gz_79_40 rfl ?_
              refine w_iconst gz_79_41 (by decide) ?_
              refine w_isub gz_79_42 ⟨by omega, by omega⟩ ?_
              refine w_inv (k := 0) (as := [(0, (p12_0 - 1))]) (r := [(0, v22)]) (x := x0) (ls0 := [(2, x0), (0, (p12_0 - 1))]) gz_79_43 gm_75 rfl t0 rd_8 rfl rfl rfl rfl rfl ?_
              refine w_aload_n gz_75_0 rfl ?_
              refine w_getX (v := (x0 + 1)) gz_75_1 t0 rd_8 rfl (by decide) rfl ?_
              refine w_iload_n gz_75_4 rfl ?_
              refine w_bipush gz_75_5 (by decide) ?_
              refine w_imul gz_75_7 ⟨by omega, by omega⟩ ?_
              refine w_bipush gz_75_8 (by decide) ?_
              refine w_iadd gz_75_10 ⟨by omega, by omega⟩ ?_
              refine w_gldT gz_75_11 (ix_8_1 t0) rd_42 (by omega) (by omega) (by omega) (fun v24 ev24 pv24 qv24 => ?_)
              refine w_iret gz_75_12 gm_75 ?_
              show wp l rho (d + 2) 79 46 [(2, x0), (0, p2_0), (0, p12_0), (0, 0)] [(0, v24), (0, v22)] h12_0 Q
              refine w_iclt (t := 52) gz_79_46 rfl (fun u25 => ?_) (fun u25 => ?_)
              ·
                exact J52_0 (0) h12_0 (gh_12_0) (gx_12_0) (by omega) (by omega) (by omega) (by omega) (by omega) (ca0_0_12_0.trans (by omega))
              ·
                refine w_goto (t := 58) gz_79_49 rfl ?_
                refine w_weak (ls' := [(2, x0), (0, p2_0), (0, p12_0), (9, 0)]) (wk_e (wk_e (wk_e (wk_9 wk_n)))) ?_
                exact J58_0 (p12_0) (p12_1) h12_0 (gh_12_0) (gx_12_0) (by omega) (by omega) (by omega) (by omega) (by omega) (by omega) (by omega) (by omega) (ca0_0_12_0.trans (by omega))
            ·
              show wp l rho (d + 2) 79 25 [(2, x0), (0, p2_0), (0, p12_0), (9, 0)] [(0, v16)] h12_0 Q
              refine w_istore_n (ls' := [(2, x0), (0, p2_0), (0, p12_0), (0, v16)]) gz_79_25 gm_79 rfl rfl rfl ?_
              refine w_iload_n gz_79_26 rfl ?_
              refine w_ifgt (t := 58) gz_79_27 rfl (fun u26 => ?_) (fun u26 => ?_)
              ·
                refine w_weak (ls' := [(2, x0), (0, p2_0), (0, p12_0), (9, 0)]) (wk_e (wk_e (wk_e (wk_9 wk_n)))) ?_
                exact J58_0 (p12_0) (p12_1) h12_0 (gh_12_0) (gx_12_0) (by omega) (by omega) (by omega) (by omega) (by omega) (by omega) (by omega) (by omega) (ca0_0_12_0.trans (by omega))
              ·
                refine w_iload_n gz_79_30 rfl ?_
                refine w_ifne (t := 52) gz_79_31 rfl (fun u27 => ?_) (fun u27 => ?_)
                ·
                  exact J52_0 (v16) h12_0 (gh_12_0) (gx_12_0) (by omega) (by omega) (by omega) (by omega) (by omega) (ca0_0_12_0.trans (by omega))
                ·
                  refine w_aload_n gz_79_34 rfl ?_
                  refine w_iload_n gz_79_35 rfl ?_
                  refine w_inv (k := 0) (as := [(0, p2_0)]) (r := []) (x := x0) (ls0 := [(2, x0), (0, p2_0)]) gz_79_36 gm_75 rfl t0 rd_8 rfl rfl rfl rfl rfl ?_
                  refine w_aload_n gz_75_0 rfl ?_
                  refine w_getX (v := (x0 + 1)) gz_75_1 t0 rd_8 rfl (by decide) rfl ?_
                  refine w_iload_n gz_75_4 rfl ?_
                  refine w_bipush gz_75_5 (by decide) ?_
                  refine w_imul gz_75_7 ⟨by omega, by omega⟩ ?_
                  refine w_bipush gz_75_8 (by decide) ?_
                  refine w_iadd gz_75_10 ⟨by omega, by omega⟩ ?_
                  refine w_gldT gz_75_11 (ix_8_1 t0) rd_42 (by omega) (by omega) (by omega) (fun v29 ev29 pv29 qv29 => ?_)
                  refine w_iret gz_75_12 gm_75 ?_
                  show wp l rho (d + 2) 79 39 [(2, x0), (0, p2_0), (0, p12_0), (0, v16)] [(0, v29)] h12_0 Q
                  refine w_aload_n gz_79_39 rfl ?_
                  refine w_iload_n gz_79_40 rfl ?_
                  refine w_iconst gz_79_41 (by decide) ?_
                  refine w_isub gz_79_42 ⟨by omega, by omega⟩ ?_
                  refine w_inv (k := 0) (as := [(0, (p12_0 - 1))]) (r := [(0, v29)]) (x := x0) (ls0 := [(2, x0), (0, (p12_0 - 1))]) gz_79_43 gm_75 rfl t0 rd_8 rfl rfl rfl rfl rfl ?_
                  refine w_aload_n gz_75_0 rfl ?_
                  refine w_getX (v := (x0 + 1)) gz_75_1 t0 rd_8 rfl (by decide) rfl ?_
                  refine w_iload_n gz_75_4 rfl ?_
                  refine w_bipush gz_75_5 (by decide) ?_
                  refine w_imul gz_75_7 ⟨by omega, by omega⟩ ?_
                  refine w_bipush gz_75_8 (by decide) ?_
                  refine w_iadd gz_75_10 ⟨by omega, by omega⟩ ?_
                  refine w_gldT gz_75_11 (ix_8_1 t0) rd_42 (by omega) (by omega) (by omega) (fun v31 ev31 pv31 qv31 => ?_)
                  refine w_iret gz_75_12 gm_75 ?_
                  show wp l rho (d + 2) 79 46 [(2, x0), (0, p2_0), (0, p12_0), (0, v16)] [(0, v31), (0, v29)] h12_0 Q
                  refine w_iclt (t := 52) gz_79_46 rfl (fun u32 => ?_) (fun u32 => ?_)
                  ·
                    exact J52_0 (v16) h12_0 (gh_12_0) (gx_12_0) (by omega) (by omega) (by omega) (by omega) (by omega) (ca0_0_12_0.trans (by omega))
                  ·
                    refine w_goto (t := 58) gz_79_49 rfl ?_
                    refine w_weak (ls' := [(2, x0), (0, p2_0), (0, p12_0), (9, 0)]) (wk_e (wk_e (wk_e (wk_9 wk_n)))) ?_
                    exact J58_0 (p12_0) (p12_1) h12_0 (gh_12_0) (gx_12_0) (by omega) (by omega) (by omega) (by omega) (by omega) (by omega) (by omega) (by omega) (ca0_0_12_0.trans (by omega))
      refine w_iload_n gz_79_2 rfl ?_
      refine w_aload_n gz_79_3 rfl ?_
      refine v_getI (j := 0) gz_79_4 rfl t0 rd_8 rfl (fun v33 ev33 pv33 qv33 => ?_)
      refine w_icge (t := 104) gz_79_7 rfl (fun u34 => ?_) (fun u34 => ?_)
      ·
        exact w_vret gz_79_104 gm_79 (k0 h2_0 (gh_2_0) (gx_2_0))
      ·
        refine w_iload_n gz_79_10 rfl ?_
        refine w_istore_n (ls' := [(2, x0), (0, p2_0), (0, p2_0), (9, 0)]) gz_79_11 gm_79 rfl rfl rfl ?_
        exact J12_0 11 (p2_0) (v33) h2_0 (gh_2_0) (gx_2_0) (by omega) (by omega) (by omega) (by omega) (by omega) (by omega) (by omega) (by omega) (ev33.symm.trans (by omega)) (by omega)
  refine w_iconst gz_79_0 (by decide) ?_
  refine w_istore_n (ls' := [(2, x0), (0, 1), (9, 0), (9, 0)]) gz_79_1 gm_79 rfl rfl rfl ?_
  exact J2_0 11 (1) h (my_fr.rf) (my_fx.rf) (by omega) (by omega) (by omega)
theorem gz_154_0 : mz_pg 154 0 = some (.aload_n 0, 0, 0, 0) := by decide +kernel
theorem gz_154_1 : mz_pg 154 1 = some (.iconst 5, 0, 0, 0) := by decide +kernel
theorem gz_154_2 : mz_pg 154 2 = some (.invokevirtual 260, 1, 155, 1444) := by decide +kernel
theorem gz_154_5 : mz_pg 154 5 = some (.ifCond .ne 5, 0, 0, 0) := by decide +kernel
theorem gz_154_8 : mz_pg 154 8 = some (.iconst 0, 0, 0, 0) := by decide +kernel
theorem gz_154_9 : mz_pg 154 9 = some (.ireturn, 0, 0, 0) := by decide +kernel
theorem gz_154_10 : mz_pg 154 10 = some (.aload_n 0, 0, 0, 0) := by decide +kernel
theorem gz_154_11 : mz_pg 154 11 = some (.iconst 5, 0, 0, 0) := by decide +kernel
theorem gz_154_12 : mz_pg 154 12 = some (.iconst 0, 0, 0, 0) := by decide +kernel
theorem gz_154_13 : mz_pg 154 13 = some (.invokevirtual 263, 1, 152, 1435) := by decide +kernel
theorem gz_154_16 : mz_pg 154 16 = some (.iconst 1, 0, 0, 0) := by decide +kernel
theorem gz_154_17 : mz_pg 154 17 = some (.ireturn, 0, 0, 0) := by decide +kernel
theorem gm_154 : my_mm 154 1 (some .boolean) 0 10 := by unfold my_mm; decide +kernel
theorem c77_Model_takes {l : Launch} {rho : Nat → Int32} {d : Nat} {h : my_H} {Q : my_H → my_V → Prop} (k0 : ∀ (h' : my_H), my_fr [(61, -1), (62, -1)] h h' → Q h' (0, 0)) (k1 : ∀ (h' : my_H), my_fr [(61, -1), (62, -1)] h h' → Q h' (0, 1)) : wp l rho (d + 4) 154 0 [(2, 151)] [] h Q := by
  refine w_aload_n gz_154_0 rfl ?_
  refine w_iconst gz_154_1 (by decide) ?_
  refine w_inv (k := 2) (as := [(0, 5)]) (r := []) (x := 151) (ls0 := [(2, 151), (0, 5), (9, 0), (9, 0)]) gz_154_2 gm_155 rfl is_151 rd_10 rfl rfl rfl rfl rfl (c68_Model_isLawful (d := d) (x1 := 5) (by omega) (by omega) ?_ ?_)
  ·
    show wp l rho (d + 4) 154 5 [(2, 151)] [(0, 0)] h Q
    refine w_ifne (t := 10) gz_154_5 rfl (fun u1 => by exfalso; omega) (fun u1 => ?_)
    refine w_iconst gz_154_8 (by decide) ?_
    exact w_bret gz_154_9 gm_154 (by omega) (by omega) (k0 h (my_fr.rf))
  ·
    show wp l rho (d + 4) 154 5 [(2, 151)] [(0, 1)] h Q
    refine w_ifne (t := 10) gz_154_5 rfl (fun u2 => ?_) (fun u2 => by exfalso; omega)
    refine w_aload_n gz_154_10 rfl ?_
    refine w_iconst gz_154_11 (by decide) ?_
    refine w_iconst gz_154_12 (by decide) ?_
    refine w_inv (k := 1) (as := [(0, 0), (0, 5)]) (r := []) (x := 151) (ls0 := [(2, 151), (0, 5), (0, 0), (9, 0)]) gz_154_13 gm_152 rfl is_151 rd_10 rfl rfl rfl rfl rfl (c15_Model_copies (d := (d + 3)) (x1 := 5) (x2 := 0) (by omega) (by omega) (by omega) (by omega) (fun h3 frh3 => ?_))
    have gh3 : my_fr [(61, -1), (62, -1)] h h3 := my_fr.tr my_fr.rf (frh3.mo rfl)
    show wp l rho (d + 4) 154 16 [(2, 151)] [] h3 Q
    refine w_iconst gz_154_16 (by decide) ?_
    exact w_bret gz_154_17 gm_154 (by omega) (by omega) (k1 h3 (gh3))
theorem gz_158_0 : mz_pg 158 0 = some (.aload_n 0, 0, 0, 0) := by decide +kernel
theorem gz_158_1 : mz_pg 158 1 = some (.iconst 0, 0, 0, 0) := by decide +kernel
theorem gz_158_2 : mz_pg 158 2 = some (.putfield 1, 10, 0, 1213) := by decide +kernel
theorem gz_158_5 : mz_pg 158 5 = some (.aload_n 0, 0, 0, 0) := by decide +kernel
theorem gz_158_6 : mz_pg 158 6 = some (.iload_n 1, 0, 0, 0) := by decide +kernel
theorem gz_158_7 : mz_pg 158 7 = some (.iload_n 2, 0, 0, 0) := by decide +kernel
theorem gz_158_8 : mz_pg 158 8 = some (.invokevirtual 279, 1, 159, 1457) := by decide +kernel
theorem gz_158_11 : mz_pg 158 11 = some (.ifCond .ne 5, 0, 0, 0) := by decide +kernel
theorem gz_158_14 : mz_pg 158 14 = some (.iconst 0, 0, 0, 0) := by decide +kernel
theorem gz_158_15 : mz_pg 158 15 = some (.ireturn, 0, 0, 0) := by decide +kernel
theorem gz_158_16 : mz_pg 158 16 = some (.aload_n 0, 0, 0, 0) := by decide +kernel
theorem gz_158_17 : mz_pg 158 17 = some (.iconst 0, 0, 0, 0) := by decide +kernel
theorem gz_158_18 : mz_pg 158 18 = some (.iconst 5, 0, 0, 0) := by decide +kernel
theorem gz_158_19 : mz_pg 158 19 = some (.invokevirtual 263, 1, 152, 1435) := by decide +kernel
theorem gz_158_22 : mz_pg 158 22 = some (.aload_n 0, 0, 0, 0) := by decide +kernel
theorem gz_158_23 : mz_pg 158 23 = some (.getfield 77, 10, 15, 1228) := by decide +kernel
theorem gz_158_26 : mz_pg 158 26 = some (.iconst 5, 0, 0, 0) := by decide +kernel
theorem gz_158_27 : mz_pg 158 27 = some (.iload_n 1, 0, 0, 0) := by decide +kernel
theorem gz_158_28 : mz_pg 158 28 = some (.iload_n 2, 0, 0, 0) := by decide +kernel
theorem gz_158_29 : mz_pg 158 29 = some (.invokestatic 242, 1, 150, 1429) := by decide +kernel
theorem gz_158_32 : mz_pg 158 32 = some (.iconst 0, 0, 0, 0) := by decide +kernel
theorem gz_158_33 : mz_pg 158 33 = some (.bastore, 0, 0, 0) := by decide +kernel
theorem gz_158_34 : mz_pg 158 34 = some (.aload_n 0, 0, 0, 0) := by decide +kernel
theorem gz_158_35 : mz_pg 158 35 = some (.invokevirtual 275, 1, 154, 1441) := by decide +kernel
theorem gz_158_38 : mz_pg 158 38 = some (.ireturn, 0, 0, 0) := by decide +kernel
theorem gm_158 : my_mm 158 3 (some .boolean) 2 10 := by unfold my_mm; decide +kernel
theorem c78_Model_out {l : Launch} {rho : Nat → Int32} {d : Nat} {h : my_H} {Q : my_H → my_V → Prop} {x1 x2 : Int} (k0 : ∀ (h' : my_H), my_fr [(10, 0), (61, -1), (62, -1)] h h' → h' 151 0 = 0 → Q h' (0, 0)) (k1 : ∀ (h' : my_H), my_fr [(10, 0), (61, -1), (62, -1)] h h' → 0 ≤ x1 → x1 ≤ 2 → 0 ≤ x2 → x2 ≤ 19 → h' 151 0 = 0 → Q h' (0, 1)) : wp l rho (d + 5) 158 0 [(2, 151), (0, x1), (0, x2)] [] h Q := by
  refine w_aload_n gz_158_0 rfl ?_
  refine w_iconst gz_158_1 (by decide) ?_
  refine v_putI (j := 0) gz_158_2 rfl is_151 rd_10 rfl (by omega) (by omega) rfl (fun h1 fh1 => ?_)
  have gh1 : my_fr [(10, 0), (61, -1), (62, -1)] h h1 := my_fr.up my_fr.rf is_151 fh1 rfl
  refine w_aload_n gz_158_5 rfl ?_
  refine w_iload_n gz_158_6 rfl ?_
  refine w_iload_n gz_158_7 rfl ?_
  refine w_inv (k := 0) (as := [(0, x2), (0, x1)]) (r := []) (x := 151) (ls0 := [(2, 151), (0, x1), (0, x2)]) gz_158_8 gm_159 rfl is_151 rd_10 rfl rfl rfl rfl rfl (c18_Model_isRow (d := (d + 3)) (x1 := x1) (x2 := x2)  ?_ (fun w2 w3 w4 w5 => ?_))
  ·
    show wp l rho (d + 5) 158 11 [(2, 151), (0, x1), (0, x2)] [(0, 0)] h1 Q
    refine w_ifne (t := 16) gz_158_11 rfl (fun u6 => by exfalso; omega) (fun u6 => ?_)
    refine w_iconst gz_158_14 (by decide) ?_
    have c7 := (my_up_self fh1)
    exact w_bret gz_158_15 gm_158 (by omega) (by omega) (k0 h1 (gh1) (by omega))
  ·
    show wp l rho (d + 5) 158 11 [(2, 151), (0, x1), (0, x2)] [(0, 1)] h1 Q
    refine w_ifne (t := 16) gz_158_11 rfl (fun u8 => ?_) (fun u8 => by exfalso; omega)
    refine w_aload_n gz_158_16 rfl ?_
    refine w_iconst gz_158_17 (by decide) ?_
    refine w_iconst gz_158_18 (by decide) ?_
    refine w_inv (k := 1) (as := [(0, 5), (0, 0)]) (r := []) (x := 151) (ls0 := [(2, 151), (0, 0), (0, 5), (9, 0)]) gz_158_19 gm_152 rfl is_151 rd_10 rfl rfl rfl rfl rfl (c15_Model_copies (d := (d + 4)) (x1 := 0) (x2 := 5) (by omega) (by omega) (by omega) (by omega) (fun h9 frh9 => ?_))
    have gh9 : my_fr [(10, 0), (61, -1), (62, -1)] h h9 := my_fr.tr gh1 (frh9.mo rfl)
    show wp l rho (d + 5) 158 22 [(2, 151), (0, x1), (0, x2)] [] h9 Q
    refine w_aload_n gz_158_22 rfl ?_
    refine w_getX (v := 162) gz_158_23 is_151 rd_10 rfl (by decide) rfl ?_
    refine w_iconst gz_158_26 (by decide) ?_
    refine w_iload_n gz_158_27 rfl ?_
    refine w_iload_n gz_158_28 rfl ?_
    refine w_inS (k := 0) (as := [(0, x2), (0, x1), (0, 5)]) (r := [(2, 162)]) (ls0 := [(0, 5), (0, x1), (0, x2)]) gz_158_29 gm_150 rfl rfl rfl rfl rfl rfl ?_
    refine w_bipush gz_150_0 (by decide) ?_
    refine w_iload_n gz_150_2 rfl ?_
    refine w_imul gz_150_3 ⟨by omega, by omega⟩ ?_
    refine w_bipush gz_150_4 (by decide) ?_
    refine w_iload_n gz_150_6 rfl ?_
    refine w_imul gz_150_7 ⟨by omega, by omega⟩ ?_
    refine w_iadd gz_150_8 ⟨by omega, by omega⟩ ?_
    refine w_iload_n gz_150_9 rfl ?_
    refine w_iadd gz_150_10 ⟨by omega, by omega⟩ ?_
    refine w_iret gz_150_11 gm_150 ?_
    show wp l rho (d + 5) 158 32 [(2, 151), (0, x1), (0, x2)] [(0, (((60 * 5) + (20 * x1)) + x2)), (2, 162)] h9 Q
    refine w_iconst gz_158_32 (by decide) ?_
    refine w_bast gz_158_33 is_162 rd_61 (by omega) (by omega) (by omega) (by omega) (fun h11 fh11 => ?_)
    have gh11 : my_fr [(10, 0), (61, -1), (62, -1)] h h11 := my_fr.up gh9 is_162 fh11 rfl
    refine w_aload_n gz_158_34 rfl ?_
    refine w_inv (k := 0) (as := []) (r := []) (x := 151) (ls0 := [(2, 151)]) gz_158_35 gm_154 rfl is_151 rd_10 rfl rfl rfl rfl rfl (c77_Model_takes (d := d)   (fun h12 frh12 => ?_) (fun h13 frh13 => ?_))
    ·
      have gh12 : my_fr [(10, 0), (61, -1), (62, -1)] h h12 := my_fr.tr gh11 (frh12.mo rfl)
      show wp l rho (d + 5) 158 38 [(2, 151), (0, x1), (0, x2)] [(0, 0)] h12 Q
      have c14 := ((my_fr.at frh12 is_151 rfl).trans ((my_up_role fh11 is_151 is_162 rfl).trans ((my_fr.at frh9 is_151 rfl).trans (my_up_self fh1))))
      exact w_bret gz_158_38 gm_158 (by omega) (by omega) (k0 h12 (gh12) (by omega))
    ·
      have gh13 : my_fr [(10, 0), (61, -1), (62, -1)] h h13 := my_fr.tr gh11 (frh13.mo rfl)
      show wp l rho (d + 5) 158 38 [(2, 151), (0, x1), (0, x2)] [(0, 1)] h13 Q
      have c15 := ((my_fr.at frh13 is_151 rfl).trans ((my_up_role fh11 is_151 is_162 rfl).trans ((my_fr.at frh9 is_151 rfl).trans (my_up_self fh1))))
      exact w_bret gz_158_38 gm_158 (by omega) (by omega) (k1 h13 (gh13) (by omega) (by omega) (by omega) (by omega) (by omega))
theorem gz_18_0 : mz_pg 18 0 = some (.aload_n 0, 0, 0, 0) := by decide +kernel
theorem gz_18_1 : mz_pg 18 1 = some (.aload_n 1, 0, 0, 0) := by decide +kernel
theorem gz_18_2 : mz_pg 18 2 = some (.invokevirtual 32, 1, 19, 603) := by decide +kernel
theorem gz_18_5 : mz_pg 18 5 = some (.iconst (-1), 0, 0, 0) := by decide +kernel
theorem gz_18_6 : mz_pg 18 6 = some (.if_icmp .ne 7, 0, 0, 0) := by decide +kernel
theorem gz_18_9 : mz_pg 18 9 = some (.iconst 1, 0, 0, 0) := by decide +kernel
theorem gz_18_10 : mz_pg 18 10 = some (.goto 4, 0, 0, 0) := by decide +kernel
theorem gz_18_13 : mz_pg 18 13 = some (.iconst 0, 0, 0, 0) := by decide +kernel
theorem gz_18_14 : mz_pg 18 14 = some (.ireturn, 0, 0, 0) := by decide +kernel
theorem gm_18 : my_mm 18 2 (some .boolean) 1 3 := by unfold my_mm; decide +kernel
theorem c79_Laws_hold {l : Launch} {rho : Nat → Int32} {d : Nat} {h : my_H} {Q : my_H → my_V → Prop} {x1 : Int} (t1 : my_is 6 x1) (k0 : Q h (0, 0)) (k1 : Q h (0, 1)) : wp l rho (d + 3) 18 0 [(2, 1), (2, x1)] [] h Q := by
  refine w_aload_n gz_18_0 rfl ?_
  refine w_aload_n gz_18_1 rfl ?_
  refine w_inv (k := 4) (as := [(2, x1)]) (r := []) (x := 1) (ls0 := [(2, 1), (2, x1), (9, 0), (9, 0), (9, 0), (9, 0)]) gz_18_2 gm_19 rfl is_1 rd_3 rfl rfl rfl rfl rfl (c72_Laws_firstBroken (d := d) (x1 := x1) t1 ?_ (fun v1 w2 w3 => ?_))
  ·
    show wp l rho (d + 3) 18 5 [(2, 1), (2, x1)] [(0, (-1))] h Q
    refine w_iconst gz_18_5 (by decide) ?_
    refine w_icne (t := 13) gz_18_6 rfl (fun u4 => by exfalso; omega) (fun u4 => ?_)
    refine w_iconst gz_18_9 (by decide) ?_
    refine w_goto (t := 14) gz_18_10 rfl ?_
    exact w_bret gz_18_14 gm_18 (by omega) (by omega) (k1 )
  ·
    show wp l rho (d + 3) 18 5 [(2, 1), (2, x1)] [(0, v1)] h Q
    refine w_iconst gz_18_5 (by decide) ?_
    refine w_icne (t := 13) gz_18_6 rfl (fun u5 => ?_) (fun u5 => by exfalso; omega)
    refine w_iconst gz_18_13 (by decide) ?_
    exact w_bret gz_18_14 gm_18 (by omega) (by omega) (k0 )
theorem is_8 : my_is 30 8 := by unfold my_is; decide +kernel
theorem is_145 : my_is 6 145 := by unfold my_is; decide +kernel
theorem is_146 : my_is 30 146 := by unfold my_is; decide +kernel
theorem is_147 : my_is 31 147 := by unfold my_is; decide +kernel
theorem gz_24_0 : mz_pg 24 0 = some (.aload_n 0, 0, 0, 0) := by decide +kernel
theorem gz_24_1 : mz_pg 24 1 = some (.getfield 10, 9, 0, 528) := by decide +kernel
theorem gz_24_4 : mz_pg 24 4 = some (.iload_n 1, 0, 0, 0) := by decide +kernel
theorem gz_24_5 : mz_pg 24 5 = some (.invokevirtual 88, 1, 13, 578) := by decide +kernel
theorem gz_24_8 : mz_pg 24 8 = some (.ifCond .eq 15, 0, 0, 0) := by decide +kernel
theorem gz_24_11 : mz_pg 24 11 = some (.aload_n 0, 0, 0, 0) := by decide +kernel
theorem gz_24_12 : mz_pg 24 12 = some (.getfield 19, 9, 1, 529) := by decide +kernel
theorem gz_24_15 : mz_pg 24 15 = some (.iload_n 1, 0, 0, 0) := by decide +kernel
theorem gz_24_16 : mz_pg 24 16 = some (.iload_n 2, 0, 0, 0) := by decide +kernel
theorem gz_24_17 : mz_pg 24 17 = some (.invokevirtual 98, 1, 15, 586) := by decide +kernel
theorem gz_24_20 : mz_pg 24 20 = some (.ifCond .ne 5, 0, 0, 0) := by decide +kernel
theorem gz_24_23 : mz_pg 24 23 = some (.iconst 0, 0, 0, 0) := by decide +kernel
theorem gz_24_24 : mz_pg 24 24 = some (.ireturn, 0, 0, 0) := by decide +kernel
theorem gz_24_25 : mz_pg 24 25 = some (.aload_n 0, 0, 0, 0) := by decide +kernel
theorem gz_24_26 : mz_pg 24 26 = some (.getfield 82, 9, 13, 541) := by decide +kernel
theorem gz_24_29 : mz_pg 24 29 = some (.aload_n 0, 0, 0, 0) := by decide +kernel
theorem gz_24_30 : mz_pg 24 30 = some (.getfield 19, 9, 1, 529) := by decide +kernel
theorem gz_24_33 : mz_pg 24 33 = some (.invokevirtual 114, 1, 25, 626) := by decide +kernel
theorem gz_24_36 : mz_pg 24 36 = some (.aload_n 0, 0, 0, 0) := by decide +kernel
theorem gz_24_37 : mz_pg 24 37 = some (.getfield 82, 9, 13, 541) := by decide +kernel
theorem gz_24_40 : mz_pg 24 40 = some (.iload_n 1, 0, 0, 0) := by decide +kernel
theorem gz_24_41 : mz_pg 24 41 = some (.iload_n 2, 0, 0, 0) := by decide +kernel
theorem gz_24_42 : mz_pg 24 42 = some (.invokevirtual 110, 1, 23, 618) := by decide +kernel
theorem gz_24_45 : mz_pg 24 45 = some (.aload_n 0, 0, 0, 0) := by decide +kernel
theorem gz_24_46 : mz_pg 24 46 = some (.getfield 10, 9, 0, 528) := by decide +kernel
theorem gz_24_49 : mz_pg 24 49 = some (.aload_n 0, 0, 0, 0) := by decide +kernel
theorem gz_24_50 : mz_pg 24 50 = some (.getfield 82, 9, 13, 541) := by decide +kernel
theorem gz_24_53 : mz_pg 24 53 = some (.invokevirtual 106, 1, 18, 599) := by decide +kernel
theorem gz_24_56 : mz_pg 24 56 = some (.ifCond .ne 5, 0, 0, 0) := by decide +kernel
theorem gz_24_59 : mz_pg 24 59 = some (.iconst 0, 0, 0, 0) := by decide +kernel
theorem gz_24_60 : mz_pg 24 60 = some (.ireturn, 0, 0, 0) := by decide +kernel
theorem gz_24_61 : mz_pg 24 61 = some (.aload_n 0, 0, 0, 0) := by decide +kernel
theorem gz_24_62 : mz_pg 24 62 = some (.getfield 19, 9, 1, 529) := by decide +kernel
theorem gz_24_65 : mz_pg 24 65 = some (.aload_n 0, 0, 0, 0) := by decide +kernel
theorem gz_24_66 : mz_pg 24 66 = some (.getfield 82, 9, 13, 541) := by decide +kernel
theorem gz_24_69 : mz_pg 24 69 = some (.invokevirtual 114, 1, 25, 626) := by decide +kernel
theorem gz_24_72 : mz_pg 24 72 = some (.iconst 1, 0, 0, 0) := by decide +kernel
theorem gz_24_73 : mz_pg 24 73 = some (.ireturn, 0, 0, 0) := by decide +kernel
theorem gz_25_0 : mz_pg 25 0 = some (.aload_n 1, 0, 0, 0) := by decide +kernel
theorem gz_25_1 : mz_pg 25 1 = some (.getfield 9, 6, 0, 176) := by decide +kernel
theorem gz_25_4 : mz_pg 25 4 = some (.iconst 0, 0, 0, 0) := by decide +kernel
theorem gz_25_5 : mz_pg 25 5 = some (.aload_n 0, 0, 0, 0) := by decide +kernel
theorem gz_25_6 : mz_pg 25 6 = some (.getfield 9, 6, 0, 176) := by decide +kernel
theorem gz_25_9 : mz_pg 25 9 = some (.iconst 0, 0, 0, 0) := by decide +kernel
theorem gz_25_10 : mz_pg 25 10 = some (.aload_n 0, 0, 0, 0) := by decide +kernel
theorem gz_25_11 : mz_pg 25 11 = some (.getfield 9, 6, 0, 176) := by decide +kernel
theorem gz_25_14 : mz_pg 25 14 = some (.arraylength, 0, 0, 0) := by decide +kernel
theorem gz_25_15 : mz_pg 25 15 = some (.invokestatic 22, 0, 0, 596) := by decide +kernel
theorem gz_25_18 : mz_pg 25 18 = some (.aload_n 1, 0, 0, 0) := by decide +kernel
theorem gz_25_19 : mz_pg 25 19 = some (.getfield 15, 6, 1, 182) := by decide +kernel
theorem gz_25_22 : mz_pg 25 22 = some (.iconst 0, 0, 0, 0) := by decide +kernel
theorem gz_25_23 : mz_pg 25 23 = some (.aload_n 0, 0, 0, 0) := by decide +kernel
theorem gz_25_24 : mz_pg 25 24 = some (.getfield 15, 6, 1, 182) := by decide +kernel
theorem gz_25_27 : mz_pg 25 27 = some (.iconst 0, 0, 0, 0) := by decide +kernel
theorem gz_25_28 : mz_pg 25 28 = some (.aload_n 0, 0, 0, 0) := by decide +kernel
theorem gz_25_29 : mz_pg 25 29 = some (.getfield 15, 6, 1, 182) := by decide +kernel
theorem gz_25_32 : mz_pg 25 32 = some (.arraylength, 0, 0, 0) := by decide +kernel
theorem gz_25_33 : mz_pg 25 33 = some (.invokestatic 22, 0, 0, 596) := by decide +kernel
theorem gz_25_36 : mz_pg 25 36 = some (.return_, 0, 0, 0) := by decide +kernel
theorem gm_24 : my_mm 24 3 (some .boolean) 2 9 := by unfold my_mm; decide +kernel
theorem gm_25 : my_mm 25 2 none 1 6 := by unfold my_mm; decide +kernel
theorem c80_ThroughWindow_out {l : Launch} {rho : Nat → Int32} {d : Nat} {h : my_H} {Q : my_H → my_V → Prop} {x1 x2 : Int} (k0 : ∀ (h' : my_H), my_fr [(30, -1), (31, -1)] h h' → Q h' (0, 0)) (k1 : ∀ (h' : my_H), my_fr [(30, -1), (31, -1)] h h' → 0 ≤ x1 → x1 ≤ 2 → 0 ≤ x2 → x2 ≤ 19 → Q h' (0, 1)) : wp l rho (d + 4) 24 0 [(2, 0), (0, x1), (0, x2)] [] h Q := by
  refine w_aload_n gz_24_0 rfl ?_
  refine w_getX (v := 1) gz_24_1 is_0 rd_9 rfl (by decide) rfl ?_
  refine w_iload_n gz_24_4 rfl ?_
  refine w_inv (k := 0) (as := [(0, x1)]) (r := []) (x := 1) (ls0 := [(2, 1), (0, x1)]) gz_24_5 gm_13 rfl is_1 rd_3 rfl rfl rfl rfl rfl ?_
  refine w_iload_n gz_13_0 rfl ?_
  refine w_iflt (t := 22) gz_13_1 rfl (fun u2 => ?_) (fun u2 => ?_)
  ·
    refine w_iconst gz_13_22 (by decide) ?_
    refine w_bret gz_13_23 gm_13 (by omega) (by omega) ?_
    show wp l rho (d + 4) 24 8 [(2, 0), (0, x1), (0, x2)] [(0, 0)] h Q
    refine w_ifeq (t := 23) gz_24_8 rfl (fun u3 => ?_) (fun u3 => by exfalso; omega)
    refine w_iconst gz_24_23 (by decide) ?_
    exact w_bret gz_24_24 gm_24 (by omega) (by omega) (k0 h (my_fr.rf))
  ·
    refine w_iload_n gz_13_4 rfl ?_
    refine w_iconst gz_13_5 (by decide) ?_
    refine w_icge (t := 22) gz_13_6 rfl (fun u4 => ?_) (fun u4 => ?_)
    ·
      refine w_iconst gz_13_22 (by decide) ?_
      refine w_bret gz_13_23 gm_13 (by omega) (by omega) ?_
      show wp l rho (d + 4) 24 8 [(2, 0), (0, x1), (0, x2)] [(0, 0)] h Q
      refine w_ifeq (t := 23) gz_24_8 rfl (fun u5 => ?_) (fun u5 => by exfalso; omega)
      refine w_iconst gz_24_23 (by decide) ?_
      exact w_bret gz_24_24 gm_24 (by omega) (by omega) (k0 h (my_fr.rf))
    ·
      refine w_aload_n gz_13_9 rfl ?_
      refine w_getX (v := 2) gz_13_10 is_1 rd_3 rfl (by decide) rfl ?_
      refine w_iload_n gz_13_13 rfl ?_
      refine w_iald gz_13_14 is_2 rd_25 (by omega) (by omega) (fun v7 ev7 pv7 qv7 => ?_)
      refine w_ifle (t := 22) gz_13_15 rfl (fun u8 => ?_) (fun u8 => ?_)
      ·
        refine w_iconst gz_13_22 (by decide) ?_
        refine w_bret gz_13_23 gm_13 (by omega) (by omega) ?_
        show wp l rho (d + 4) 24 8 [(2, 0), (0, x1), (0, x2)] [(0, 0)] h Q
        refine w_ifeq (t := 23) gz_24_8 rfl (fun u9 => ?_) (fun u9 => by exfalso; omega)
        refine w_iconst gz_24_23 (by decide) ?_
        exact w_bret gz_24_24 gm_24 (by omega) (by omega) (k0 h (my_fr.rf))
      ·
        refine w_iconst gz_13_18 (by decide) ?_
        refine w_goto (t := 23) gz_13_19 rfl ?_
        refine w_bret gz_13_23 gm_13 (by omega) (by omega) ?_
        show wp l rho (d + 4) 24 8 [(2, 0), (0, x1), (0, x2)] [(0, 1)] h Q
        refine w_ifeq (t := 23) gz_24_8 rfl (fun u10 => by exfalso; omega) (fun u10 => ?_)
        refine w_aload_n gz_24_11 rfl ?_
        refine w_getX (v := 7) gz_24_12 is_0 rd_9 rfl (by decide) rfl ?_
        refine w_iload_n gz_24_15 rfl ?_
        refine w_iload_n gz_24_16 rfl ?_
        refine w_inv (k := 0) (as := [(0, x2), (0, x1)]) (r := []) (x := 7) (ls0 := [(2, 7), (0, x1), (0, x2)]) gz_24_17 gm_15 rfl is_7 rd_6 rfl rfl rfl rfl rfl ?_
        refine w_iload_n gz_15_0 rfl ?_
        refine w_iflt (t := 31) gz_15_1 rfl (fun u12 => ?_) (fun u12 => ?_)
        ·
          refine w_iconst gz_15_31 (by decide) ?_
          refine w_bret gz_15_32 gm_15 (by omega) (by omega) ?_
          show wp l rho (d + 4) 24 20 [(2, 0), (0, x1), (0, x2)] [(0, 0)] h Q
          refine w_ifne (t := 25) gz_24_20 rfl (fun u13 => by exfalso; omega) (fun u13 => ?_)
          refine w_iconst gz_24_23 (by decide) ?_
          exact w_bret gz_24_24 gm_24 (by omega) (by omega) (k0 h (my_fr.rf))
        ·
          refine w_iload_n gz_15_4 rfl ?_
          refine w_bipush gz_15_5 (by decide) ?_
          refine w_icge (t := 31) gz_15_7 rfl (fun u14 => ?_) (fun u14 => ?_)
          ·
            refine w_iconst gz_15_31 (by decide) ?_
            refine w_bret gz_15_32 gm_15 (by omega) (by omega) ?_
            show wp l rho (d + 4) 24 20 [(2, 0), (0, x1), (0, x2)] [(0, 0)] h Q
            refine w_ifne (t := 25) gz_24_20 rfl (fun u15 => by exfalso; omega) (fun u15 => ?_)
            refine w_iconst gz_24_23 (by decide) ?_
            exact w_bret gz_24_24 gm_24 (by omega) (by omega) (k0 h (my_fr.rf))
          ·
            refine w_aload_n gz_15_10 rfl ?_
            refine w_getX (v := 8) gz_15_11 is_7 rd_6 rfl (by decide) rfl ?_
            refine w_iload_n gz_15_14 rfl ?_
            refine w_bipush gz_15_15 (by decide) ?_
            refine w_imul gz_15_17 ⟨by omega, by omega⟩ ?_
            refine w_iload_n gz_15_18 rfl ?_
            refine w_iadd gz_15_19 ⟨by omega, by omega⟩ ?_
            refine w_iconst gz_15_20 (by decide) ?_
            refine w_imul gz_15_21 ⟨by omega, by omega⟩ ?_
            refine w_iald gz_15_22 is_8 rd_30 (by omega) (by omega) (fun v17 ev17 pv17 qv17 => ?_)
            refine w_iconst gz_15_23 (by decide) ?_
            refine w_iceq (t := 31) gz_15_24 rfl (fun u18 => ?_) (fun u18 => ?_)
            ·
              refine w_iconst gz_15_31 (by decide) ?_
              refine w_bret gz_15_32 gm_15 (by omega) (by omega) ?_
              show wp l rho (d + 4) 24 20 [(2, 0), (0, x1), (0, x2)] [(0, 0)] h Q
              refine w_ifne (t := 25) gz_24_20 rfl (fun u19 => by exfalso; omega) (fun u19 => ?_)
              refine w_iconst gz_24_23 (by decide) ?_
              exact w_bret gz_24_24 gm_24 (by omega) (by omega) (k0 h (my_fr.rf))
            ·
              refine w_iconst gz_15_27 (by decide) ?_
              refine w_goto (t := 32) gz_15_28 rfl ?_
              refine w_bret gz_15_32 gm_15 (by omega) (by omega) ?_
              show wp l rho (d + 4) 24 20 [(2, 0), (0, x1), (0, x2)] [(0, 1)] h Q
              refine w_ifne (t := 25) gz_24_20 rfl (fun u20 => ?_) (fun u20 => by exfalso; omega)
              refine w_aload_n gz_24_25 rfl ?_
              refine w_getX (v := 145) gz_24_26 is_0 rd_9 rfl (by decide) rfl ?_
              refine w_aload_n gz_24_29 rfl ?_
              refine w_getX (v := 7) gz_24_30 is_0 rd_9 rfl (by decide) rfl ?_
              refine w_inv (k := 0) (as := [(2, 7)]) (r := []) (x := 145) (ls0 := [(2, 145), (2, 7)]) gz_24_33 gm_25 rfl is_145 rd_6 rfl rfl rfl rfl rfl ?_
              refine w_aload_n gz_25_0 rfl ?_
              refine w_getX (v := 8) gz_25_1 is_7 rd_6 rfl (by decide) rfl ?_
              refine w_iconst gz_25_4 (by decide) ?_
              refine w_aload_n gz_25_5 rfl ?_
              refine w_getX (v := 146) gz_25_6 is_145 rd_6 rfl (by decide) rfl ?_
              refine w_iconst gz_25_9 (by decide) ?_
              refine w_aload_n gz_25_10 rfl ?_
              refine w_getX (v := 146) gz_25_11 is_145 rd_6 rfl (by decide) rfl ?_
              refine v_alen (j := 240) gz_25_14 rfl is_146 rd_30 (by decide) ?_
              refine w_cpU gz_25_15 is_8 rd_30 is_146 rd_30 (by omega) (by omega) (by omega) (by omega) (by omega) rfl (by decide) (by decide) (fun h26 fh26 => ?_)
              have gh26 : my_fr [(30, -1), (31, -1)] h h26 := my_fr.cp my_fr.rf is_146 fh26 rfl
              refine w_aload_n gz_25_18 rfl ?_
              refine w_getX (v := 9) gz_25_19 is_7 rd_6 rfl (by decide) rfl ?_
              refine w_iconst gz_25_22 (by decide) ?_
              refine w_aload_n gz_25_23 rfl ?_
              refine w_getX (v := 147) gz_25_24 is_145 rd_6 rfl (by decide) rfl ?_
              refine w_iconst gz_25_27 (by decide) ?_
              refine w_aload_n gz_25_28 rfl ?_
              refine w_getX (v := 147) gz_25_29 is_145 rd_6 rfl (by decide) rfl ?_
              refine v_alen (j := 3) gz_25_32 rfl is_147 rd_31 (by decide) ?_
              refine w_cpU gz_25_33 is_9 rd_31 is_147 rd_31 (by omega) (by omega) (by omega) (by omega) (by omega) rfl (by decide) (by decide) (fun h30 fh30 => ?_)
              have gh30 : my_fr [(30, -1), (31, -1)] h h30 := my_fr.cp gh26 is_147 fh30 rfl
              refine w_vret gz_25_36 gm_25 ?_
              show wp l rho (d + 4) 24 36 [(2, 0), (0, x1), (0, x2)] [] h30 Q
              refine w_aload_n gz_24_36 rfl ?_
              refine w_getX (v := 145) gz_24_37 is_0 rd_9 rfl (by decide) rfl ?_
              refine w_iload_n gz_24_40 rfl ?_
              refine w_iload_n gz_24_41 rfl ?_
              refine w_inv (k := 2) (as := [(0, x2), (0, x1)]) (r := []) (x := 145) (ls0 := [(2, 145), (0, x1), (0, x2), (9, 0), (9, 0)]) gz_24_42 gm_23 rfl is_145 rd_6 rfl rfl rfl rfl rfl (c40_Rows_drop (d := (d + 2)) (x0 := 145) (x1 := x1) (x2 := x2) is_145 (by omega) (by omega) (by omega) (by omega) (fun h32 frh32 fxh32 => ?_))
              have gh32 : my_fr [(30, -1), (31, -1)] h h32 := my_fr.tr gh30 (frh32.mo rfl)
              show wp l rho (d + 4) 24 45 [(2, 0), (0, x1), (0, x2)] [] h32 Q
              refine w_aload_n gz_24_45 rfl ?_
              refine w_getX (v := 1) gz_24_46 is_0 rd_9 rfl (by decide) rfl ?_
              refine w_aload_n gz_24_49 rfl ?_
              refine w_getX (v := 145) gz_24_50 is_0 rd_9 rfl (by decide) rfl ?_
              refine w_inv (k := 0) (as := [(2, 145)]) (r := []) (x := 1) (ls0 := [(2, 1), (2, 145)]) gz_24_53 gm_18 rfl is_1 rd_3 rfl rfl rfl rfl rfl (c79_Laws_hold (d := d) (x1 := 145) is_145 ?_ ?_)
              ·
                show wp l rho (d + 4) 24 56 [(2, 0), (0, x1), (0, x2)] [(0, 0)] h32 Q
                refine w_ifne (t := 61) gz_24_56 rfl (fun u35 => by exfalso; omega) (fun u35 => ?_)
                refine w_iconst gz_24_59 (by decide) ?_
                exact w_bret gz_24_60 gm_24 (by omega) (by omega) (k0 h32 (gh32))
              ·
                show wp l rho (d + 4) 24 56 [(2, 0), (0, x1), (0, x2)] [(0, 1)] h32 Q
                refine w_ifne (t := 61) gz_24_56 rfl (fun u36 => ?_) (fun u36 => by exfalso; omega)
                refine w_aload_n gz_24_61 rfl ?_
                refine w_getX (v := 7) gz_24_62 is_0 rd_9 rfl (by decide) rfl ?_
                refine w_aload_n gz_24_65 rfl ?_
                refine w_getX (v := 145) gz_24_66 is_0 rd_9 rfl (by decide) rfl ?_
                refine w_inv (k := 0) (as := [(2, 145)]) (r := []) (x := 7) (ls0 := [(2, 7), (2, 145)]) gz_24_69 gm_25 rfl is_7 rd_6 rfl rfl rfl rfl rfl ?_
                refine w_aload_n gz_25_0 rfl ?_
                refine w_getX (v := 146) gz_25_1 is_145 rd_6 rfl (by decide) rfl ?_
                refine w_iconst gz_25_4 (by decide) ?_
                refine w_aload_n gz_25_5 rfl ?_
                refine w_getX (v := 8) gz_25_6 is_7 rd_6 rfl (by decide) rfl ?_
                refine w_iconst gz_25_9 (by decide) ?_
                refine w_aload_n gz_25_10 rfl ?_
                refine w_getX (v := 8) gz_25_11 is_7 rd_6 rfl (by decide) rfl ?_
                refine v_alen (j := 240) gz_25_14 rfl is_8 rd_30 (by decide) ?_
                refine w_cpU gz_25_15 is_146 rd_30 is_8 rd_30 (by omega) (by omega) (by omega) (by omega) (by omega) rfl (by decide) (by decide) (fun h42 fh42 => ?_)
                have gh42 : my_fr [(30, -1), (31, -1)] h h42 := my_fr.cp gh32 is_8 fh42 rfl
                refine w_aload_n gz_25_18 rfl ?_
                refine w_getX (v := 147) gz_25_19 is_145 rd_6 rfl (by decide) rfl ?_
                refine w_iconst gz_25_22 (by decide) ?_
                refine w_aload_n gz_25_23 rfl ?_
                refine w_getX (v := 9) gz_25_24 is_7 rd_6 rfl (by decide) rfl ?_
                refine w_iconst gz_25_27 (by decide) ?_
                refine w_aload_n gz_25_28 rfl ?_
                refine w_getX (v := 9) gz_25_29 is_7 rd_6 rfl (by decide) rfl ?_
                refine v_alen (j := 3) gz_25_32 rfl is_9 rd_31 (by decide) ?_
                refine w_cpU gz_25_33 is_147 rd_31 is_9 rd_31 (by omega) (by omega) (by omega) (by omega) (by omega) rfl (by decide) (by decide) (fun h46 fh46 => ?_)
                have gh46 : my_fr [(30, -1), (31, -1)] h h46 := my_fr.cp gh42 is_9 fh46 rfl
                refine w_vret gz_25_36 gm_25 ?_
                show wp l rho (d + 4) 24 72 [(2, 0), (0, x1), (0, x2)] [] h46 Q
                refine w_iconst gz_24_72 (by decide) ?_
                exact w_bret gz_24_73 gm_24 (by omega) (by omega) (k1 h46 (gh46) (by omega) (by omega) (by omega) (by omega))
theorem gz_30_0 : mz_pg 30 0 = some (.aload_n 0, 0, 0, 0) := by decide +kernel
theorem gz_30_1 : mz_pg 30 1 = some (.getfield 10, 9, 0, 528) := by decide +kernel
theorem gz_30_4 : mz_pg 30 4 = some (.iload_n 1, 0, 0, 0) := by decide +kernel
theorem gz_30_5 : mz_pg 30 5 = some (.iload_n 2, 0, 0, 0) := by decide +kernel
theorem gz_30_6 : mz_pg 30 6 = some (.invokevirtual 118, 1, 27, 634) := by decide +kernel
theorem gz_30_9 : mz_pg 30 9 = some (.ifCond .eq 12, 0, 0, 0) := by decide +kernel
theorem gz_30_12 : mz_pg 30 12 = some (.iload_n 2, 0, 0, 0) := by decide +kernel
theorem gz_30_13 : mz_pg 30 13 = some (.ifCond .eq 8, 0, 0, 0) := by decide +kernel
theorem gz_30_16 : mz_pg 30 16 = some (.iload_n 3, 0, 0, 0) := by decide +kernel
theorem gz_30_17 : mz_pg 30 17 = some (.iload_n 1, 0, 0, 0) := by decide +kernel
theorem gz_30_18 : mz_pg 30 18 = some (.if_icmp .ne 5, 0, 0, 0) := by decide +kernel
theorem gz_30_21 : mz_pg 30 21 = some (.iconst 0, 0, 0, 0) := by decide +kernel
theorem gz_30_22 : mz_pg 30 22 = some (.ireturn, 0, 0, 0) := by decide +kernel
theorem gz_30_23 : mz_pg 30 23 = some (.iload_n 3, 0, 0, 0) := by decide +kernel
theorem gz_30_24 : mz_pg 30 24 = some (.iconst (-1), 0, 0, 0) := by decide +kernel
theorem gz_30_25 : mz_pg 30 25 = some (.if_icmp .eq 16, 0, 0, 0) := by decide +kernel
theorem gz_30_28 : mz_pg 30 28 = some (.aload_n 0, 0, 0, 0) := by decide +kernel
theorem gz_30_29 : mz_pg 30 29 = some (.getfield 10, 9, 0, 528) := by decide +kernel
theorem gz_30_32 : mz_pg 30 32 = some (.iload_n 3, 0, 0, 0) := by decide +kernel
theorem gz_30_33 : mz_pg 30 33 = some (.invokevirtual 88, 1, 13, 578) := by decide +kernel
theorem gz_30_36 : mz_pg 30 36 = some (.ifCond .ne 5, 0, 0, 0) := by decide +kernel
theorem gz_30_39 : mz_pg 30 39 = some (.iconst 0, 0, 0, 0) := by decide +kernel
theorem gz_30_40 : mz_pg 30 40 = some (.ireturn, 0, 0, 0) := by decide +kernel
theorem gz_30_41 : mz_pg 30 41 = some (.iload_n 1, 0, 0, 0) := by decide +kernel
theorem gz_30_42 : mz_pg 30 42 = some (.iload_n 2, 0, 0, 0) := by decide +kernel
theorem gz_30_43 : mz_pg 30 43 = some (.invokestatic 129, 1, 29, 643) := by decide +kernel
theorem gz_30_46 : mz_pg 30 46 = some (.istore 4, 0, 0, 0) := by decide +kernel
theorem gz_30_48 : mz_pg 30 48 = some (.aload_n 0, 0, 0, 0) := by decide +kernel
theorem gz_30_49 : mz_pg 30 49 = some (.getfield 10, 9, 0, 528) := by decide +kernel
theorem gz_30_52 : mz_pg 30 52 = some (.getfield 136, 3, 3, 154) := by decide +kernel
theorem gz_30_55 : mz_pg 30 55 = some (.iload 4, 0, 0, 0) := by decide +kernel
theorem gz_30_57 : mz_pg 30 57 = some (.iaload, 0, 0, 0) := by decide +kernel
theorem gz_30_58 : mz_pg 30 58 = some (.istore 5, 0, 0, 0) := by decide +kernel
theorem gz_30_60 : mz_pg 30 60 = some (.aload_n 0, 0, 0, 0) := by decide +kernel
theorem gz_30_61 : mz_pg 30 61 = some (.getfield 10, 9, 0, 528) := by decide +kernel
theorem gz_30_64 : mz_pg 30 64 = some (.getfield 136, 3, 3, 154) := by decide +kernel
theorem gz_30_67 : mz_pg 30 67 = some (.iload 4, 0, 0, 0) := by decide +kernel
theorem gz_30_69 : mz_pg 30 69 = some (.iload_n 3, 0, 0, 0) := by decide +kernel
theorem gz_30_70 : mz_pg 30 70 = some (.iastore, 0, 0, 0) := by decide +kernel
theorem gz_30_71 : mz_pg 30 71 = some (.aload_n 0, 0, 0, 0) := by decide +kernel
theorem gz_30_72 : mz_pg 30 72 = some (.getfield 10, 9, 0, 528) := by decide +kernel
theorem gz_30_75 : mz_pg 30 75 = some (.aload_n 0, 0, 0, 0) := by decide +kernel
theorem gz_30_76 : mz_pg 30 76 = some (.getfield 19, 9, 1, 529) := by decide +kernel
theorem gz_30_79 : mz_pg 30 79 = some (.invokevirtual 106, 1, 18, 599) := by decide +kernel
theorem gz_30_82 : mz_pg 30 82 = some (.ifCond .eq 5, 0, 0, 0) := by decide +kernel
theorem gz_30_85 : mz_pg 30 85 = some (.iconst 1, 0, 0, 0) := by decide +kernel
theorem gz_30_86 : mz_pg 30 86 = some (.ireturn, 0, 0, 0) := by decide +kernel
theorem gz_30_87 : mz_pg 30 87 = some (.aload_n 0, 0, 0, 0) := by decide +kernel
theorem gz_30_88 : mz_pg 30 88 = some (.getfield 10, 9, 0, 528) := by decide +kernel
theorem gz_30_91 : mz_pg 30 91 = some (.getfield 136, 3, 3, 154) := by decide +kernel
theorem gz_30_94 : mz_pg 30 94 = some (.iload 4, 0, 0, 0) := by decide +kernel
theorem gz_30_96 : mz_pg 30 96 = some (.iload 5, 0, 0, 0) := by decide +kernel
theorem gz_30_98 : mz_pg 30 98 = some (.iastore, 0, 0, 0) := by decide +kernel
theorem gz_30_99 : mz_pg 30 99 = some (.iconst 0, 0, 0, 0) := by decide +kernel
theorem gz_30_100 : mz_pg 30 100 = some (.ireturn, 0, 0, 0) := by decide +kernel
theorem gm_30 : my_mm 30 6 (some .boolean) 3 9 := by unfold my_mm; decide +kernel
theorem c81_ThroughWindow_names {l : Launch} {rho : Nat → Int32} {d : Nat} {h : my_H} {Q : my_H → my_V → Prop} {x1 x2 x3 : Int} (k0 : ∀ (h' : my_H), my_fr [(28, -1)] h h' → Q h' (0, 0)) (k1 : ∀ (h' : my_H), my_fr [(28, -1)] h h' → 0 ≤ x1 → x1 ≤ 2 → 1 ≤ x2 → x2 ≤ 3 → (-1) ≤ x3 → x3 ≤ 2 → Q h' (0, 1)) : wp l rho (d + 4) 30 0 [(2, 0), (0, x1), (0, x2), (0, x3), (9, 0), (9, 0)] [] h Q := by
  have J41_0 : ∀ (h41_0 : my_H), my_fr [(28, -1)] h h41_0 → 0 ≤ x1 → x1 ≤ 2 → 1 ≤ x2 → x2 ≤ 3 → (-1) ≤ x3 → x3 ≤ 2 → wp l rho (d + 4) 30 41 [(2, 0), (0, x1), (0, x2), (0, x3), (9, 0), (9, 0)] [] h41_0 Q := by
    intro h41_0 gh_41_0 q0_41_0 q1_41_0 q2_41_0 q3_41_0 q4_41_0 q5_41_0
    refine w_iload_n gz_30_41 rfl ?_
    refine w_iload_n gz_30_42 rfl ?_
    refine w_inS (k := 0) (as := [(0, x2), (0, x1)]) (r := []) (ls0 := [(0, x1), (0, x2)]) gz_30_43 gm_29 rfl rfl rfl rfl rfl rfl ?_
    refine w_iload_n gz_29_0 rfl ?_
    refine w_iconst gz_29_1 (by decide) ?_
    refine w_imul gz_29_2 ⟨by omega, by omega⟩ ?_
    refine w_iload_n gz_29_3 rfl ?_
    refine w_iadd gz_29_4 ⟨by omega, by omega⟩ ?_
    refine w_iret gz_29_5 gm_29 ?_
    show wp l rho (d + 4) 30 46 [(2, 0), (0, x1), (0, x2), (0, x3), (9, 0), (9, 0)] [(0, ((x1 * 4) + x2))] h41_0 Q
    refine w_istore (ls' := [(2, 0), (0, x1), (0, x2), (0, x3), (0, ((x1 * 4) + x2)), (9, 0)]) gz_30_46 gm_30 rfl rfl rfl ?_
    refine w_aload_n gz_30_48 rfl ?_
    refine w_getX (v := 1) gz_30_49 is_0 rd_9 rfl (by decide) rfl ?_
    refine w_getX (v := 5) gz_30_52 is_1 rd_3 rfl (by decide) rfl ?_
    refine w_iload gz_30_55 rfl ?_
    refine w_iald gz_30_57 is_5 rd_28 (by omega) (by omega) (fun v3 ev3 pv3 qv3 => ?_)
    refine w_istore (ls' := [(2, 0), (0, x1), (0, x2), (0, x3), (0, ((x1 * 4) + x2)), (0, v3)]) gz_30_58 gm_30 rfl rfl rfl ?_
    refine w_aload_n gz_30_60 rfl ?_
    refine w_getX (v := 1) gz_30_61 is_0 rd_9 rfl (by decide) rfl ?_
    refine w_getX (v := 5) gz_30_64 is_1 rd_3 rfl (by decide) rfl ?_
    refine w_iload gz_30_67 rfl ?_
    refine w_iload_n gz_30_69 rfl ?_
    refine w_iast gz_30_70 is_5 rd_28 (by omega) (by omega) (by omega) (by omega) (fun h6 fh6 => ?_)
    have gh6 : my_fr [(28, -1)] h h6 := my_fr.up gh_41_0 is_5 fh6 rfl
    refine w_aload_n gz_30_71 rfl ?_
    refine w_getX (v := 1) gz_30_72 is_0 rd_9 rfl (by decide) rfl ?_
    refine w_aload_n gz_30_75 rfl ?_
    refine w_getX (v := 7) gz_30_76 is_0 rd_9 rfl (by decide) rfl ?_
    refine w_inv (k := 0) (as := [(2, 7)]) (r := []) (x := 1) (ls0 := [(2, 1), (2, 7)]) gz_30_79 gm_18 rfl is_1 rd_3 rfl rfl rfl rfl rfl (c79_Laws_hold (d := d) (x1 := 7) is_7 ?_ ?_)
    ·
      show wp l rho (d + 4) 30 82 [(2, 0), (0, x1), (0, x2), (0, x3), (0, ((x1 * 4) + x2)), (0, v3)] [(0, 0)] h6 Q
      refine w_ifeq (t := 87) gz_30_82 rfl (fun u9 => ?_) (fun u9 => by exfalso; omega)
      refine w_aload_n gz_30_87 rfl ?_
      refine w_getX (v := 1) gz_30_88 is_0 rd_9 rfl (by decide) rfl ?_
      refine w_getX (v := 5) gz_30_91 is_1 rd_3 rfl (by decide) rfl ?_
      refine w_iload gz_30_94 rfl ?_
      refine w_iload gz_30_96 rfl ?_
      refine w_iast gz_30_98 is_5 rd_28 (by omega) (by omega) (by omega) (by omega) (fun h12 fh12 => ?_)
      have gh12 : my_fr [(28, -1)] h h12 := my_fr.up gh6 is_5 fh12 rfl
      refine w_iconst gz_30_99 (by decide) ?_
      exact w_bret gz_30_100 gm_30 (by omega) (by omega) (k0 h12 (gh12))
    ·
      show wp l rho (d + 4) 30 82 [(2, 0), (0, x1), (0, x2), (0, x3), (0, ((x1 * 4) + x2)), (0, v3)] [(0, 1)] h6 Q
      refine w_ifeq (t := 87) gz_30_82 rfl (fun u13 => by exfalso; omega) (fun u13 => ?_)
      refine w_iconst gz_30_85 (by decide) ?_
      exact w_bret gz_30_86 gm_30 (by omega) (by omega) (k1 h6 (gh6) (by omega) (by omega) (by omega) (by omega) (by omega) (by omega))
  refine w_aload_n gz_30_0 rfl ?_
  refine w_getX (v := 1) gz_30_1 is_0 rd_9 rfl (by decide) rfl ?_
  refine w_iload_n gz_30_4 rfl ?_
  refine w_iload_n gz_30_5 rfl ?_
  refine w_inv (k := 0) (as := [(0, x2), (0, x1)]) (r := []) (x := 1) (ls0 := [(2, 1), (0, x1), (0, x2)]) gz_30_6 gm_27 rfl is_1 rd_3 rfl rfl rfl rfl rfl ?_
  refine w_aload_n gz_27_0 rfl ?_
  refine w_iload_n gz_27_1 rfl ?_
  refine w_inv (k := 0) (as := [(0, x1)]) (r := []) (x := 1) (ls0 := [(2, 1), (0, x1)]) gz_27_2 gm_13 rfl is_1 rd_3 rfl rfl rfl rfl rfl ?_
  refine w_iload_n gz_13_0 rfl ?_
  refine w_iflt (t := 22) gz_13_1 rfl (fun u15 => ?_) (fun u15 => ?_)
  ·
    refine w_iconst gz_13_22 (by decide) ?_
    refine w_bret gz_13_23 gm_13 (by omega) (by omega) ?_
    show wp l rho (d + 3) 27 5 [(2, 1), (0, x1), (0, x2)] [(0, 0)] h _
    refine w_ifeq (t := 26) gz_27_5 rfl (fun u16 => ?_) (fun u16 => by exfalso; omega)
    refine w_iconst gz_27_26 (by decide) ?_
    refine w_bret gz_27_27 gm_27 (by omega) (by omega) ?_
    show wp l rho (d + 4) 30 9 [(2, 0), (0, x1), (0, x2), (0, x3), (9, 0), (9, 0)] [(0, 0)] h Q
    refine w_ifeq (t := 21) gz_30_9 rfl (fun u17 => ?_) (fun u17 => by exfalso; omega)
    refine w_iconst gz_30_21 (by decide) ?_
    exact w_bret gz_30_22 gm_30 (by omega) (by omega) (k0 h (my_fr.rf))
  ·
    refine w_iload_n gz_13_4 rfl ?_
    refine w_iconst gz_13_5 (by decide) ?_
    refine w_icge (t := 22) gz_13_6 rfl (fun u18 => ?_) (fun u18 => ?_)
    ·
      refine w_iconst gz_13_22 (by decide) ?_
      refine w_bret gz_13_23 gm_13 (by omega) (by omega) ?_
      show wp l rho (d + 3) 27 5 [(2, 1), (0, x1), (0, x2)] [(0, 0)] h _
      refine w_ifeq (t := 26) gz_27_5 rfl (fun u19 => ?_) (fun u19 => by exfalso; omega)
      refine w_iconst gz_27_26 (by decide) ?_
      refine w_bret gz_27_27 gm_27 (by omega) (by omega) ?_
      show wp l rho (d + 4) 30 9 [(2, 0), (0, x1), (0, x2), (0, x3), (9, 0), (9, 0)] [(0, 0)] h Q
      refine w_ifeq (t := 21) gz_30_9 rfl (fun u20 => ?_) (fun u20 => by exfalso; omega)
      refine w_iconst gz_30_21 (by decide) ?_
      exact w_bret gz_30_22 gm_30 (by omega) (by omega) (k0 h (my_fr.rf))
    ·
      refine w_aload_n gz_13_9 rfl ?_
      refine w_getX (v := 2) gz_13_10 is_1 rd_3 rfl (by decide) rfl ?_
      refine w_iload_n gz_13_13 rfl ?_
      refine w_iald gz_13_14 is_2 rd_25 (by omega) (by omega) (fun v22 ev22 pv22 qv22 => ?_)
      refine w_ifle (t := 22) gz_13_15 rfl (fun u23 => ?_) (fun u23 => ?_)
      ·
        refine w_iconst gz_13_22 (by decide) ?_
        refine w_bret gz_13_23 gm_13 (by omega) (by omega) ?_
        show wp l rho (d + 3) 27 5 [(2, 1), (0, x1), (0, x2)] [(0, 0)] h _
        refine w_ifeq (t := 26) gz_27_5 rfl (fun u24 => ?_) (fun u24 => by exfalso; omega)
        refine w_iconst gz_27_26 (by decide) ?_
        refine w_bret gz_27_27 gm_27 (by omega) (by omega) ?_
        show wp l rho (d + 4) 30 9 [(2, 0), (0, x1), (0, x2), (0, x3), (9, 0), (9, 0)] [(0, 0)] h Q
        refine w_ifeq (t := 21) gz_30_9 rfl (fun u25 => ?_) (fun u25 => by exfalso; omega)
        refine w_iconst gz_30_21 (by decide) ?_
        exact w_bret gz_30_22 gm_30 (by omega) (by omega) (k0 h (my_fr.rf))
      ·
        refine w_iconst gz_13_18 (by decide) ?_
        refine w_goto (t := 23) gz_13_19 rfl ?_
        refine w_bret gz_13_23 gm_13 (by omega) (by omega) ?_
        show wp l rho (d + 3) 27 5 [(2, 1), (0, x1), (0, x2)] [(0, 1)] h _
        refine w_ifeq (t := 26) gz_27_5 rfl (fun u26 => by exfalso; omega) (fun u26 => ?_)
        refine w_iload_n gz_27_8 rfl ?_
        refine w_iflt (t := 26) gz_27_9 rfl (fun u27 => ?_) (fun u27 => ?_)
        ·
          refine w_iconst gz_27_26 (by decide) ?_
          refine w_bret gz_27_27 gm_27 (by omega) (by omega) ?_
          show wp l rho (d + 4) 30 9 [(2, 0), (0, x1), (0, x2), (0, x3), (9, 0), (9, 0)] [(0, 0)] h Q
          refine w_ifeq (t := 21) gz_30_9 rfl (fun u28 => ?_) (fun u28 => by exfalso; omega)
          refine w_iconst gz_30_21 (by decide) ?_
          exact w_bret gz_30_22 gm_30 (by omega) (by omega) (k0 h (my_fr.rf))
        ·
          refine w_iload_n gz_27_12 rfl ?_
          refine w_aload_n gz_27_13 rfl ?_
          refine w_getX (v := 2) gz_27_14 is_1 rd_3 rfl (by decide) rfl ?_
          refine w_iload_n gz_27_17 rfl ?_
          refine w_iald gz_27_18 is_2 rd_25 (by omega) (by omega) (fun v30 ev30 pv30 qv30 => ?_)
          have zv30 := ev30.trans ev22.symm
          refine w_icge (t := 26) gz_27_19 rfl (fun u31 => ?_) (fun u31 => ?_)
          ·
            refine w_iconst gz_27_26 (by decide) ?_
            refine w_bret gz_27_27 gm_27 (by omega) (by omega) ?_
            show wp l rho (d + 4) 30 9 [(2, 0), (0, x1), (0, x2), (0, x3), (9, 0), (9, 0)] [(0, 0)] h Q
            refine w_ifeq (t := 21) gz_30_9 rfl (fun u32 => ?_) (fun u32 => by exfalso; omega)
            refine w_iconst gz_30_21 (by decide) ?_
            exact w_bret gz_30_22 gm_30 (by omega) (by omega) (k0 h (my_fr.rf))
          ·
            refine w_iconst gz_27_22 (by decide) ?_
            refine w_goto (t := 27) gz_27_23 rfl ?_
            refine w_bret gz_27_27 gm_27 (by omega) (by omega) ?_
            show wp l rho (d + 4) 30 9 [(2, 0), (0, x1), (0, x2), (0, x3), (9, 0), (9, 0)] [(0, 1)] h Q
            refine w_ifeq (t := 21) gz_30_9 rfl (fun u33 => by exfalso; omega) (fun u33 => ?_)
            refine w_iload_n gz_30_12 rfl ?_
            refine w_ifeq (t := 21) gz_30_13 rfl (fun u34 => ?_) (fun u34 => ?_)
            ·
              refine w_iconst gz_30_21 (by decide) ?_
              exact w_bret gz_30_22 gm_30 (by omega) (by omega) (k0 h (my_fr.rf))
            ·
              refine w_iload_n gz_30_16 rfl ?_
              refine w_iload_n gz_30_17 rfl ?_
              refine w_icne (t := 23) gz_30_18 rfl (fun u35 => ?_) (fun u35 => ?_)
              ·
                refine w_iload_n gz_30_23 rfl ?_
                refine w_iconst gz_30_24 (by decide) ?_
                refine w_iceq (t := 41) gz_30_25 rfl (fun u36 => ?_) (fun u36 => ?_)
                ·
                  exact J41_0 h (my_fr.rf) (by omega) (by omega) (by omega) (by omega) (by omega) (by omega)
                ·
                  refine w_aload_n gz_30_28 rfl ?_
                  refine w_getX (v := 1) gz_30_29 is_0 rd_9 rfl (by decide) rfl ?_
                  refine w_iload_n gz_30_32 rfl ?_
                  refine w_inv (k := 0) (as := [(0, x3)]) (r := []) (x := 1) (ls0 := [(2, 1), (0, x3)]) gz_30_33 gm_13 rfl is_1 rd_3 rfl rfl rfl rfl rfl ?_
                  refine w_iload_n gz_13_0 rfl ?_
                  refine w_iflt (t := 22) gz_13_1 rfl (fun u38 => ?_) (fun u38 => ?_)
                  ·
                    refine w_iconst gz_13_22 (by decide) ?_
                    refine w_bret gz_13_23 gm_13 (by omega) (by omega) ?_
                    show wp l rho (d + 4) 30 36 [(2, 0), (0, x1), (0, x2), (0, x3), (9, 0), (9, 0)] [(0, 0)] h Q
                    refine w_ifne (t := 41) gz_30_36 rfl (fun u39 => by exfalso; omega) (fun u39 => ?_)
                    refine w_iconst gz_30_39 (by decide) ?_
                    exact w_bret gz_30_40 gm_30 (by omega) (by omega) (k0 h (my_fr.rf))
                  ·
                    refine w_iload_n gz_13_4 rfl ?_
                    refine w_iconst gz_13_5 (by decide) ?_
                    refine w_icge (t := 22) gz_13_6 rfl (fun u40 => ?_) (fun u40 => ?_)
                    ·
                      refine w_iconst gz_13_22 (by decide) ?_
                      refine w_bret gz_13_23 gm_13 (by omega) (by omega) ?_
                      show wp l rho (d + 4) 30 36 [(2, 0), (0, x1), (0, x2), (0, x3), (9, 0), (9, 0)] [(0, 0)] h Q
                      refine w_ifne (t := 41) gz_30_36 rfl (fun u41 => by exfalso; omega) (fun u41 => ?_)
                      refine w_iconst gz_30_39 (by decide) ?_
                      exact w_bret gz_30_40 gm_30 (by omega) (by omega) (k0 h (my_fr.rf))
                    ·
                      refine w_aload_n gz_13_9 rfl ?_
                      refine w_getX (v := 2) gz_13_10 is_1 rd_3 rfl (by decide) rfl ?_
                      refine w_iload_n gz_13_13 rfl ?_
                      refine w_iald gz_13_14 is_2 rd_25 (by omega) (by omega) (fun v43 ev43 pv43 qv43 => ?_)
                      refine w_ifle (t := 22) gz_13_15 rfl (fun u44 => ?_) (fun u44 => ?_)
                      ·
                        refine w_iconst gz_13_22 (by decide) ?_
                        refine w_bret gz_13_23 gm_13 (by omega) (by omega) ?_
                        show wp l rho (d + 4) 30 36 [(2, 0), (0, x1), (0, x2), (0, x3), (9, 0), (9, 0)] [(0, 0)] h Q
                        refine w_ifne (t := 41) gz_30_36 rfl (fun u45 => by exfalso; omega) (fun u45 => ?_)
                        refine w_iconst gz_30_39 (by decide) ?_
                        exact w_bret gz_30_40 gm_30 (by omega) (by omega) (k0 h (my_fr.rf))
                      ·
                        refine w_iconst gz_13_18 (by decide) ?_
                        refine w_goto (t := 23) gz_13_19 rfl ?_
                        refine w_bret gz_13_23 gm_13 (by omega) (by omega) ?_
                        show wp l rho (d + 4) 30 36 [(2, 0), (0, x1), (0, x2), (0, x3), (9, 0), (9, 0)] [(0, 1)] h Q
                        refine w_ifne (t := 41) gz_30_36 rfl (fun u46 => ?_) (fun u46 => by exfalso; omega)
                        exact J41_0 h (my_fr.rf) (by omega) (by omega) (by omega) (by omega) (by omega) (by omega)
              ·
                refine w_iconst gz_30_21 (by decide) ?_
                exact w_bret gz_30_22 gm_30 (by omega) (by omega) (k0 h (my_fr.rf))
theorem gz_31_0 : mz_pg 31 0 = some (.aload_n 0, 0, 0, 0) := by decide +kernel
theorem gz_31_1 : mz_pg 31 1 = some (.getfield 10, 9, 0, 528) := by decide +kernel
theorem gz_31_4 : mz_pg 31 4 = some (.iload_n 1, 0, 0, 0) := by decide +kernel
theorem gz_31_5 : mz_pg 31 5 = some (.iload_n 2, 0, 0, 0) := by decide +kernel
theorem gz_31_6 : mz_pg 31 6 = some (.invokevirtual 118, 1, 27, 634) := by decide +kernel
theorem gz_31_9 : mz_pg 31 9 = some (.ifCond .eq 7, 0, 0, 0) := by decide +kernel
theorem gz_31_12 : mz_pg 31 12 = some (.iload_n 2, 0, 0, 0) := by decide +kernel
theorem gz_31_13 : mz_pg 31 13 = some (.ifCond .ne 5, 0, 0, 0) := by decide +kernel
theorem gz_31_16 : mz_pg 31 16 = some (.iconst 0, 0, 0, 0) := by decide +kernel
theorem gz_31_17 : mz_pg 31 17 = some (.ireturn, 0, 0, 0) := by decide +kernel
theorem gz_31_18 : mz_pg 31 18 = some (.iload_n 1, 0, 0, 0) := by decide +kernel
theorem gz_31_19 : mz_pg 31 19 = some (.iload_n 2, 0, 0, 0) := by decide +kernel
theorem gz_31_20 : mz_pg 31 20 = some (.invokestatic 129, 1, 29, 643) := by decide +kernel
theorem gz_31_23 : mz_pg 31 23 = some (.istore 4, 0, 0, 0) := by decide +kernel
theorem gz_31_25 : mz_pg 31 25 = some (.aload_n 0, 0, 0, 0) := by decide +kernel
theorem gz_31_26 : mz_pg 31 26 = some (.getfield 10, 9, 0, 528) := by decide +kernel
theorem gz_31_29 : mz_pg 31 29 = some (.getfield 139, 3, 4, 156) := by decide +kernel
theorem gz_31_32 : mz_pg 31 32 = some (.iload 4, 0, 0, 0) := by decide +kernel
theorem gz_31_34 : mz_pg 31 34 = some (.baload, 0, 0, 0) := by decide +kernel
theorem gz_31_35 : mz_pg 31 35 = some (.istore 5, 0, 0, 0) := by decide +kernel
theorem gz_31_37 : mz_pg 31 37 = some (.aload_n 0, 0, 0, 0) := by decide +kernel
theorem gz_31_38 : mz_pg 31 38 = some (.getfield 10, 9, 0, 528) := by decide +kernel
theorem gz_31_41 : mz_pg 31 41 = some (.getfield 139, 3, 4, 156) := by decide +kernel
theorem gz_31_44 : mz_pg 31 44 = some (.iload 4, 0, 0, 0) := by decide +kernel
theorem gz_31_46 : mz_pg 31 46 = some (.iload_n 3, 0, 0, 0) := by decide +kernel
theorem gz_31_47 : mz_pg 31 47 = some (.bastore, 0, 0, 0) := by decide +kernel
theorem gz_31_48 : mz_pg 31 48 = some (.aload_n 0, 0, 0, 0) := by decide +kernel
theorem gz_31_49 : mz_pg 31 49 = some (.getfield 10, 9, 0, 528) := by decide +kernel
theorem gz_31_52 : mz_pg 31 52 = some (.aload_n 0, 0, 0, 0) := by decide +kernel
theorem gz_31_53 : mz_pg 31 53 = some (.getfield 19, 9, 1, 529) := by decide +kernel
theorem gz_31_56 : mz_pg 31 56 = some (.invokevirtual 106, 1, 18, 599) := by decide +kernel
theorem gz_31_59 : mz_pg 31 59 = some (.ifCond .eq 5, 0, 0, 0) := by decide +kernel
theorem gz_31_62 : mz_pg 31 62 = some (.iconst 1, 0, 0, 0) := by decide +kernel
theorem gz_31_63 : mz_pg 31 63 = some (.ireturn, 0, 0, 0) := by decide +kernel
theorem gz_31_64 : mz_pg 31 64 = some (.aload_n 0, 0, 0, 0) := by decide +kernel
theorem gz_31_65 : mz_pg 31 65 = some (.getfield 10, 9, 0, 528) := by decide +kernel
theorem gz_31_68 : mz_pg 31 68 = some (.getfield 139, 3, 4, 156) := by decide +kernel
theorem gz_31_71 : mz_pg 31 71 = some (.iload 4, 0, 0, 0) := by decide +kernel
theorem gz_31_73 : mz_pg 31 73 = some (.iload 5, 0, 0, 0) := by decide +kernel
theorem gz_31_75 : mz_pg 31 75 = some (.bastore, 0, 0, 0) := by decide +kernel
theorem gz_31_76 : mz_pg 31 76 = some (.iconst 0, 0, 0, 0) := by decide +kernel
theorem gz_31_77 : mz_pg 31 77 = some (.ireturn, 0, 0, 0) := by decide +kernel
theorem gm_31 : my_mm 31 6 (some .boolean) 3 9 := by unfold my_mm; decide +kernel
theorem c82_ThroughWindow_once {l : Launch} {rho : Nat → Int32} {d : Nat} {h : my_H} {Q : my_H → my_V → Prop} {x1 x2 x3 : Int} (a3 : 0 ≤ x3) (b3 : x3 ≤ 1) (k0 : ∀ (h' : my_H), my_fr [(29, -1)] h h' → Q h' (0, 0)) (k1 : ∀ (h' : my_H), my_fr [(29, -1)] h h' → 0 ≤ x1 → x1 ≤ 2 → 1 ≤ x2 → x2 ≤ 3 → Q h' (0, 1)) : wp l rho (d + 4) 31 0 [(2, 0), (0, x1), (0, x2), (0, x3), (9, 0), (9, 0)] [] h Q := by
  refine w_aload_n gz_31_0 rfl ?_
  refine w_getX (v := 1) gz_31_1 is_0 rd_9 rfl (by decide) rfl ?_
  refine w_iload_n gz_31_4 rfl ?_
  refine w_iload_n gz_31_5 rfl ?_
  refine w_inv (k := 0) (as := [(0, x2), (0, x1)]) (r := []) (x := 1) (ls0 := [(2, 1), (0, x1), (0, x2)]) gz_31_6 gm_27 rfl is_1 rd_3 rfl rfl rfl rfl rfl ?_
  refine w_aload_n gz_27_0 rfl ?_
  refine w_iload_n gz_27_1 rfl ?_
  refine w_inv (k := 0) (as := [(0, x1)]) (r := []) (x := 1) (ls0 := [(2, 1), (0, x1)]) gz_27_2 gm_13 rfl is_1 rd_3 rfl rfl rfl rfl rfl ?_
  refine w_iload_n gz_13_0 rfl ?_
  refine w_iflt (t := 22) gz_13_1 rfl (fun u2 => ?_) (fun u2 => ?_)
  ·
    refine w_iconst gz_13_22 (by decide) ?_
    refine w_bret gz_13_23 gm_13 (by omega) (by omega) ?_
    show wp l rho (d + 3) 27 5 [(2, 1), (0, x1), (0, x2)] [(0, 0)] h _
    refine w_ifeq (t := 26) gz_27_5 rfl (fun u3 => ?_) (fun u3 => by exfalso; omega)
    refine w_iconst gz_27_26 (by decide) ?_
    refine w_bret gz_27_27 gm_27 (by omega) (by omega) ?_
    show wp l rho (d + 4) 31 9 [(2, 0), (0, x1), (0, x2), (0, x3), (9, 0), (9, 0)] [(0, 0)] h Q
    refine w_ifeq (t := 16) gz_31_9 rfl (fun u4 => ?_) (fun u4 => by exfalso; omega)
    refine w_iconst gz_31_16 (by decide) ?_
    exact w_bret gz_31_17 gm_31 (by omega) (by omega) (k0 h (my_fr.rf))
  ·
    refine w_iload_n gz_13_4 rfl ?_
    refine w_iconst gz_13_5 (by decide) ?_
    refine w_icge (t := 22) gz_13_6 rfl (fun u5 => ?_) (fun u5 => ?_)
    ·
      refine w_iconst gz_13_22 (by decide) ?_
      refine w_bret gz_13_23 gm_13 (by omega) (by omega) ?_
      show wp l rho (d + 3) 27 5 [(2, 1), (0, x1), (0, x2)] [(0, 0)] h _
      refine w_ifeq (t := 26) gz_27_5 rfl (fun u6 => ?_) (fun u6 => by exfalso; omega)
      refine w_iconst gz_27_26 (by decide) ?_
      refine w_bret gz_27_27 gm_27 (by omega) (by omega) ?_
      show wp l rho (d + 4) 31 9 [(2, 0), (0, x1), (0, x2), (0, x3), (9, 0), (9, 0)] [(0, 0)] h Q
      refine w_ifeq (t := 16) gz_31_9 rfl (fun u7 => ?_) (fun u7 => by exfalso; omega)
      refine w_iconst gz_31_16 (by decide) ?_
      exact w_bret gz_31_17 gm_31 (by omega) (by omega) (k0 h (my_fr.rf))
    ·
      refine w_aload_n gz_13_9 rfl ?_
      refine w_getX (v := 2) gz_13_10 is_1 rd_3 rfl (by decide) rfl ?_
      refine w_iload_n gz_13_13 rfl ?_
      refine w_iald gz_13_14 is_2 rd_25 (by omega) (by omega) (fun v9 ev9 pv9 qv9 => ?_)
      refine w_ifle (t := 22) gz_13_15 rfl (fun u10 => ?_) (fun u10 => ?_)
      ·
        refine w_iconst gz_13_22 (by decide) ?_
        refine w_bret gz_13_23 gm_13 (by omega) (by omega) ?_
        show wp l rho (d + 3) 27 5 [(2, 1), (0, x1), (0, x2)] [(0, 0)] h _
        refine w_ifeq (t := 26) gz_27_5 rfl (fun u11 => ?_) (fun u11 => by exfalso; omega)
        refine w_iconst gz_27_26 (by decide) ?_
        refine w_bret gz_27_27 gm_27 (by omega) (by omega) ?_
        show wp l rho (d + 4) 31 9 [(2, 0), (0, x1), (0, x2), (0, x3), (9, 0), (9, 0)] [(0, 0)] h Q
        refine w_ifeq (t := 16) gz_31_9 rfl (fun u12 => ?_) (fun u12 => by exfalso; omega)
        refine w_iconst gz_31_16 (by decide) ?_
        exact w_bret gz_31_17 gm_31 (by omega) (by omega) (k0 h (my_fr.rf))
      ·
        refine w_iconst gz_13_18 (by decide) ?_
        refine w_goto (t := 23) gz_13_19 rfl ?_
        refine w_bret gz_13_23 gm_13 (by omega) (by omega) ?_
        show wp l rho (d + 3) 27 5 [(2, 1), (0, x1), (0, x2)] [(0, 1)] h _
        refine w_ifeq (t := 26) gz_27_5 rfl (fun u13 => by exfalso; omega) (fun u13 => ?_)
        refine w_iload_n gz_27_8 rfl ?_
        refine w_iflt (t := 26) gz_27_9 rfl (fun u14 => ?_) (fun u14 => ?_)
        ·
          refine w_iconst gz_27_26 (by decide) ?_
          refine w_bret gz_27_27 gm_27 (by omega) (by omega) ?_
          show wp l rho (d + 4) 31 9 [(2, 0), (0, x1), (0, x2), (0, x3), (9, 0), (9, 0)] [(0, 0)] h Q
          refine w_ifeq (t := 16) gz_31_9 rfl (fun u15 => ?_) (fun u15 => by exfalso; omega)
          refine w_iconst gz_31_16 (by decide) ?_
          exact w_bret gz_31_17 gm_31 (by omega) (by omega) (k0 h (my_fr.rf))
        ·
          refine w_iload_n gz_27_12 rfl ?_
          refine w_aload_n gz_27_13 rfl ?_
          refine w_getX (v := 2) gz_27_14 is_1 rd_3 rfl (by decide) rfl ?_
          refine w_iload_n gz_27_17 rfl ?_
          refine w_iald gz_27_18 is_2 rd_25 (by omega) (by omega) (fun v17 ev17 pv17 qv17 => ?_)
          have zv17 := ev17.trans ev9.symm
          refine w_icge (t := 26) gz_27_19 rfl (fun u18 => ?_) (fun u18 => ?_)
          ·
            refine w_iconst gz_27_26 (by decide) ?_
            refine w_bret gz_27_27 gm_27 (by omega) (by omega) ?_
            show wp l rho (d + 4) 31 9 [(2, 0), (0, x1), (0, x2), (0, x3), (9, 0), (9, 0)] [(0, 0)] h Q
            refine w_ifeq (t := 16) gz_31_9 rfl (fun u19 => ?_) (fun u19 => by exfalso; omega)
            refine w_iconst gz_31_16 (by decide) ?_
            exact w_bret gz_31_17 gm_31 (by omega) (by omega) (k0 h (my_fr.rf))
          ·
            refine w_iconst gz_27_22 (by decide) ?_
            refine w_goto (t := 27) gz_27_23 rfl ?_
            refine w_bret gz_27_27 gm_27 (by omega) (by omega) ?_
            show wp l rho (d + 4) 31 9 [(2, 0), (0, x1), (0, x2), (0, x3), (9, 0), (9, 0)] [(0, 1)] h Q
            refine w_ifeq (t := 16) gz_31_9 rfl (fun u20 => by exfalso; omega) (fun u20 => ?_)
            refine w_iload_n gz_31_12 rfl ?_
            refine w_ifne (t := 18) gz_31_13 rfl (fun u21 => ?_) (fun u21 => ?_)
            ·
              refine w_iload_n gz_31_18 rfl ?_
              refine w_iload_n gz_31_19 rfl ?_
              refine w_inS (k := 0) (as := [(0, x2), (0, x1)]) (r := []) (ls0 := [(0, x1), (0, x2)]) gz_31_20 gm_29 rfl rfl rfl rfl rfl rfl ?_
              refine w_iload_n gz_29_0 rfl ?_
              refine w_iconst gz_29_1 (by decide) ?_
              refine w_imul gz_29_2 ⟨by omega, by omega⟩ ?_
              refine w_iload_n gz_29_3 rfl ?_
              refine w_iadd gz_29_4 ⟨by omega, by omega⟩ ?_
              refine w_iret gz_29_5 gm_29 ?_
              show wp l rho (d + 4) 31 23 [(2, 0), (0, x1), (0, x2), (0, x3), (9, 0), (9, 0)] [(0, ((x1 * 4) + x2))] h Q
              refine w_istore (ls' := [(2, 0), (0, x1), (0, x2), (0, x3), (0, ((x1 * 4) + x2)), (9, 0)]) gz_31_23 gm_31 rfl rfl rfl ?_
              refine w_aload_n gz_31_25 rfl ?_
              refine w_getX (v := 1) gz_31_26 is_0 rd_9 rfl (by decide) rfl ?_
              refine w_getX (v := 6) gz_31_29 is_1 rd_3 rfl (by decide) rfl ?_
              refine w_iload gz_31_32 rfl ?_
              refine w_bald gz_31_34 is_6 rd_29 (by omega) (by omega) (fun v24 ev24 pv24 qv24 => ?_)
              refine w_istore (ls' := [(2, 0), (0, x1), (0, x2), (0, x3), (0, ((x1 * 4) + x2)), (0, v24)]) gz_31_35 gm_31 rfl rfl rfl ?_
              refine w_aload_n gz_31_37 rfl ?_
              refine w_getX (v := 1) gz_31_38 is_0 rd_9 rfl (by decide) rfl ?_
              refine w_getX (v := 6) gz_31_41 is_1 rd_3 rfl (by decide) rfl ?_
              refine w_iload gz_31_44 rfl ?_
              refine w_iload_n gz_31_46 rfl ?_
              refine w_bast gz_31_47 is_6 rd_29 (by omega) (by omega) (by omega) (by omega) (fun h27 fh27 => ?_)
              have gh27 : my_fr [(29, -1)] h h27 := my_fr.up my_fr.rf is_6 fh27 rfl
              refine w_aload_n gz_31_48 rfl ?_
              refine w_getX (v := 1) gz_31_49 is_0 rd_9 rfl (by decide) rfl ?_
              refine w_aload_n gz_31_52 rfl ?_
              refine w_getX (v := 7) gz_31_53 is_0 rd_9 rfl (by decide) rfl ?_
              refine w_inv (k := 0) (as := [(2, 7)]) (r := []) (x := 1) (ls0 := [(2, 1), (2, 7)]) gz_31_56 gm_18 rfl is_1 rd_3 rfl rfl rfl rfl rfl (c79_Laws_hold (d := d) (x1 := 7) is_7 ?_ ?_)
              ·
                show wp l rho (d + 4) 31 59 [(2, 0), (0, x1), (0, x2), (0, x3), (0, ((x1 * 4) + x2)), (0, v24)] [(0, 0)] h27 Q
                refine w_ifeq (t := 64) gz_31_59 rfl (fun u30 => ?_) (fun u30 => by exfalso; omega)
                refine w_aload_n gz_31_64 rfl ?_
                refine w_getX (v := 1) gz_31_65 is_0 rd_9 rfl (by decide) rfl ?_
                refine w_getX (v := 6) gz_31_68 is_1 rd_3 rfl (by decide) rfl ?_
                refine w_iload gz_31_71 rfl ?_
                refine w_iload gz_31_73 rfl ?_
                refine w_bast gz_31_75 is_6 rd_29 (by omega) (by omega) (by omega) (by omega) (fun h33 fh33 => ?_)
                have gh33 : my_fr [(29, -1)] h h33 := my_fr.up gh27 is_6 fh33 rfl
                refine w_iconst gz_31_76 (by decide) ?_
                exact w_bret gz_31_77 gm_31 (by omega) (by omega) (k0 h33 (gh33))
              ·
                show wp l rho (d + 4) 31 59 [(2, 0), (0, x1), (0, x2), (0, x3), (0, ((x1 * 4) + x2)), (0, v24)] [(0, 1)] h27 Q
                refine w_ifeq (t := 64) gz_31_59 rfl (fun u34 => by exfalso; omega) (fun u34 => ?_)
                refine w_iconst gz_31_62 (by decide) ?_
                exact w_bret gz_31_63 gm_31 (by omega) (by omega) (k1 h27 (gh27) (by omega) (by omega) (by omega) (by omega))
            ·
              refine w_iconst gz_31_16 (by decide) ?_
              exact w_bret gz_31_17 gm_31 (by omega) (by omega) (k0 h (my_fr.rf))
theorem is_13 : my_is 20 13 := by unfold my_is; decide +kernel
theorem is_26 : my_is 21 26 := by unfold my_is; decide +kernel
theorem gz_138_0 : mz_pg 138 0 = some (.iload_n 1, 0, 0, 0) := by decide +kernel
theorem gz_138_1 : mz_pg 138 1 = some (.ifCond .lt 8, 0, 0, 0) := by decide +kernel
theorem gz_138_4 : mz_pg 138 4 = some (.iload_n 1, 0, 0, 0) := by decide +kernel
theorem gz_138_5 : mz_pg 138 5 = some (.iconst 4, 0, 0, 0) := by decide +kernel
theorem gz_138_6 : mz_pg 138 6 = some (.if_icmp .lt 5, 0, 0, 0) := by decide +kernel
theorem gz_138_9 : mz_pg 138 9 = some (.iconst 0, 0, 0, 0) := by decide +kernel
theorem gz_138_10 : mz_pg 138 10 = some (.ireturn, 0, 0, 0) := by decide +kernel
theorem gz_138_11 : mz_pg 138 11 = some (.iload_n 2, 0, 0, 0) := by decide +kernel
theorem gz_138_12 : mz_pg 138 12 = some (.ifCond .ne 25, 0, 0, 0) := by decide +kernel
theorem gz_138_15 : mz_pg 138 15 = some (.aload_n 0, 0, 0, 0) := by decide +kernel
theorem gz_138_16 : mz_pg 138 16 = some (.getfield 26, 9, 4, 532) := by decide +kernel
theorem gz_138_19 : mz_pg 138 19 = some (.iload_n 1, 0, 0, 0) := by decide +kernel
theorem gz_138_20 : mz_pg 138 20 = some (.aaload, 0, 0, 0) := by decide +kernel
theorem gz_138_21 : mz_pg 138 21 = some (.aload_n 0, 0, 0, 0) := by decide +kernel
theorem gz_138_22 : mz_pg 138 22 = some (.getfield 19, 9, 1, 529) := by decide +kernel
theorem gz_138_25 : mz_pg 138 25 = some (.invokevirtual 114, 1, 25, 626) := by decide +kernel
theorem gz_138_28 : mz_pg 138 28 = some (.aload_n 0, 0, 0, 0) := by decide +kernel
theorem gz_138_29 : mz_pg 138 29 = some (.getfield 30, 9, 5, 533) := by decide +kernel
theorem gz_138_32 : mz_pg 138 32 = some (.iload_n 1, 0, 0, 0) := by decide +kernel
theorem gz_138_33 : mz_pg 138 33 = some (.iconst 1, 0, 0, 0) := by decide +kernel
theorem gz_138_34 : mz_pg 138 34 = some (.bastore, 0, 0, 0) := by decide +kernel
theorem gz_138_35 : mz_pg 138 35 = some (.iconst 1, 0, 0, 0) := by decide +kernel
theorem gz_138_36 : mz_pg 138 36 = some (.ireturn, 0, 0, 0) := by decide +kernel
theorem gz_138_37 : mz_pg 138 37 = some (.aload_n 0, 0, 0, 0) := by decide +kernel
theorem gz_138_38 : mz_pg 138 38 = some (.getfield 30, 9, 5, 533) := by decide +kernel
theorem gz_138_41 : mz_pg 138 41 = some (.iload_n 1, 0, 0, 0) := by decide +kernel
theorem gz_138_42 : mz_pg 138 42 = some (.baload, 0, 0, 0) := by decide +kernel
theorem gz_138_43 : mz_pg 138 43 = some (.ifCond .eq 19, 0, 0, 0) := by decide +kernel
theorem gz_138_46 : mz_pg 138 46 = some (.aload_n 0, 0, 0, 0) := by decide +kernel
theorem gz_138_47 : mz_pg 138 47 = some (.getfield 10, 9, 0, 528) := by decide +kernel
theorem gz_138_50 : mz_pg 138 50 = some (.aload_n 0, 0, 0, 0) := by decide +kernel
theorem gz_138_51 : mz_pg 138 51 = some (.getfield 26, 9, 4, 532) := by decide +kernel
theorem gz_138_54 : mz_pg 138 54 = some (.iload_n 1, 0, 0, 0) := by decide +kernel
theorem gz_138_55 : mz_pg 138 55 = some (.aaload, 0, 0, 0) := by decide +kernel
theorem gz_138_56 : mz_pg 138 56 = some (.invokevirtual 106, 1, 18, 599) := by decide +kernel
theorem gz_138_59 : mz_pg 138 59 = some (.ifCond .ne 5, 0, 0, 0) := by decide +kernel
theorem gz_138_62 : mz_pg 138 62 = some (.iconst 0, 0, 0, 0) := by decide +kernel
theorem gz_138_63 : mz_pg 138 63 = some (.ireturn, 0, 0, 0) := by decide +kernel
theorem gz_138_64 : mz_pg 138 64 = some (.aload_n 0, 0, 0, 0) := by decide +kernel
theorem gz_138_65 : mz_pg 138 65 = some (.getfield 19, 9, 1, 529) := by decide +kernel
theorem gz_138_68 : mz_pg 138 68 = some (.aload_n 0, 0, 0, 0) := by decide +kernel
theorem gz_138_69 : mz_pg 138 69 = some (.getfield 26, 9, 4, 532) := by decide +kernel
theorem gz_138_72 : mz_pg 138 72 = some (.iload_n 1, 0, 0, 0) := by decide +kernel
theorem gz_138_73 : mz_pg 138 73 = some (.aaload, 0, 0, 0) := by decide +kernel
theorem gz_138_74 : mz_pg 138 74 = some (.invokevirtual 114, 1, 25, 626) := by decide +kernel
theorem gz_138_77 : mz_pg 138 77 = some (.iconst 1, 0, 0, 0) := by decide +kernel
theorem gz_138_78 : mz_pg 138 78 = some (.ireturn, 0, 0, 0) := by decide +kernel
theorem gm_138 : my_mm 138 3 (some .boolean) 2 9 := by unfold my_mm; decide +kernel
theorem rd_20 : my_rd 20 = .inl (4, 4, [(2, 6, 0)]) := rfl
theorem rd_21 : my_rd 21 = .inl (1, 4, [(0, 0, 1)]) := rfl
theorem c83_ThroughWindow_mark {l : Launch} {rho : Nat → Int32} {d : Nat} {h : my_H} {Q : my_H → my_V → Prop} {x1 x2 : Int} (a2 : 0 ≤ x2) (b2 : x2 ≤ 1) (k0 : ∀ (h' : my_H), my_fr [(21, -1), (30, -1), (31, -1)] h h' → Q h' (0, 0)) (k1 : ∀ (h' : my_H), my_fr [(21, -1), (30, -1), (31, -1)] h h' → 0 ≤ x1 → x1 ≤ 3 → Q h' (0, 1)) : wp l rho (d + 4) 138 0 [(2, 0), (0, x1), (0, x2)] [] h Q := by
  refine w_iload_n gz_138_0 rfl ?_
  refine w_iflt (t := 9) gz_138_1 rfl (fun u1 => ?_) (fun u1 => ?_)
  ·
    refine w_iconst gz_138_9 (by decide) ?_
    exact w_bret gz_138_10 gm_138 (by omega) (by omega) (k0 h (my_fr.rf))
  ·
    refine w_iload_n gz_138_4 rfl ?_
    refine w_iconst gz_138_5 (by decide) ?_
    refine w_iclt (t := 11) gz_138_6 rfl (fun u2 => ?_) (fun u2 => ?_)
    ·
      refine w_iload_n gz_138_11 rfl ?_
      refine w_ifne (t := 37) gz_138_12 rfl (fun u3 => ?_) (fun u3 => ?_)
      ·
        refine w_aload_n gz_138_37 rfl ?_
        refine w_getX (v := 26) gz_138_38 is_0 rd_9 rfl (by decide) rfl ?_
        refine w_iload_n gz_138_41 rfl ?_
        refine w_bald gz_138_42 is_26 rd_21 (by omega) (by omega) (fun v5 ev5 pv5 qv5 => ?_)
        refine w_ifeq (t := 62) gz_138_43 rfl (fun u6 => ?_) (fun u6 => ?_)
        ·
          refine w_iconst gz_138_62 (by decide) ?_
          exact w_bret gz_138_63 gm_138 (by omega) (by omega) (k0 h (my_fr.rf))
        ·
          refine w_aload_n gz_138_46 rfl ?_
          refine w_getX (v := 1) gz_138_47 is_0 rd_9 rfl (by decide) rfl ?_
          refine w_aload_n gz_138_50 rfl ?_
          refine w_getX (v := 13) gz_138_51 is_0 rd_9 rfl (by decide) rfl ?_
          refine w_iload_n gz_138_54 rfl ?_
          refine w_aald gz_138_55 is_13 rd_20 rfl (by omega) (by omega) (fun v9 ev9 tv9 => ?_)
          refine w_inv (k := 0) (as := [(2, v9)]) (r := []) (x := 1) (ls0 := [(2, 1), (2, v9)]) gz_138_56 gm_18 rfl is_1 rd_3 rfl rfl rfl rfl rfl (c79_Laws_hold (d := d) (x1 := v9) tv9 ?_ ?_)
          ·
            show wp l rho (d + 4) 138 59 [(2, 0), (0, x1), (0, x2)] [(0, 0)] h Q
            refine w_ifne (t := 64) gz_138_59 rfl (fun u10 => by exfalso; omega) (fun u10 => ?_)
            refine w_iconst gz_138_62 (by decide) ?_
            exact w_bret gz_138_63 gm_138 (by omega) (by omega) (k0 h (my_fr.rf))
          ·
            show wp l rho (d + 4) 138 59 [(2, 0), (0, x1), (0, x2)] [(0, 1)] h Q
            refine w_ifne (t := 64) gz_138_59 rfl (fun u11 => ?_) (fun u11 => by exfalso; omega)
            refine w_aload_n gz_138_64 rfl ?_
            refine w_getX (v := 7) gz_138_65 is_0 rd_9 rfl (by decide) rfl ?_
            refine w_aload_n gz_138_68 rfl ?_
            refine w_getX (v := 13) gz_138_69 is_0 rd_9 rfl (by decide) rfl ?_
            refine w_iload_n gz_138_72 rfl ?_
            refine w_aald gz_138_73 is_13 rd_20 rfl (by omega) (by omega) (fun v14 ev14 tv14 => ?_)
            have zv14 : v9 = v14 := (ev14.trans ev9.symm).symm
            subst zv14
            refine w_inv (k := 0) (as := [(2, v9)]) (r := []) (x := 7) (ls0 := [(2, 7), (2, v9)]) gz_138_74 gm_25 rfl is_7 rd_6 rfl rfl rfl rfl rfl ?_
            refine w_aload_n gz_25_0 rfl ?_
            refine w_getX (v := (v9 + 1)) gz_25_1 tv9 rd_6 rfl (by decide) rfl ?_
            refine w_iconst gz_25_4 (by decide) ?_
            refine w_aload_n gz_25_5 rfl ?_
            refine w_getX (v := 8) gz_25_6 is_7 rd_6 rfl (by decide) rfl ?_
            refine w_iconst gz_25_9 (by decide) ?_
            refine w_aload_n gz_25_10 rfl ?_
            refine w_getX (v := 8) gz_25_11 is_7 rd_6 rfl (by decide) rfl ?_
            refine v_alen (j := 240) gz_25_14 rfl is_8 rd_30 (by decide) ?_
            refine w_cpU gz_25_15 (ix_6_1 tv9) rd_30 is_8 rd_30 (by omega) (by omega) (by omega) (by omega) (by omega) rfl (by decide) (by decide) (fun h18 fh18 => ?_)
            have gh18 : my_fr [(21, -1), (30, -1), (31, -1)] h h18 := my_fr.cp my_fr.rf is_8 fh18 rfl
            refine w_aload_n gz_25_18 rfl ?_
            refine w_getX (v := (v9 + 2)) gz_25_19 tv9 rd_6 rfl (by decide) rfl ?_
            refine w_iconst gz_25_22 (by decide) ?_
            refine w_aload_n gz_25_23 rfl ?_
            refine w_getX (v := 9) gz_25_24 is_7 rd_6 rfl (by decide) rfl ?_
            refine w_iconst gz_25_27 (by decide) ?_
            refine w_aload_n gz_25_28 rfl ?_
            refine w_getX (v := 9) gz_25_29 is_7 rd_6 rfl (by decide) rfl ?_
            refine v_alen (j := 3) gz_25_32 rfl is_9 rd_31 (by decide) ?_
            refine w_cpU gz_25_33 (ix_6_2 tv9) rd_31 is_9 rd_31 (by omega) (by omega) (by omega) (by omega) (by omega) rfl (by decide) (by decide) (fun h22 fh22 => ?_)
            have gh22 : my_fr [(21, -1), (30, -1), (31, -1)] h h22 := my_fr.cp gh18 is_9 fh22 rfl
            refine w_vret gz_25_36 gm_25 ?_
            show wp l rho (d + 4) 138 77 [(2, 0), (0, x1), (0, x2)] [] h22 Q
            refine w_iconst gz_138_77 (by decide) ?_
            exact w_bret gz_138_78 gm_138 (by omega) (by omega) (k1 h22 (gh22) (by omega) (by omega))
      ·
        refine w_aload_n gz_138_15 rfl ?_
        refine w_getX (v := 13) gz_138_16 is_0 rd_9 rfl (by decide) rfl ?_
        refine w_iload_n gz_138_19 rfl ?_
        refine w_aald gz_138_20 is_13 rd_20 rfl (by omega) (by omega) (fun v24 ev24 tv24 => ?_)
        refine w_aload_n gz_138_21 rfl ?_
        refine w_getX (v := 7) gz_138_22 is_0 rd_9 rfl (by decide) rfl ?_
        refine w_inv (k := 0) (as := [(2, 7)]) (r := []) (x := v24) (ls0 := [(2, v24), (2, 7)]) gz_138_25 gm_25 rfl tv24 rd_6 rfl rfl rfl rfl rfl ?_
        refine w_aload_n gz_25_0 rfl ?_
        refine w_getX (v := 8) gz_25_1 is_7 rd_6 rfl (by decide) rfl ?_
        refine w_iconst gz_25_4 (by decide) ?_
        refine w_aload_n gz_25_5 rfl ?_
        refine w_getX (v := (v24 + 1)) gz_25_6 tv24 rd_6 rfl (by decide) rfl ?_
        refine w_iconst gz_25_9 (by decide) ?_
        refine w_aload_n gz_25_10 rfl ?_
        refine w_getX (v := (v24 + 1)) gz_25_11 tv24 rd_6 rfl (by decide) rfl ?_
        refine v_alen (j := 240) gz_25_14 rfl (ix_6_1 tv24) rd_30 (by decide) ?_
        refine w_cpU gz_25_15 is_8 rd_30 (ix_6_1 tv24) rd_30 (by omega) (by omega) (by omega) (by omega) (by omega) rfl (by decide) (by decide) (fun h29 fh29 => ?_)
        have gh29 : my_fr [(21, -1), (30, -1), (31, -1)] h h29 := my_fr.cp my_fr.rf (ix_6_1 tv24) fh29 rfl
        refine w_aload_n gz_25_18 rfl ?_
        refine w_getX (v := 9) gz_25_19 is_7 rd_6 rfl (by decide) rfl ?_
        refine w_iconst gz_25_22 (by decide) ?_
        refine w_aload_n gz_25_23 rfl ?_
        refine w_getX (v := (v24 + 2)) gz_25_24 tv24 rd_6 rfl (by decide) rfl ?_
        refine w_iconst gz_25_27 (by decide) ?_
        refine w_aload_n gz_25_28 rfl ?_
        refine w_getX (v := (v24 + 2)) gz_25_29 tv24 rd_6 rfl (by decide) rfl ?_
        refine v_alen (j := 3) gz_25_32 rfl (ix_6_2 tv24) rd_31 (by decide) ?_
        refine w_cpU gz_25_33 is_9 rd_31 (ix_6_2 tv24) rd_31 (by omega) (by omega) (by omega) (by omega) (by omega) rfl (by decide) (by decide) (fun h33 fh33 => ?_)
        have gh33 : my_fr [(21, -1), (30, -1), (31, -1)] h h33 := my_fr.cp gh29 (ix_6_2 tv24) fh33 rfl
        refine w_vret gz_25_36 gm_25 ?_
        show wp l rho (d + 4) 138 28 [(2, 0), (0, x1), (0, x2)] [] h33 Q
        refine w_aload_n gz_138_28 rfl ?_
        refine w_getX (v := 26) gz_138_29 is_0 rd_9 rfl (by decide) rfl ?_
        refine w_iload_n gz_138_32 rfl ?_
        refine w_iconst gz_138_33 (by decide) ?_
        refine w_bast gz_138_34 is_26 rd_21 (by omega) (by omega) (by omega) (by omega) (fun h35 fh35 => ?_)
        have gh35 : my_fr [(21, -1), (30, -1), (31, -1)] h h35 := my_fr.up gh33 is_26 fh35 rfl
        refine w_iconst gz_138_35 (by decide) ?_
        exact w_bret gz_138_36 gm_138 (by omega) (by omega) (k1 h35 (gh35) (by omega) (by omega))
    ·
      refine w_iconst gz_138_9 (by decide) ?_
      exact w_bret gz_138_10 gm_138 (by omega) (by omega) (k0 h (my_fr.rf))
end MYG4
