/-! contracts, printed by wip/gen/gy.py -/
section MYNThroughWindow_clash4
theorem c_ThroughWindow_clash4 {l : Launch} {rho : Nat → Int32} {d : Nat} {h : my_H} {Q : my_H → my_V → Prop} {x1 x2 x3 x4 x5 x6 : Int} (n_Ln : Ln h) (hlw : LwA h) (hwo : WOk h 7) (k0 : ∀ (h' : my_H), my_fr [(2, 11), (2, 12), (2, 13), (2, 14), (2, 15), (2, 16), (7, 0), (7, 1), (7, 2), (7, 3), (7, 4), (7, 5), (8, 0), (8, 1), (30, -1), (31, -1), (41, -1), (42, -1), (43, -1), (44, -1)] h h' → (∀ k j : Int, 0 ≤ k → k < 94 → h' k j = h k j) → Ln h' → Q h' (0, (-1))) (k1 : ∀ (h' : my_H), my_fr [(2, 11), (2, 12), (2, 13), (2, 14), (2, 15), (2, 16), (7, 0), (7, 1), (7, 2), (7, 3), (7, 4), (7, 5), (8, 0), (8, 1), (30, -1), (31, -1), (41, -1), (42, -1), (43, -1), (44, -1)] h h' → 0 ≤ x1 → x1 ≤ 5 → 0 ≤ x2 → 0 ≤ x4 → x4 ≤ 5 → 0 ≤ x5 → (∀ k j : Int, 0 ≤ k → k < 94 → h' k j = h k j) → Ln h' → Q h' (0, 0)) (k2 : ∀ (h' : my_H), my_fr [(2, 11), (2, 12), (2, 13), (2, 14), (2, 15), (2, 16), (7, 0), (7, 1), (7, 2), (7, 3), (7, 4), (7, 5), (8, 0), (8, 1), (30, -1), (31, -1), (41, -1), (42, -1), (43, -1), (44, -1)] h h' → 0 ≤ x1 → x1 ≤ 5 → 0 ≤ x2 → 0 ≤ x4 → x4 ≤ 5 → 0 ≤ x5 → (∀ k j : Int, 0 ≤ k → k < 94 → h' k j = h k j) → Ln h' → Q h' (0, 1)) (k3 : ∀ (h' : my_H) (y : Int), my_fr [(2, 11), (2, 12), (2, 13), (2, 14), (2, 15), (2, 16), (7, 0), (7, 1), (7, 2), (7, 3), (7, 4), (7, 5), (8, 0), (8, 1), (30, -1), (31, -1), (41, -1), (42, -1), (43, -1), (44, -1)] h h' → 2 ≤ y → y ≤ 4 → 0 ≤ x1 → x1 ≤ 5 → 0 ≤ x2 → 0 ≤ x4 → x4 ≤ 5 → 0 ≤ x5 → (∀ k j : Int, 0 ≤ k → k < 94 → h' k j = h k j) → Ln h' → Q h' (0, y)) : wp l rho (d + 7) 118 0 [(2, 0), (0, x1), (0, x2), (0, x3), (0, x4), (0, x5), (0, x6), (9, 0), (9, 0), (9, 0), (9, 0), (9, 0), (9, 0)] [] h Q := by
  refine w_iload_n gz_118_0 rfl ?_
  refine w_bipush gz_118_1 (by decide) ?_
  refine w_ianyD gz_118_3 (by decide) (fun v1 pv1 qv1 => ?_)
  refine w_istore (ls' := [(2, 0), (0, x1), (0, x2), (0, x3), (0, x4), (0, x5), (0, x6), (0, v1), (9, 0), (9, 0), (9, 0), (9, 0), (9, 0)]) gz_118_4 gm_118 rfl rfl rfl ?_
  refine w_iload_n gz_118_6 rfl ?_
  refine w_bipush gz_118_7 (by decide) ?_
  refine w_ianyQ gz_118_9 (by decide) (fun v2 pv2 qv2 => ?_)
  refine w_istore (ls' := [(2, 0), (0, x1), (0, x2), (0, x3), (0, x4), (0, x5), (0, x6), (0, v1), (0, v2), (9, 0), (9, 0), (9, 0), (9, 0)]) gz_118_10 gm_118 rfl rfl rfl ?_
  refine w_iload gz_118_12 rfl ?_
  refine w_bipush gz_118_14 (by decide) ?_
  refine w_ianyD gz_118_16 (by decide) (fun v3 pv3 qv3 => ?_)
  refine w_istore (ls' := [(2, 0), (0, x1), (0, x2), (0, x3), (0, x4), (0, x5), (0, x6), (0, v1), (0, v2), (0, v3), (9, 0), (9, 0), (9, 0)]) gz_118_17 gm_118 rfl rfl rfl ?_
  refine w_iload gz_118_19 rfl ?_
  refine w_bipush gz_118_21 (by decide) ?_
  refine w_ianyQ gz_118_23 (by decide) (fun v4 pv4 qv4 => ?_)
  refine w_istore (ls' := [(2, 0), (0, x1), (0, x2), (0, x3), (0, x4), (0, x5), (0, x6), (0, v1), (0, v2), (0, v3), (0, v4), (9, 0), (9, 0)]) gz_118_24 gm_118 rfl rfl rfl ?_
  refine w_iload_n gz_118_26 rfl ?_
  refine w_iflt (t := 79) gz_118_27 rfl (fun u5 => ?_) (fun u5 => ?_)
  ·
    refine w_iconst gz_118_79 (by decide) ?_
    have bfE : ∀ k j : Int, 0 ≤ k → k < 94 → h k j = h k j := fun k j k0 k1 => rfl
    exact w_iret gz_118_80 gm_118 (k0 h (my_fr.rf) (by first | exact bfE | assumption | omega) n_Ln)
  ·
    refine w_iload gz_118_30 rfl ?_
    refine w_iflt (t := 79) gz_118_32 rfl (fun u6 => ?_) (fun u6 => ?_)
    ·
      refine w_iconst gz_118_79 (by decide) ?_
      have bfE : ∀ k j : Int, 0 ≤ k → k < 94 → h k j = h k j := fun k j k0 k1 => rfl
      exact w_iret gz_118_80 gm_118 (k0 h (my_fr.rf) (by first | exact bfE | assumption | omega) n_Ln)
    ·
      refine w_aload_n gz_118_35 rfl ?_
      refine w_getX (v := 94) gz_118_36 is_0 rd_9 rfl (by decide) rfl ?_
      refine w_aload_n gz_118_39 rfl ?_
      refine w_getX (v := 7) gz_118_40 is_0 rd_9 rfl (by decide) rfl ?_
      refine w_iload_n gz_118_43 rfl ?_
      refine w_iconst gz_118_44 (by decide) ?_
      refine w_iload gz_118_45 rfl ?_
      refine w_iload gz_118_47 rfl ?_
      refine w_iload_n gz_118_49 rfl ?_
      refine w_inv (k := 0) (as := [(0, x3), (0, v2), (0, v1), (0, 0), (0, x1), (2, 7)]) (r := []) (x := 94) (ls0 := [(2, 94), (2, 7), (0, x1), (0, 0), (0, v1), (0, v2), (0, x3)]) gz_118_50 gm_87 rfl is_94 rd_2 rfl rfl rfl rfl rfl (c_Desk_opens5 (d := (d + 1)) (x1 := 7) (x2 := x1) (x3 := 0) (x4 := v1) (x5 := v2) (x6 := x3) is_7 n_Ln (hlw.1) (hwo.1.1) (fun h9 frh9 xp10 => ?_) (fun h11 frh11 w12 w13 w14 w15 w16 w17 xp18 xp19 xp20 xp21 xp22 xp23 xp24 xp25 xp26 xp27 xp28 xp29 xp30 => ?_))
      ·
        have gh9 : my_fr [(2, 11), (2, 12), (2, 13), (2, 14), (2, 15), (2, 16), (7, 0), (7, 1), (7, 2), (7, 3), (7, 4), (7, 5), (8, 0), (8, 1), (30, -1), (31, -1), (41, -1), (42, -1), (43, -1), (44, -1)] h h9 := my_fr.tr my_fr.rf (frh9.mo rfl)
        have Ln_h9 : Ln h9 := Ln_ag (my_ag.fr frh9 rfl) n_Ln
        show wp l rho (d + 7) 118 53 [(2, 0), (0, x1), (0, x2), (0, x3), (0, x4), (0, x5), (0, x6), (0, v1), (0, v2), (0, v3), (0, v4), (9, 0), (9, 0)] [(0, 0)] h9 Q
        refine w_ifeq (t := 79) gz_118_53 rfl (fun u31 => ?_) (fun u31 => by exfalso; omega)
        refine w_iconst gz_118_79 (by decide) ?_
        have bfE : ∀ k j : Int, 0 ≤ k → k < 94 → h9 k j = h k j := fun k j k0 k1 => (bg_fr frh9 (by decide +kernel) k j k0 (Or.inl k1))
        exact w_iret gz_118_80 gm_118 (k0 h9 (gh9) (by first | exact bfE | assumption | omega) Ln_h9)
      ·
        have gh11 : my_fr [(2, 11), (2, 12), (2, 13), (2, 14), (2, 15), (2, 16), (7, 0), (7, 1), (7, 2), (7, 3), (7, 4), (7, 5), (8, 0), (8, 1), (30, -1), (31, -1), (41, -1), (42, -1), (43, -1), (44, -1)] h h11 := my_fr.tr my_fr.rf (frh11.mo rfl)
        have Ln_h11 : Ln h11 := Ln_ag (my_ag.fr frh11 rfl) n_Ln
        show wp l rho (d + 7) 118 53 [(2, 0), (0, x1), (0, x2), (0, x3), (0, x4), (0, x5), (0, x6), (0, v1), (0, v2), (0, v3), (0, v4), (9, 0), (9, 0)] [(0, 1)] h11 Q
        refine w_ifeq (t := 79) gz_118_53 rfl (fun u32 => by exfalso; omega) (fun u32 => ?_)
        refine w_aload_n gz_118_56 rfl ?_
        refine w_getX (v := 94) gz_118_57 is_0 rd_9 rfl (by decide) rfl ?_
        refine w_aload_n gz_118_60 rfl ?_
        refine w_getX (v := 7) gz_118_61 is_0 rd_9 rfl (by decide) rfl ?_
        refine w_iload gz_118_64 rfl ?_
        refine w_iconst gz_118_66 (by decide) ?_
        refine w_iload gz_118_67 rfl ?_
        refine w_iload gz_118_69 rfl ?_
        refine w_iload gz_118_71 rfl ?_
        have agO : my_ag F5 h h11 := (my_ag.fr (F := F5) gh11 rfl)
        have bfO : ∀ k j : Int, 0 ≤ k → k < 94 → h11 k j = h k j := fun k j k0 k1 => (bg_fr frh11 (by decide +kernel) k j k0 (Or.inl k1))
        refine w_inv (k := 0) (as := [(0, x6), (0, v4), (0, v3), (0, 0), (0, x4), (2, 7)]) (r := []) (x := 94) (ls0 := [(2, 94), (2, 7), (0, x4), (0, 0), (0, v3), (0, v4), (0, x6)]) gz_118_73 gm_87 rfl is_94 rd_2 rfl rfl rfl rfl rfl (c_Desk_opens5 (d := (d + 1)) (x1 := 7) (x2 := x4) (x3 := 0) (x4 := v3) (x5 := v4) (x6 := x6) is_7 Ln_h11 ((LwA_ag n_Ln agO hlw).1) (Gd_cg hwo bfO) (fun h35 frh35 xp36 => ?_) (fun h37 frh37 w38 w39 w40 w41 w42 w43 xp44 xp45 xp46 xp47 xp48 xp49 xp50 xp51 xp52 xp53 xp54 xp55 xp56 => ?_))
        ·
          have gh35 : my_fr [(2, 11), (2, 12), (2, 13), (2, 14), (2, 15), (2, 16), (7, 0), (7, 1), (7, 2), (7, 3), (7, 4), (7, 5), (8, 0), (8, 1), (30, -1), (31, -1), (41, -1), (42, -1), (43, -1), (44, -1)] h h35 := my_fr.tr gh11 (frh35.mo rfl)
          have Ln_h35 : Ln h35 := Ln_ag (my_ag.fr frh35 rfl) Ln_h11
          show wp l rho (d + 7) 118 76 [(2, 0), (0, x1), (0, x2), (0, x3), (0, x4), (0, x5), (0, x6), (0, v1), (0, v2), (0, v3), (0, v4), (9, 0), (9, 0)] [(0, 0)] h35 Q
          refine w_ifne (t := 81) gz_118_76 rfl (fun u57 => by exfalso; omega) (fun u57 => ?_)
          refine w_iconst gz_118_79 (by decide) ?_
          have bfE : ∀ k j : Int, 0 ≤ k → k < 94 → h35 k j = h k j := fun k j k0 k1 => ((bg_fr frh35 (by decide +kernel) k j k0 (Or.inl k1)).trans (bg_fr frh11 (by decide +kernel) k j k0 (Or.inl k1)))
          exact w_iret gz_118_80 gm_118 (k0 h35 (gh35) (by first | exact bfE | assumption | omega) Ln_h35)
        ·
          have gh37 : my_fr [(2, 11), (2, 12), (2, 13), (2, 14), (2, 15), (2, 16), (7, 0), (7, 1), (7, 2), (7, 3), (7, 4), (7, 5), (8, 0), (8, 1), (30, -1), (31, -1), (41, -1), (42, -1), (43, -1), (44, -1)] h h37 := my_fr.tr gh11 (frh37.mo rfl)
          have Ln_h37 : Ln h37 := Ln_ag (my_ag.fr frh37 rfl) Ln_h11
          show wp l rho (d + 7) 118 76 [(2, 0), (0, x1), (0, x2), (0, x3), (0, x4), (0, x5), (0, x6), (0, v1), (0, v2), (0, v3), (0, v4), (9, 0), (9, 0)] [(0, 1)] h37 Q
          refine w_ifne (t := 81) gz_118_76 rfl (fun u58 => ?_) (fun u58 => by exfalso; omega)
          have bfA : ∀ k j : Int, 0 ≤ k → k < 94 → h37 k j = h k j := fun k j k0 k1 => ((bg_fr frh37 (by decide +kernel) k j k0 (Or.inl k1)).trans (bg_fr frh11 (by decide +kernel) k j k0 (Or.inl k1)))
          refine w_aload_n gz_118_81 rfl ?_
          refine w_getX (v := 145) gz_118_82 is_0 rd_9 rfl (by decide) rfl ?_
          refine w_aload_n gz_118_85 rfl ?_
          refine w_getX (v := 7) gz_118_86 is_0 rd_9 rfl (by decide) rfl ?_
          refine w_inv (k := 0) (as := [(2, 7)]) (r := []) (x := 145) (ls0 := [(2, 145), (2, 7)]) gz_118_89 gm_25 rfl is_145 rd_6 rfl rfl rfl rfl rfl ?_
          refine w_aload_n gz_25_0 rfl ?_
          refine w_getX (v := 8) gz_25_1 is_7 rd_6 rfl (by decide) rfl ?_
          refine w_iconst gz_25_4 (by decide) ?_
          refine w_aload_n gz_25_5 rfl ?_
          refine w_getX (v := 146) gz_25_6 is_145 rd_6 rfl (by decide) rfl ?_
          refine w_iconst gz_25_9 (by decide) ?_
          refine w_aload_n gz_25_10 rfl ?_
          refine w_getX (v := 146) gz_25_11 is_145 rd_6 rfl (by decide) rfl ?_
          refine v_alen (j := 240) gz_25_14 rfl is_146 rd_30 (by decide) ?_
          refine w_cpU gz_25_15 is_8 rd_30 is_146 rd_30 (by omega) (by omega) (by omega) (by omega) (by omega) rfl (by decide) (by decide) (fun h64 fh64 => ?_)
          have gh64 : my_fr [(2, 11), (2, 12), (2, 13), (2, 14), (2, 15), (2, 16), (7, 0), (7, 1), (7, 2), (7, 3), (7, 4), (7, 5), (8, 0), (8, 1), (30, -1), (31, -1), (41, -1), (42, -1), (43, -1), (44, -1)] h h64 := my_fr.cp gh37 is_146 fh64 rfl
          have Ln_h64 : Ln h64 := Ln_ag (my_ag.cp fh64 is_146 rfl) Ln_h37
          have fc96 := fh64
          refine w_aload_n gz_25_18 rfl ?_
          refine w_getX (v := 9) gz_25_19 is_7 rd_6 rfl (by decide) rfl ?_
          refine w_iconst gz_25_22 (by decide) ?_
          refine w_aload_n gz_25_23 rfl ?_
          refine w_getX (v := 147) gz_25_24 is_145 rd_6 rfl (by decide) rfl ?_
          refine w_iconst gz_25_27 (by decide) ?_
          refine w_aload_n gz_25_28 rfl ?_
          refine w_getX (v := 147) gz_25_29 is_145 rd_6 rfl (by decide) rfl ?_
          refine v_alen (j := 3) gz_25_32 rfl is_147 rd_31 (by decide) ?_
          refine w_cpU gz_25_33 is_9 rd_31 is_147 rd_31 (by omega) (by omega) (by omega) (by omega) (by omega) rfl (by decide) (by decide) (fun h68 fh68 => ?_)
          have gh68 : my_fr [(2, 11), (2, 12), (2, 13), (2, 14), (2, 15), (2, 16), (7, 0), (7, 1), (7, 2), (7, 3), (7, 4), (7, 5), (8, 0), (8, 1), (30, -1), (31, -1), (41, -1), (42, -1), (43, -1), (44, -1)] h h68 := my_fr.cp gh64 is_147 fh68 rfl
          have Ln_h68 : Ln h68 := Ln_ag (my_ag.cp fh68 is_147 rfl) Ln_h64
          have fc97 := fh68
          refine w_vret gz_25_36 gm_25 ?_
          show wp l rho (d + 7) 118 92 [(2, 0), (0, x1), (0, x2), (0, x3), (0, x4), (0, x5), (0, x6), (0, v1), (0, v2), (0, v3), (0, v4), (9, 0), (9, 0)] [] h68 Q
          have ca1 := fc96
          have cb1 := fc97
          refine w_aload_n gz_118_92 rfl ?_
          refine w_getX (v := 148) gz_118_93 is_0 rd_9 rfl (by decide) rfl ?_
          refine w_aload_n gz_118_96 rfl ?_
          refine w_getX (v := 7) gz_118_97 is_0 rd_9 rfl (by decide) rfl ?_
          refine w_inv (k := 0) (as := [(2, 7)]) (r := []) (x := 148) (ls0 := [(2, 148), (2, 7)]) gz_118_100 gm_25 rfl is_148 rd_6 rfl rfl rfl rfl rfl ?_
          refine w_aload_n gz_25_0 rfl ?_
          refine w_getX (v := 8) gz_25_1 is_7 rd_6 rfl (by decide) rfl ?_
          refine w_iconst gz_25_4 (by decide) ?_
          refine w_aload_n gz_25_5 rfl ?_
          refine w_getX (v := 149) gz_25_6 is_148 rd_6 rfl (by decide) rfl ?_
          refine w_iconst gz_25_9 (by decide) ?_
          refine w_aload_n gz_25_10 rfl ?_
          refine w_getX (v := 149) gz_25_11 is_148 rd_6 rfl (by decide) rfl ?_
          refine v_alen (j := 240) gz_25_14 rfl is_149 rd_30 (by decide) ?_
          refine w_cpU gz_25_15 is_8 rd_30 is_149 rd_30 (by omega) (by omega) (by omega) (by omega) (by omega) rfl (by decide) (by decide) (fun h74 fh74 => ?_)
          have gh74 : my_fr [(2, 11), (2, 12), (2, 13), (2, 14), (2, 15), (2, 16), (7, 0), (7, 1), (7, 2), (7, 3), (7, 4), (7, 5), (8, 0), (8, 1), (30, -1), (31, -1), (41, -1), (42, -1), (43, -1), (44, -1)] h h74 := my_fr.cp gh68 is_149 fh74 rfl
          have Ln_h74 : Ln h74 := Ln_ag (my_ag.cp fh74 is_149 rfl) Ln_h68
          have fc96 := fh74
          refine w_aload_n gz_25_18 rfl ?_
          refine w_getX (v := 9) gz_25_19 is_7 rd_6 rfl (by decide) rfl ?_
          refine w_iconst gz_25_22 (by decide) ?_
          refine w_aload_n gz_25_23 rfl ?_
          refine w_getX (v := 150) gz_25_24 is_148 rd_6 rfl (by decide) rfl ?_
          refine w_iconst gz_25_27 (by decide) ?_
          refine w_aload_n gz_25_28 rfl ?_
          refine w_getX (v := 150) gz_25_29 is_148 rd_6 rfl (by decide) rfl ?_
          refine v_alen (j := 3) gz_25_32 rfl is_150 rd_31 (by decide) ?_
          refine w_cpU gz_25_33 is_9 rd_31 is_150 rd_31 (by omega) (by omega) (by omega) (by omega) (by omega) rfl (by decide) (by decide) (fun h78 fh78 => ?_)
          have gh78 : my_fr [(2, 11), (2, 12), (2, 13), (2, 14), (2, 15), (2, 16), (7, 0), (7, 1), (7, 2), (7, 3), (7, 4), (7, 5), (8, 0), (8, 1), (30, -1), (31, -1), (41, -1), (42, -1), (43, -1), (44, -1)] h h78 := my_fr.cp gh74 is_150 fh78 rfl
          have Ln_h78 : Ln h78 := Ln_ag (my_ag.cp fh78 is_150 rfl) Ln_h74
          have fc97 := fh78
          refine w_vret gz_25_36 gm_25 ?_
          show wp l rho (d + 7) 118 103 [(2, 0), (0, x1), (0, x2), (0, x3), (0, x4), (0, x5), (0, x6), (0, v1), (0, v2), (0, v3), (0, v4), (9, 0), (9, 0)] [] h78 Q
          have ca2 := fc96
          have cb2 := fc97
          have w1 := CpW ca1 cb1 (by omega) (by omega) bfA
          have w2 := CpW ca2 cb2 (by omega) (by omega) w1.2.2.1
          have agP : my_ag F5 h h78 := (my_ag.fr (F := F5) gh78 rfl)
          have wo1 := WOk_cp (y := 145) rfl rfl agP hwo (fun j a b => (w2.2.2.2 146 j (by omega) (by omega)).trans (w1.1 j a b)) (fun u a b => (w2.2.2.2 147 u (by omega) (by omega)).trans (w1.2.1 u a b))
          refine w_aload_n gz_118_103 rfl ?_
          refine w_getX (v := 94) gz_118_104 is_0 rd_9 rfl (by decide) rfl ?_
          refine w_aload_n gz_118_107 rfl ?_
          refine w_getX (v := 145) gz_118_108 is_0 rd_9 rfl (by decide) rfl ?_
          refine w_iload_n gz_118_111 rfl ?_
          refine w_iconst gz_118_112 (by decide) ?_
          refine w_iload gz_118_113 rfl ?_
          refine w_iload gz_118_115 rfl ?_
          refine w_iload_n gz_118_117 rfl ?_
          refine w_inv (k := 0) (as := [(0, x3), (0, v2), (0, v1), (0, 0), (0, x1), (2, 145)]) (r := []) (x := 94) (ls0 := [(2, 94), (2, 145), (0, x1), (0, 0), (0, v1), (0, v2), (0, x3)]) gz_118_118 gm_114 rfl is_94 rd_2 rfl rfl rfl rfl rfl (c_Desk_putOn5 (d := d) (x1 := 145) (x2 := x1) (x3 := 0) (x4 := v1) (x5 := v2) (x6 := x3) is_145 Ln_h78 (LwA_ag n_Ln agP hlw) (wo1) ((by unfold zqXf; omega)) (fun h81 frh81 xp82 => ?_) (fun h83 v84 frh83 w85 w86 w87 w88 w89 xp90 xp91 xp92 => ?_))
          ·
            have gh81 : my_fr [(2, 11), (2, 12), (2, 13), (2, 14), (2, 15), (2, 16), (7, 0), (7, 1), (7, 2), (7, 3), (7, 4), (7, 5), (8, 0), (8, 1), (30, -1), (31, -1), (41, -1), (42, -1), (43, -1), (44, -1)] h h81 := my_fr.tr gh78 (frh81.mo rfl)
            have Ln_h81 : Ln h81 := Ln_ag (my_ag.fr frh81 rfl) Ln_h78
            show wp l rho (d + 7) 118 121 [(2, 0), (0, x1), (0, x2), (0, x3), (0, x4), (0, x5), (0, x6), (0, v1), (0, v2), (0, v3), (0, v4), (9, 0), (9, 0)] [(0, (-1))] h81 Q
            have bc_h81 : ∀ k j : Int, 0 ≤ k → k < 94 → h81 k j = h78 k j := fun k j k0 k1 => xp82.2 k j k0 (Or.inl k1)
            have kx_h81 : ∀ k j : Int, 148 ≤ k → k ≤ 150 → h81 k j = h78 k j := fun k j k0 k1 => xp82.2 k j (by omega) (Or.inr ⟨by omega, by omega⟩)
            have agP : my_ag F5 h h81 := (my_ag.fr (F := F5) gh81 rfl)
            refine w_iconst gz_118_121 (by decide) ?_
            refine w_iceq (t := 153) gz_118_122 rfl (fun u93 => ?_) (fun u93 => by exfalso; omega)
            refine w_iconst gz_118_153 (by decide) ?_
            refine w_istore (ls' := [(2, 0), (0, x1), (0, x2), (0, x3), (0, x4), (0, x5), (0, x6), (0, v1), (0, v2), (0, v3), (0, v4), (0, 0), (9, 0)]) gz_118_154 gm_118 rfl rfl rfl ?_
            refine w_aload_n gz_118_156 rfl ?_
            refine w_getX (v := 94) gz_118_157 is_0 rd_9 rfl (by decide) rfl ?_
            refine w_aload_n gz_118_160 rfl ?_
            refine w_getX (v := 148) gz_118_161 is_0 rd_9 rfl (by decide) rfl ?_
            refine w_iload gz_118_164 rfl ?_
            refine w_iconst gz_118_166 (by decide) ?_
            refine w_iload gz_118_167 rfl ?_
            refine w_iload gz_118_169 rfl ?_
            refine w_iload gz_118_171 rfl ?_
            have kxB : ∀ k j : Int, 148 ≤ k → k ≤ 150 → h81 k j = h78 k j := fun k j k0 k1 => (kx_h81 k j k0 k1)
            refine w_inv (k := 0) (as := [(0, x6), (0, v4), (0, v3), (0, 0), (0, x4), (2, 148)]) (r := []) (x := 94) (ls0 := [(2, 94), (2, 148), (0, x4), (0, 0), (0, v3), (0, v4), (0, x6)]) gz_118_173 gm_114 rfl is_94 rd_2 rfl rfl rfl rfl rfl (c_Desk_putOn5 (d := d) (x1 := 148) (x2 := x4) (x3 := 0) (x4 := v3) (x5 := v4) (x6 := x6) is_148 Ln_h81 (LwA_ag n_Ln agP hlw) (WOk_cp (y := 148) rfl rfl agP hwo (fun j a b => (kxB 149 j (by omega) (by omega)).trans (w2.1 j a b)) (fun u a b => (kxB 150 u (by omega) (by omega)).trans (w2.2.1 u a b))) ((by unfold zqXf; omega)) (fun h96 frh96 xp97 => ?_) (fun h98 v99 frh98 w100 w101 w102 w103 w104 xp105 xp106 xp107 => ?_))
            ·
              have gh96 : my_fr [(2, 11), (2, 12), (2, 13), (2, 14), (2, 15), (2, 16), (7, 0), (7, 1), (7, 2), (7, 3), (7, 4), (7, 5), (8, 0), (8, 1), (30, -1), (31, -1), (41, -1), (42, -1), (43, -1), (44, -1)] h h96 := my_fr.tr gh81 (frh96.mo rfl)
              have Ln_h96 : Ln h96 := Ln_ag (my_ag.fr frh96 rfl) Ln_h81
              show wp l rho (d + 7) 118 176 [(2, 0), (0, x1), (0, x2), (0, x3), (0, x4), (0, x5), (0, x6), (0, v1), (0, v2), (0, v3), (0, v4), (0, 0), (9, 0)] [(0, (-1))] h96 Q
              have bc_h96 : ∀ k j : Int, 0 ≤ k → k < 94 → h96 k j = h81 k j := fun k j k0 k1 => xp97.2 k j k0 (Or.inl k1)
              have agP : my_ag F5 h h96 := (my_ag.fr (F := F5) gh96 rfl)
              refine w_iconst gz_118_176 (by decide) ?_
              refine w_iceq (t := 206) gz_118_177 rfl (fun u108 => ?_) (fun u108 => by exfalso; omega)
              refine w_iconst gz_118_206 (by decide) ?_
              refine w_istore (ls' := [(2, 0), (0, x1), (0, x2), (0, x3), (0, x4), (0, x5), (0, x6), (0, v1), (0, v2), (0, v3), (0, v4), (0, 0), (0, 0)]) gz_118_207 gm_118 rfl rfl rfl ?_
              refine w_iload gz_118_209 rfl ?_
              refine w_ifeq (t := 239) gz_118_211 rfl (fun u109 => ?_) (fun u109 => by exfalso; omega)
              refine w_iload gz_118_239 rfl ?_
              refine w_ifeq (t := 248) gz_118_241 rfl (fun u110 => ?_) (fun u110 => by exfalso; omega)
              refine w_iload gz_118_248 rfl ?_
              refine w_ifeq (t := 257) gz_118_250 rfl (fun u111 => ?_) (fun u111 => by exfalso; omega)
              refine w_iconst gz_118_257 (by decide) ?_
              have bfE : ∀ k j : Int, 0 ≤ k → k < 94 → h96 k j = h k j := fun k j k0 k1 => ((bc_h96 k j k0 k1).trans ((bc_h81 k j k0 k1).trans ((my_cp_ne fh78 (by omega)).trans ((my_cp_ne fh74 (by omega)).trans ((my_cp_ne fh68 (by omega)).trans ((my_cp_ne fh64 (by omega)).trans ((bg_fr frh37 (by decide +kernel) k j k0 (Or.inl k1)).trans (bg_fr frh11 (by decide +kernel) k j k0 (Or.inl k1)))))))))
              exact w_iret gz_118_258 gm_118 (k3 h96 (4) (gh96) (by omega) (by omega) (by omega) (by omega) (by omega) (by omega) (by omega) (by omega) (by first | exact bfE | assumption | omega) Ln_h96)
            ·
              have gh98 : my_fr [(2, 11), (2, 12), (2, 13), (2, 14), (2, 15), (2, 16), (7, 0), (7, 1), (7, 2), (7, 3), (7, 4), (7, 5), (8, 0), (8, 1), (30, -1), (31, -1), (41, -1), (42, -1), (43, -1), (44, -1)] h h98 := my_fr.tr gh81 (frh98.mo rfl)
              have Ln_h98 : Ln h98 := Ln_ag (my_ag.fr frh98 rfl) Ln_h81
              show wp l rho (d + 7) 118 176 [(2, 0), (0, x1), (0, x2), (0, x3), (0, x4), (0, x5), (0, x6), (0, v1), (0, v2), (0, v3), (0, v4), (0, 0), (9, 0)] [(0, v99)] h98 Q
              have bc_h98 : ∀ k j : Int, 0 ≤ k → k < 94 → h98 k j = h81 k j := fun k j k0 k1 => xp107 k j k0 (Or.inl k1) (by omega)
              have pp173 := xp106
              have agP : my_ag F5 h h98 := (my_ag.fr (F := F5) gh98 rfl)
              refine w_iconst gz_118_176 (by decide) ?_
              refine w_iceq (t := 206) gz_118_177 rfl (fun u112 => ?_) (fun u112 => ?_)
              ·
                refine w_iconst gz_118_206 (by decide) ?_
                refine w_istore (ls' := [(2, 0), (0, x1), (0, x2), (0, x3), (0, x4), (0, x5), (0, x6), (0, v1), (0, v2), (0, v3), (0, v4), (0, 0), (0, 0)]) gz_118_207 gm_118 rfl rfl rfl ?_
                refine w_iload gz_118_209 rfl ?_
                refine w_ifeq (t := 239) gz_118_211 rfl (fun u113 => ?_) (fun u113 => by exfalso; omega)
                refine w_iload gz_118_239 rfl ?_
                refine w_ifeq (t := 248) gz_118_241 rfl (fun u114 => ?_) (fun u114 => by exfalso; omega)
                refine w_iload gz_118_248 rfl ?_
                refine w_ifeq (t := 257) gz_118_250 rfl (fun u115 => ?_) (fun u115 => by exfalso; omega)
                refine w_iconst gz_118_257 (by decide) ?_
                have bfE : ∀ k j : Int, 0 ≤ k → k < 94 → h98 k j = h k j := fun k j k0 k1 => ((bc_h98 k j k0 k1).trans ((bc_h81 k j k0 k1).trans ((my_cp_ne fh78 (by omega)).trans ((my_cp_ne fh74 (by omega)).trans ((my_cp_ne fh68 (by omega)).trans ((my_cp_ne fh64 (by omega)).trans ((bg_fr frh37 (by decide +kernel) k j k0 (Or.inl k1)).trans (bg_fr frh11 (by decide +kernel) k j k0 (Or.inl k1)))))))))
                exact w_iret gz_118_258 gm_118 (k3 h98 (4) (gh98) (by omega) (by omega) (by omega) (by omega) (by omega) (by omega) (by omega) (by omega) (by first | exact bfE | assumption | omega) Ln_h98)
              ·
                refine w_aload_n gz_118_180 rfl ?_
                refine w_getX (v := 94) gz_118_181 is_0 rd_9 rfl (by decide) rfl ?_
                refine w_aload_n gz_118_184 rfl ?_
                refine w_getX (v := 148) gz_118_185 is_0 rd_9 rfl (by decide) rfl ?_
                refine w_iload_n gz_118_188 rfl ?_
                refine w_iconst gz_118_189 (by decide) ?_
                refine w_iload gz_118_190 rfl ?_
                refine w_iload gz_118_192 rfl ?_
                refine w_iload_n gz_118_194 rfl ?_
                refine w_inv (k := 0) (as := [(0, x3), (0, v2), (0, v1), (0, 0), (0, x1), (2, 148)]) (r := []) (x := 94) (ls0 := [(2, 94), (2, 148), (0, x1), (0, 0), (0, v1), (0, v2), (0, x3)]) gz_118_195 gm_114 rfl is_94 rd_2 rfl rfl rfl rfl rfl (c_Desk_putOn5 (d := d) (x1 := 148) (x2 := x1) (x3 := 0) (x4 := v1) (x5 := v2) (x6 := x3) is_148 Ln_h98 (LwA_ag n_Ln agP hlw) (pp173.2) ((by unfold zqXf; omega)) (fun h118 frh118 xp119 => ?_) (fun h120 v121 frh120 w122 w123 w124 w125 w126 xp127 xp128 xp129 => ?_))
                ·
                  have gh118 : my_fr [(2, 11), (2, 12), (2, 13), (2, 14), (2, 15), (2, 16), (7, 0), (7, 1), (7, 2), (7, 3), (7, 4), (7, 5), (8, 0), (8, 1), (30, -1), (31, -1), (41, -1), (42, -1), (43, -1), (44, -1)] h h118 := my_fr.tr gh98 (frh118.mo rfl)
                  have Ln_h118 : Ln h118 := Ln_ag (my_ag.fr frh118 rfl) Ln_h98
                  show wp l rho (d + 7) 118 198 [(2, 0), (0, x1), (0, x2), (0, x3), (0, x4), (0, x5), (0, x6), (0, v1), (0, v2), (0, v3), (0, v4), (0, 0), (9, 0)] [(0, (-1))] h118 Q
                  have bc_h118 : ∀ k j : Int, 0 ≤ k → k < 94 → h118 k j = h98 k j := fun k j k0 k1 => xp119.2 k j k0 (Or.inl k1)
                  have agP : my_ag F5 h h118 := (my_ag.fr (F := F5) gh118 rfl)
                  refine w_iconst gz_118_198 (by decide) ?_
                  refine w_iceq (t := 206) gz_118_199 rfl (fun u130 => ?_) (fun u130 => by exfalso; omega)
                  refine w_iconst gz_118_206 (by decide) ?_
                  refine w_istore (ls' := [(2, 0), (0, x1), (0, x2), (0, x3), (0, x4), (0, x5), (0, x6), (0, v1), (0, v2), (0, v3), (0, v4), (0, 0), (0, 0)]) gz_118_207 gm_118 rfl rfl rfl ?_
                  refine w_iload gz_118_209 rfl ?_
                  refine w_ifeq (t := 239) gz_118_211 rfl (fun u131 => ?_) (fun u131 => by exfalso; omega)
                  refine w_iload gz_118_239 rfl ?_
                  refine w_ifeq (t := 248) gz_118_241 rfl (fun u132 => ?_) (fun u132 => by exfalso; omega)
                  refine w_iload gz_118_248 rfl ?_
                  refine w_ifeq (t := 257) gz_118_250 rfl (fun u133 => ?_) (fun u133 => by exfalso; omega)
                  refine w_iconst gz_118_257 (by decide) ?_
                  have bfE : ∀ k j : Int, 0 ≤ k → k < 94 → h118 k j = h k j := fun k j k0 k1 => ((bc_h118 k j k0 k1).trans ((bc_h98 k j k0 k1).trans ((bc_h81 k j k0 k1).trans ((my_cp_ne fh78 (by omega)).trans ((my_cp_ne fh74 (by omega)).trans ((my_cp_ne fh68 (by omega)).trans ((my_cp_ne fh64 (by omega)).trans ((bg_fr frh37 (by decide +kernel) k j k0 (Or.inl k1)).trans (bg_fr frh11 (by decide +kernel) k j k0 (Or.inl k1))))))))))
                  exact w_iret gz_118_258 gm_118 (k3 h118 (4) (gh118) (by omega) (by omega) (by omega) (by omega) (by omega) (by omega) (by omega) (by omega) (by first | exact bfE | assumption | omega) Ln_h118)
                ·
                  have gh120 : my_fr [(2, 11), (2, 12), (2, 13), (2, 14), (2, 15), (2, 16), (7, 0), (7, 1), (7, 2), (7, 3), (7, 4), (7, 5), (8, 0), (8, 1), (30, -1), (31, -1), (41, -1), (42, -1), (43, -1), (44, -1)] h h120 := my_fr.tr gh98 (frh120.mo rfl)
                  have Ln_h120 : Ln h120 := Ln_ag (my_ag.fr frh120 rfl) Ln_h98
                  show wp l rho (d + 7) 118 198 [(2, 0), (0, x1), (0, x2), (0, x3), (0, x4), (0, x5), (0, x6), (0, v1), (0, v2), (0, v3), (0, v4), (0, 0), (9, 0)] [(0, v121)] h120 Q
                  have bc_h120 : ∀ k j : Int, 0 ≤ k → k < 94 → h120 k j = h98 k j := fun k j k0 k1 => xp129 k j k0 (Or.inl k1) (by omega)
                  have pp195 := xp128
                  have agP : my_ag F5 h h120 := (my_ag.fr (F := F5) gh120 rfl)
                  refine w_iconst gz_118_198 (by decide) ?_
                  refine w_iceq (t := 206) gz_118_199 rfl (fun u134 => ?_) (fun u134 => ?_)
                  ·
                    refine w_iconst gz_118_206 (by decide) ?_
                    refine w_istore (ls' := [(2, 0), (0, x1), (0, x2), (0, x3), (0, x4), (0, x5), (0, x6), (0, v1), (0, v2), (0, v3), (0, v4), (0, 0), (0, 0)]) gz_118_207 gm_118 rfl rfl rfl ?_
                    refine w_iload gz_118_209 rfl ?_
                    refine w_ifeq (t := 239) gz_118_211 rfl (fun u135 => ?_) (fun u135 => by exfalso; omega)
                    refine w_iload gz_118_239 rfl ?_
                    refine w_ifeq (t := 248) gz_118_241 rfl (fun u136 => ?_) (fun u136 => by exfalso; omega)
                    refine w_iload gz_118_248 rfl ?_
                    refine w_ifeq (t := 257) gz_118_250 rfl (fun u137 => ?_) (fun u137 => by exfalso; omega)
                    refine w_iconst gz_118_257 (by decide) ?_
                    have bfE : ∀ k j : Int, 0 ≤ k → k < 94 → h120 k j = h k j := fun k j k0 k1 => ((bc_h120 k j k0 k1).trans ((bc_h98 k j k0 k1).trans ((bc_h81 k j k0 k1).trans ((my_cp_ne fh78 (by omega)).trans ((my_cp_ne fh74 (by omega)).trans ((my_cp_ne fh68 (by omega)).trans ((my_cp_ne fh64 (by omega)).trans ((bg_fr frh37 (by decide +kernel) k j k0 (Or.inl k1)).trans (bg_fr frh11 (by decide +kernel) k j k0 (Or.inl k1))))))))))
                    exact w_iret gz_118_258 gm_118 (k3 h120 (4) (gh120) (by omega) (by omega) (by omega) (by omega) (by omega) (by omega) (by omega) (by omega) (by first | exact bfE | assumption | omega) Ln_h120)
                  ·
                    refine w_iconst gz_118_202 (by decide) ?_
                    refine w_goto (t := 207) gz_118_203 rfl ?_
                    refine w_istore (ls' := [(2, 0), (0, x1), (0, x2), (0, x3), (0, x4), (0, x5), (0, x6), (0, v1), (0, v2), (0, v3), (0, v4), (0, 0), (0, 1)]) gz_118_207 gm_118 rfl rfl rfl ?_
                    refine w_iload gz_118_209 rfl ?_
                    refine w_ifeq (t := 239) gz_118_211 rfl (fun u138 => ?_) (fun u138 => by exfalso; omega)
                    refine w_iload gz_118_239 rfl ?_
                    refine w_ifeq (t := 248) gz_118_241 rfl (fun u139 => ?_) (fun u139 => by exfalso; omega)
                    refine w_iload gz_118_248 rfl ?_
                    refine w_ifeq (t := 257) gz_118_250 rfl (fun u140 => by exfalso; omega) (fun u140 => ?_)
                    refine w_iconst gz_118_253 (by decide) ?_
                    refine w_goto (t := 258) gz_118_254 rfl ?_
                    have bfE : ∀ k j : Int, 0 ≤ k → k < 94 → h120 k j = h k j := fun k j k0 k1 => ((bc_h120 k j k0 k1).trans ((bc_h98 k j k0 k1).trans ((bc_h81 k j k0 k1).trans ((my_cp_ne fh78 (by omega)).trans ((my_cp_ne fh74 (by omega)).trans ((my_cp_ne fh68 (by omega)).trans ((my_cp_ne fh64 (by omega)).trans ((bg_fr frh37 (by decide +kernel) k j k0 (Or.inl k1)).trans (bg_fr frh11 (by decide +kernel) k j k0 (Or.inl k1))))))))))
                    exact w_iret gz_118_258 gm_118 (k3 h120 (3) (gh120) (by omega) (by omega) (by omega) (by omega) (by omega) (by omega) (by omega) (by omega) (by first | exact bfE | assumption | omega) Ln_h120)
          ·
            have gh83 : my_fr [(2, 11), (2, 12), (2, 13), (2, 14), (2, 15), (2, 16), (7, 0), (7, 1), (7, 2), (7, 3), (7, 4), (7, 5), (8, 0), (8, 1), (30, -1), (31, -1), (41, -1), (42, -1), (43, -1), (44, -1)] h h83 := my_fr.tr gh78 (frh83.mo rfl)
            have Ln_h83 : Ln h83 := Ln_ag (my_ag.fr frh83 rfl) Ln_h78
            show wp l rho (d + 7) 118 121 [(2, 0), (0, x1), (0, x2), (0, x3), (0, x4), (0, x5), (0, x6), (0, v1), (0, v2), (0, v3), (0, v4), (9, 0), (9, 0)] [(0, v84)] h83 Q
            have bc_h83 : ∀ k j : Int, 0 ≤ k → k < 94 → h83 k j = h78 k j := fun k j k0 k1 => xp92 k j k0 (Or.inl k1) (by omega)
            have kx_h83 : ∀ k j : Int, 148 ≤ k → k ≤ 150 → h83 k j = h78 k j := fun k j k0 k1 => xp92 k j (by omega) (Or.inr ⟨by omega, by omega⟩) (by omega)
            have pp118 := xp91
            have agP : my_ag F5 h h83 := (my_ag.fr (F := F5) gh83 rfl)
            refine w_iconst gz_118_121 (by decide) ?_
            refine w_iceq (t := 153) gz_118_122 rfl (fun u141 => ?_) (fun u141 => ?_)
            ·
              refine w_iconst gz_118_153 (by decide) ?_
              refine w_istore (ls' := [(2, 0), (0, x1), (0, x2), (0, x3), (0, x4), (0, x5), (0, x6), (0, v1), (0, v2), (0, v3), (0, v4), (0, 0), (9, 0)]) gz_118_154 gm_118 rfl rfl rfl ?_
              refine w_aload_n gz_118_156 rfl ?_
              refine w_getX (v := 94) gz_118_157 is_0 rd_9 rfl (by decide) rfl ?_
              refine w_aload_n gz_118_160 rfl ?_
              refine w_getX (v := 148) gz_118_161 is_0 rd_9 rfl (by decide) rfl ?_
              refine w_iload gz_118_164 rfl ?_
              refine w_iconst gz_118_166 (by decide) ?_
              refine w_iload gz_118_167 rfl ?_
              refine w_iload gz_118_169 rfl ?_
              refine w_iload gz_118_171 rfl ?_
              have kxB : ∀ k j : Int, 148 ≤ k → k ≤ 150 → h83 k j = h78 k j := fun k j k0 k1 => (kx_h83 k j k0 k1)
              refine w_inv (k := 0) (as := [(0, x6), (0, v4), (0, v3), (0, 0), (0, x4), (2, 148)]) (r := []) (x := 94) (ls0 := [(2, 94), (2, 148), (0, x4), (0, 0), (0, v3), (0, v4), (0, x6)]) gz_118_173 gm_114 rfl is_94 rd_2 rfl rfl rfl rfl rfl (c_Desk_putOn5 (d := d) (x1 := 148) (x2 := x4) (x3 := 0) (x4 := v3) (x5 := v4) (x6 := x6) is_148 Ln_h83 (LwA_ag n_Ln agP hlw) (WOk_cp (y := 148) rfl rfl agP hwo (fun j a b => (kxB 149 j (by omega) (by omega)).trans (w2.1 j a b)) (fun u a b => (kxB 150 u (by omega) (by omega)).trans (w2.2.1 u a b))) ((by unfold zqXf; omega)) (fun h144 frh144 xp145 => ?_) (fun h146 v147 frh146 w148 w149 w150 w151 w152 xp153 xp154 xp155 => ?_))
              ·
                have gh144 : my_fr [(2, 11), (2, 12), (2, 13), (2, 14), (2, 15), (2, 16), (7, 0), (7, 1), (7, 2), (7, 3), (7, 4), (7, 5), (8, 0), (8, 1), (30, -1), (31, -1), (41, -1), (42, -1), (43, -1), (44, -1)] h h144 := my_fr.tr gh83 (frh144.mo rfl)
                have Ln_h144 : Ln h144 := Ln_ag (my_ag.fr frh144 rfl) Ln_h83
                show wp l rho (d + 7) 118 176 [(2, 0), (0, x1), (0, x2), (0, x3), (0, x4), (0, x5), (0, x6), (0, v1), (0, v2), (0, v3), (0, v4), (0, 0), (9, 0)] [(0, (-1))] h144 Q
                have bc_h144 : ∀ k j : Int, 0 ≤ k → k < 94 → h144 k j = h83 k j := fun k j k0 k1 => xp145.2 k j k0 (Or.inl k1)
                have agP : my_ag F5 h h144 := (my_ag.fr (F := F5) gh144 rfl)
                refine w_iconst gz_118_176 (by decide) ?_
                refine w_iceq (t := 206) gz_118_177 rfl (fun u156 => ?_) (fun u156 => by exfalso; omega)
                refine w_iconst gz_118_206 (by decide) ?_
                refine w_istore (ls' := [(2, 0), (0, x1), (0, x2), (0, x3), (0, x4), (0, x5), (0, x6), (0, v1), (0, v2), (0, v3), (0, v4), (0, 0), (0, 0)]) gz_118_207 gm_118 rfl rfl rfl ?_
                refine w_iload gz_118_209 rfl ?_
                refine w_ifeq (t := 239) gz_118_211 rfl (fun u157 => ?_) (fun u157 => by exfalso; omega)
                refine w_iload gz_118_239 rfl ?_
                refine w_ifeq (t := 248) gz_118_241 rfl (fun u158 => ?_) (fun u158 => by exfalso; omega)
                refine w_iload gz_118_248 rfl ?_
                refine w_ifeq (t := 257) gz_118_250 rfl (fun u159 => ?_) (fun u159 => by exfalso; omega)
                refine w_iconst gz_118_257 (by decide) ?_
                have bfE : ∀ k j : Int, 0 ≤ k → k < 94 → h144 k j = h k j := fun k j k0 k1 => ((bc_h144 k j k0 k1).trans ((bc_h83 k j k0 k1).trans ((my_cp_ne fh78 (by omega)).trans ((my_cp_ne fh74 (by omega)).trans ((my_cp_ne fh68 (by omega)).trans ((my_cp_ne fh64 (by omega)).trans ((bg_fr frh37 (by decide +kernel) k j k0 (Or.inl k1)).trans (bg_fr frh11 (by decide +kernel) k j k0 (Or.inl k1)))))))))
                exact w_iret gz_118_258 gm_118 (k3 h144 (4) (gh144) (by omega) (by omega) (by omega) (by omega) (by omega) (by omega) (by omega) (by omega) (by first | exact bfE | assumption | omega) Ln_h144)
              ·
                have gh146 : my_fr [(2, 11), (2, 12), (2, 13), (2, 14), (2, 15), (2, 16), (7, 0), (7, 1), (7, 2), (7, 3), (7, 4), (7, 5), (8, 0), (8, 1), (30, -1), (31, -1), (41, -1), (42, -1), (43, -1), (44, -1)] h h146 := my_fr.tr gh83 (frh146.mo rfl)
                have Ln_h146 : Ln h146 := Ln_ag (my_ag.fr frh146 rfl) Ln_h83
                show wp l rho (d + 7) 118 176 [(2, 0), (0, x1), (0, x2), (0, x3), (0, x4), (0, x5), (0, x6), (0, v1), (0, v2), (0, v3), (0, v4), (0, 0), (9, 0)] [(0, v147)] h146 Q
                have bc_h146 : ∀ k j : Int, 0 ≤ k → k < 94 → h146 k j = h83 k j := fun k j k0 k1 => xp155 k j k0 (Or.inl k1) (by omega)
                have pp173 := xp154
                have agP : my_ag F5 h h146 := (my_ag.fr (F := F5) gh146 rfl)
                refine w_iconst gz_118_176 (by decide) ?_
                refine w_iceq (t := 206) gz_118_177 rfl (fun u160 => ?_) (fun u160 => ?_)
                ·
                  refine w_iconst gz_118_206 (by decide) ?_
                  refine w_istore (ls' := [(2, 0), (0, x1), (0, x2), (0, x3), (0, x4), (0, x5), (0, x6), (0, v1), (0, v2), (0, v3), (0, v4), (0, 0), (0, 0)]) gz_118_207 gm_118 rfl rfl rfl ?_
                  refine w_iload gz_118_209 rfl ?_
                  refine w_ifeq (t := 239) gz_118_211 rfl (fun u161 => ?_) (fun u161 => by exfalso; omega)
                  refine w_iload gz_118_239 rfl ?_
                  refine w_ifeq (t := 248) gz_118_241 rfl (fun u162 => ?_) (fun u162 => by exfalso; omega)
                  refine w_iload gz_118_248 rfl ?_
                  refine w_ifeq (t := 257) gz_118_250 rfl (fun u163 => ?_) (fun u163 => by exfalso; omega)
                  refine w_iconst gz_118_257 (by decide) ?_
                  have bfE : ∀ k j : Int, 0 ≤ k → k < 94 → h146 k j = h k j := fun k j k0 k1 => ((bc_h146 k j k0 k1).trans ((bc_h83 k j k0 k1).trans ((my_cp_ne fh78 (by omega)).trans ((my_cp_ne fh74 (by omega)).trans ((my_cp_ne fh68 (by omega)).trans ((my_cp_ne fh64 (by omega)).trans ((bg_fr frh37 (by decide +kernel) k j k0 (Or.inl k1)).trans (bg_fr frh11 (by decide +kernel) k j k0 (Or.inl k1)))))))))
                  exact w_iret gz_118_258 gm_118 (k3 h146 (4) (gh146) (by omega) (by omega) (by omega) (by omega) (by omega) (by omega) (by omega) (by omega) (by first | exact bfE | assumption | omega) Ln_h146)
                ·
                  refine w_aload_n gz_118_180 rfl ?_
                  refine w_getX (v := 94) gz_118_181 is_0 rd_9 rfl (by decide) rfl ?_
                  refine w_aload_n gz_118_184 rfl ?_
                  refine w_getX (v := 148) gz_118_185 is_0 rd_9 rfl (by decide) rfl ?_
                  refine w_iload_n gz_118_188 rfl ?_
                  refine w_iconst gz_118_189 (by decide) ?_
                  refine w_iload gz_118_190 rfl ?_
                  refine w_iload gz_118_192 rfl ?_
                  refine w_iload_n gz_118_194 rfl ?_
                  refine w_inv (k := 0) (as := [(0, x3), (0, v2), (0, v1), (0, 0), (0, x1), (2, 148)]) (r := []) (x := 94) (ls0 := [(2, 94), (2, 148), (0, x1), (0, 0), (0, v1), (0, v2), (0, x3)]) gz_118_195 gm_114 rfl is_94 rd_2 rfl rfl rfl rfl rfl (c_Desk_putOn5 (d := d) (x1 := 148) (x2 := x1) (x3 := 0) (x4 := v1) (x5 := v2) (x6 := x3) is_148 Ln_h146 (LwA_ag n_Ln agP hlw) (pp173.2) ((by unfold zqXf; omega)) (fun h166 frh166 xp167 => ?_) (fun h168 v169 frh168 w170 w171 w172 w173 w174 xp175 xp176 xp177 => ?_))
                  ·
                    have gh166 : my_fr [(2, 11), (2, 12), (2, 13), (2, 14), (2, 15), (2, 16), (7, 0), (7, 1), (7, 2), (7, 3), (7, 4), (7, 5), (8, 0), (8, 1), (30, -1), (31, -1), (41, -1), (42, -1), (43, -1), (44, -1)] h h166 := my_fr.tr gh146 (frh166.mo rfl)
                    have Ln_h166 : Ln h166 := Ln_ag (my_ag.fr frh166 rfl) Ln_h146
                    show wp l rho (d + 7) 118 198 [(2, 0), (0, x1), (0, x2), (0, x3), (0, x4), (0, x5), (0, x6), (0, v1), (0, v2), (0, v3), (0, v4), (0, 0), (9, 0)] [(0, (-1))] h166 Q
                    have bc_h166 : ∀ k j : Int, 0 ≤ k → k < 94 → h166 k j = h146 k j := fun k j k0 k1 => xp167.2 k j k0 (Or.inl k1)
                    have agP : my_ag F5 h h166 := (my_ag.fr (F := F5) gh166 rfl)
                    refine w_iconst gz_118_198 (by decide) ?_
                    refine w_iceq (t := 206) gz_118_199 rfl (fun u178 => ?_) (fun u178 => by exfalso; omega)
                    refine w_iconst gz_118_206 (by decide) ?_
                    refine w_istore (ls' := [(2, 0), (0, x1), (0, x2), (0, x3), (0, x4), (0, x5), (0, x6), (0, v1), (0, v2), (0, v3), (0, v4), (0, 0), (0, 0)]) gz_118_207 gm_118 rfl rfl rfl ?_
                    refine w_iload gz_118_209 rfl ?_
                    refine w_ifeq (t := 239) gz_118_211 rfl (fun u179 => ?_) (fun u179 => by exfalso; omega)
                    refine w_iload gz_118_239 rfl ?_
                    refine w_ifeq (t := 248) gz_118_241 rfl (fun u180 => ?_) (fun u180 => by exfalso; omega)
                    refine w_iload gz_118_248 rfl ?_
                    refine w_ifeq (t := 257) gz_118_250 rfl (fun u181 => ?_) (fun u181 => by exfalso; omega)
                    refine w_iconst gz_118_257 (by decide) ?_
                    have bfE : ∀ k j : Int, 0 ≤ k → k < 94 → h166 k j = h k j := fun k j k0 k1 => ((bc_h166 k j k0 k1).trans ((bc_h146 k j k0 k1).trans ((bc_h83 k j k0 k1).trans ((my_cp_ne fh78 (by omega)).trans ((my_cp_ne fh74 (by omega)).trans ((my_cp_ne fh68 (by omega)).trans ((my_cp_ne fh64 (by omega)).trans ((bg_fr frh37 (by decide +kernel) k j k0 (Or.inl k1)).trans (bg_fr frh11 (by decide +kernel) k j k0 (Or.inl k1))))))))))
                    exact w_iret gz_118_258 gm_118 (k3 h166 (4) (gh166) (by omega) (by omega) (by omega) (by omega) (by omega) (by omega) (by omega) (by omega) (by first | exact bfE | assumption | omega) Ln_h166)
                  ·
                    have gh168 : my_fr [(2, 11), (2, 12), (2, 13), (2, 14), (2, 15), (2, 16), (7, 0), (7, 1), (7, 2), (7, 3), (7, 4), (7, 5), (8, 0), (8, 1), (30, -1), (31, -1), (41, -1), (42, -1), (43, -1), (44, -1)] h h168 := my_fr.tr gh146 (frh168.mo rfl)
                    have Ln_h168 : Ln h168 := Ln_ag (my_ag.fr frh168 rfl) Ln_h146
                    show wp l rho (d + 7) 118 198 [(2, 0), (0, x1), (0, x2), (0, x3), (0, x4), (0, x5), (0, x6), (0, v1), (0, v2), (0, v3), (0, v4), (0, 0), (9, 0)] [(0, v169)] h168 Q
                    have bc_h168 : ∀ k j : Int, 0 ≤ k → k < 94 → h168 k j = h146 k j := fun k j k0 k1 => xp177 k j k0 (Or.inl k1) (by omega)
                    have pp195 := xp176
                    have agP : my_ag F5 h h168 := (my_ag.fr (F := F5) gh168 rfl)
                    refine w_iconst gz_118_198 (by decide) ?_
                    refine w_iceq (t := 206) gz_118_199 rfl (fun u182 => ?_) (fun u182 => ?_)
                    ·
                      refine w_iconst gz_118_206 (by decide) ?_
                      refine w_istore (ls' := [(2, 0), (0, x1), (0, x2), (0, x3), (0, x4), (0, x5), (0, x6), (0, v1), (0, v2), (0, v3), (0, v4), (0, 0), (0, 0)]) gz_118_207 gm_118 rfl rfl rfl ?_
                      refine w_iload gz_118_209 rfl ?_
                      refine w_ifeq (t := 239) gz_118_211 rfl (fun u183 => ?_) (fun u183 => by exfalso; omega)
                      refine w_iload gz_118_239 rfl ?_
                      refine w_ifeq (t := 248) gz_118_241 rfl (fun u184 => ?_) (fun u184 => by exfalso; omega)
                      refine w_iload gz_118_248 rfl ?_
                      refine w_ifeq (t := 257) gz_118_250 rfl (fun u185 => ?_) (fun u185 => by exfalso; omega)
                      refine w_iconst gz_118_257 (by decide) ?_
                      have bfE : ∀ k j : Int, 0 ≤ k → k < 94 → h168 k j = h k j := fun k j k0 k1 => ((bc_h168 k j k0 k1).trans ((bc_h146 k j k0 k1).trans ((bc_h83 k j k0 k1).trans ((my_cp_ne fh78 (by omega)).trans ((my_cp_ne fh74 (by omega)).trans ((my_cp_ne fh68 (by omega)).trans ((my_cp_ne fh64 (by omega)).trans ((bg_fr frh37 (by decide +kernel) k j k0 (Or.inl k1)).trans (bg_fr frh11 (by decide +kernel) k j k0 (Or.inl k1))))))))))
                      exact w_iret gz_118_258 gm_118 (k3 h168 (4) (gh168) (by omega) (by omega) (by omega) (by omega) (by omega) (by omega) (by omega) (by omega) (by first | exact bfE | assumption | omega) Ln_h168)
                    ·
                      refine w_iconst gz_118_202 (by decide) ?_
                      refine w_goto (t := 207) gz_118_203 rfl ?_
                      refine w_istore (ls' := [(2, 0), (0, x1), (0, x2), (0, x3), (0, x4), (0, x5), (0, x6), (0, v1), (0, v2), (0, v3), (0, v4), (0, 0), (0, 1)]) gz_118_207 gm_118 rfl rfl rfl ?_
                      refine w_iload gz_118_209 rfl ?_
                      refine w_ifeq (t := 239) gz_118_211 rfl (fun u186 => ?_) (fun u186 => by exfalso; omega)
                      refine w_iload gz_118_239 rfl ?_
                      refine w_ifeq (t := 248) gz_118_241 rfl (fun u187 => ?_) (fun u187 => by exfalso; omega)
                      refine w_iload gz_118_248 rfl ?_
                      refine w_ifeq (t := 257) gz_118_250 rfl (fun u188 => by exfalso; omega) (fun u188 => ?_)
                      refine w_iconst gz_118_253 (by decide) ?_
                      refine w_goto (t := 258) gz_118_254 rfl ?_
                      have bfE : ∀ k j : Int, 0 ≤ k → k < 94 → h168 k j = h k j := fun k j k0 k1 => ((bc_h168 k j k0 k1).trans ((bc_h146 k j k0 k1).trans ((bc_h83 k j k0 k1).trans ((my_cp_ne fh78 (by omega)).trans ((my_cp_ne fh74 (by omega)).trans ((my_cp_ne fh68 (by omega)).trans ((my_cp_ne fh64 (by omega)).trans ((bg_fr frh37 (by decide +kernel) k j k0 (Or.inl k1)).trans (bg_fr frh11 (by decide +kernel) k j k0 (Or.inl k1))))))))))
                      exact w_iret gz_118_258 gm_118 (k3 h168 (3) (gh168) (by omega) (by omega) (by omega) (by omega) (by omega) (by omega) (by omega) (by omega) (by first | exact bfE | assumption | omega) Ln_h168)
            ·
              refine w_aload_n gz_118_125 rfl ?_
              refine w_getX (v := 94) gz_118_126 is_0 rd_9 rfl (by decide) rfl ?_
              refine w_aload_n gz_118_129 rfl ?_
              refine w_getX (v := 145) gz_118_130 is_0 rd_9 rfl (by decide) rfl ?_
              refine w_iload gz_118_133 rfl ?_
              refine w_iconst gz_118_135 (by decide) ?_
              refine w_iload gz_118_136 rfl ?_
              refine w_iload gz_118_138 rfl ?_
              refine w_iload gz_118_140 rfl ?_
              refine w_inv (k := 0) (as := [(0, x6), (0, v4), (0, v3), (0, 0), (0, x4), (2, 145)]) (r := []) (x := 94) (ls0 := [(2, 94), (2, 145), (0, x4), (0, 0), (0, v3), (0, v4), (0, x6)]) gz_118_142 gm_114 rfl is_94 rd_2 rfl rfl rfl rfl rfl (c_Desk_putOn5 (d := d) (x1 := 145) (x2 := x4) (x3 := 0) (x4 := v3) (x5 := v4) (x6 := x6) is_145 Ln_h83 (LwA_ag n_Ln agP hlw) (pp118.2) ((by unfold zqXf; omega)) (fun h191 frh191 xp192 => ?_) (fun h193 v194 frh193 w195 w196 w197 w198 w199 xp200 xp201 xp202 => ?_))
              ·
                have gh191 : my_fr [(2, 11), (2, 12), (2, 13), (2, 14), (2, 15), (2, 16), (7, 0), (7, 1), (7, 2), (7, 3), (7, 4), (7, 5), (8, 0), (8, 1), (30, -1), (31, -1), (41, -1), (42, -1), (43, -1), (44, -1)] h h191 := my_fr.tr gh83 (frh191.mo rfl)
                have Ln_h191 : Ln h191 := Ln_ag (my_ag.fr frh191 rfl) Ln_h83
                show wp l rho (d + 7) 118 145 [(2, 0), (0, x1), (0, x2), (0, x3), (0, x4), (0, x5), (0, x6), (0, v1), (0, v2), (0, v3), (0, v4), (9, 0), (9, 0)] [(0, (-1))] h191 Q
                have bc_h191 : ∀ k j : Int, 0 ≤ k → k < 94 → h191 k j = h83 k j := fun k j k0 k1 => xp192.2 k j k0 (Or.inl k1)
                have kx_h191 : ∀ k j : Int, 148 ≤ k → k ≤ 150 → h191 k j = h83 k j := fun k j k0 k1 => xp192.2 k j (by omega) (Or.inr ⟨by omega, by omega⟩)
                have agP : my_ag F5 h h191 := (my_ag.fr (F := F5) gh191 rfl)
                refine w_iconst gz_118_145 (by decide) ?_
                refine w_iceq (t := 153) gz_118_146 rfl (fun u203 => ?_) (fun u203 => by exfalso; omega)
                refine w_iconst gz_118_153 (by decide) ?_
                refine w_istore (ls' := [(2, 0), (0, x1), (0, x2), (0, x3), (0, x4), (0, x5), (0, x6), (0, v1), (0, v2), (0, v3), (0, v4), (0, 0), (9, 0)]) gz_118_154 gm_118 rfl rfl rfl ?_
                refine w_aload_n gz_118_156 rfl ?_
                refine w_getX (v := 94) gz_118_157 is_0 rd_9 rfl (by decide) rfl ?_
                refine w_aload_n gz_118_160 rfl ?_
                refine w_getX (v := 148) gz_118_161 is_0 rd_9 rfl (by decide) rfl ?_
                refine w_iload gz_118_164 rfl ?_
                refine w_iconst gz_118_166 (by decide) ?_
                refine w_iload gz_118_167 rfl ?_
                refine w_iload gz_118_169 rfl ?_
                refine w_iload gz_118_171 rfl ?_
                have kxB : ∀ k j : Int, 148 ≤ k → k ≤ 150 → h191 k j = h78 k j := fun k j k0 k1 => ((kx_h191 k j k0 k1).trans (kx_h83 k j k0 k1))
                refine w_inv (k := 0) (as := [(0, x6), (0, v4), (0, v3), (0, 0), (0, x4), (2, 148)]) (r := []) (x := 94) (ls0 := [(2, 94), (2, 148), (0, x4), (0, 0), (0, v3), (0, v4), (0, x6)]) gz_118_173 gm_114 rfl is_94 rd_2 rfl rfl rfl rfl rfl (c_Desk_putOn5 (d := d) (x1 := 148) (x2 := x4) (x3 := 0) (x4 := v3) (x5 := v4) (x6 := x6) is_148 Ln_h191 (LwA_ag n_Ln agP hlw) (WOk_cp (y := 148) rfl rfl agP hwo (fun j a b => (kxB 149 j (by omega) (by omega)).trans (w2.1 j a b)) (fun u a b => (kxB 150 u (by omega) (by omega)).trans (w2.2.1 u a b))) ((by unfold zqXf; omega)) (fun h206 frh206 xp207 => ?_) (fun h208 v209 frh208 w210 w211 w212 w213 w214 xp215 xp216 xp217 => ?_))
                ·
                  have gh206 : my_fr [(2, 11), (2, 12), (2, 13), (2, 14), (2, 15), (2, 16), (7, 0), (7, 1), (7, 2), (7, 3), (7, 4), (7, 5), (8, 0), (8, 1), (30, -1), (31, -1), (41, -1), (42, -1), (43, -1), (44, -1)] h h206 := my_fr.tr gh191 (frh206.mo rfl)
                  have Ln_h206 : Ln h206 := Ln_ag (my_ag.fr frh206 rfl) Ln_h191
                  show wp l rho (d + 7) 118 176 [(2, 0), (0, x1), (0, x2), (0, x3), (0, x4), (0, x5), (0, x6), (0, v1), (0, v2), (0, v3), (0, v4), (0, 0), (9, 0)] [(0, (-1))] h206 Q
                  have bc_h206 : ∀ k j : Int, 0 ≤ k → k < 94 → h206 k j = h191 k j := fun k j k0 k1 => xp207.2 k j k0 (Or.inl k1)
                  have agP : my_ag F5 h h206 := (my_ag.fr (F := F5) gh206 rfl)
                  refine w_iconst gz_118_176 (by decide) ?_
                  refine w_iceq (t := 206) gz_118_177 rfl (fun u218 => ?_) (fun u218 => by exfalso; omega)
                  refine w_iconst gz_118_206 (by decide) ?_
                  refine w_istore (ls' := [(2, 0), (0, x1), (0, x2), (0, x3), (0, x4), (0, x5), (0, x6), (0, v1), (0, v2), (0, v3), (0, v4), (0, 0), (0, 0)]) gz_118_207 gm_118 rfl rfl rfl ?_
                  refine w_iload gz_118_209 rfl ?_
                  refine w_ifeq (t := 239) gz_118_211 rfl (fun u219 => ?_) (fun u219 => by exfalso; omega)
                  refine w_iload gz_118_239 rfl ?_
                  refine w_ifeq (t := 248) gz_118_241 rfl (fun u220 => ?_) (fun u220 => by exfalso; omega)
                  refine w_iload gz_118_248 rfl ?_
                  refine w_ifeq (t := 257) gz_118_250 rfl (fun u221 => ?_) (fun u221 => by exfalso; omega)
                  refine w_iconst gz_118_257 (by decide) ?_
                  have bfE : ∀ k j : Int, 0 ≤ k → k < 94 → h206 k j = h k j := fun k j k0 k1 => ((bc_h206 k j k0 k1).trans ((bc_h191 k j k0 k1).trans ((bc_h83 k j k0 k1).trans ((my_cp_ne fh78 (by omega)).trans ((my_cp_ne fh74 (by omega)).trans ((my_cp_ne fh68 (by omega)).trans ((my_cp_ne fh64 (by omega)).trans ((bg_fr frh37 (by decide +kernel) k j k0 (Or.inl k1)).trans (bg_fr frh11 (by decide +kernel) k j k0 (Or.inl k1))))))))))
                  exact w_iret gz_118_258 gm_118 (k3 h206 (4) (gh206) (by omega) (by omega) (by omega) (by omega) (by omega) (by omega) (by omega) (by omega) (by first | exact bfE | assumption | omega) Ln_h206)
                ·
                  have gh208 : my_fr [(2, 11), (2, 12), (2, 13), (2, 14), (2, 15), (2, 16), (7, 0), (7, 1), (7, 2), (7, 3), (7, 4), (7, 5), (8, 0), (8, 1), (30, -1), (31, -1), (41, -1), (42, -1), (43, -1), (44, -1)] h h208 := my_fr.tr gh191 (frh208.mo rfl)
                  have Ln_h208 : Ln h208 := Ln_ag (my_ag.fr frh208 rfl) Ln_h191
                  show wp l rho (d + 7) 118 176 [(2, 0), (0, x1), (0, x2), (0, x3), (0, x4), (0, x5), (0, x6), (0, v1), (0, v2), (0, v3), (0, v4), (0, 0), (9, 0)] [(0, v209)] h208 Q
                  have bc_h208 : ∀ k j : Int, 0 ≤ k → k < 94 → h208 k j = h191 k j := fun k j k0 k1 => xp217 k j k0 (Or.inl k1) (by omega)
                  have pp173 := xp216
                  have agP : my_ag F5 h h208 := (my_ag.fr (F := F5) gh208 rfl)
                  refine w_iconst gz_118_176 (by decide) ?_
                  refine w_iceq (t := 206) gz_118_177 rfl (fun u222 => ?_) (fun u222 => ?_)
                  ·
                    refine w_iconst gz_118_206 (by decide) ?_
                    refine w_istore (ls' := [(2, 0), (0, x1), (0, x2), (0, x3), (0, x4), (0, x5), (0, x6), (0, v1), (0, v2), (0, v3), (0, v4), (0, 0), (0, 0)]) gz_118_207 gm_118 rfl rfl rfl ?_
                    refine w_iload gz_118_209 rfl ?_
                    refine w_ifeq (t := 239) gz_118_211 rfl (fun u223 => ?_) (fun u223 => by exfalso; omega)
                    refine w_iload gz_118_239 rfl ?_
                    refine w_ifeq (t := 248) gz_118_241 rfl (fun u224 => ?_) (fun u224 => by exfalso; omega)
                    refine w_iload gz_118_248 rfl ?_
                    refine w_ifeq (t := 257) gz_118_250 rfl (fun u225 => ?_) (fun u225 => by exfalso; omega)
                    refine w_iconst gz_118_257 (by decide) ?_
                    have bfE : ∀ k j : Int, 0 ≤ k → k < 94 → h208 k j = h k j := fun k j k0 k1 => ((bc_h208 k j k0 k1).trans ((bc_h191 k j k0 k1).trans ((bc_h83 k j k0 k1).trans ((my_cp_ne fh78 (by omega)).trans ((my_cp_ne fh74 (by omega)).trans ((my_cp_ne fh68 (by omega)).trans ((my_cp_ne fh64 (by omega)).trans ((bg_fr frh37 (by decide +kernel) k j k0 (Or.inl k1)).trans (bg_fr frh11 (by decide +kernel) k j k0 (Or.inl k1))))))))))
                    exact w_iret gz_118_258 gm_118 (k3 h208 (4) (gh208) (by omega) (by omega) (by omega) (by omega) (by omega) (by omega) (by omega) (by omega) (by first | exact bfE | assumption | omega) Ln_h208)
                  ·
                    refine w_aload_n gz_118_180 rfl ?_
                    refine w_getX (v := 94) gz_118_181 is_0 rd_9 rfl (by decide) rfl ?_
                    refine w_aload_n gz_118_184 rfl ?_
                    refine w_getX (v := 148) gz_118_185 is_0 rd_9 rfl (by decide) rfl ?_
                    refine w_iload_n gz_118_188 rfl ?_
                    refine w_iconst gz_118_189 (by decide) ?_
                    refine w_iload gz_118_190 rfl ?_
                    refine w_iload gz_118_192 rfl ?_
                    refine w_iload_n gz_118_194 rfl ?_
                    refine w_inv (k := 0) (as := [(0, x3), (0, v2), (0, v1), (0, 0), (0, x1), (2, 148)]) (r := []) (x := 94) (ls0 := [(2, 94), (2, 148), (0, x1), (0, 0), (0, v1), (0, v2), (0, x3)]) gz_118_195 gm_114 rfl is_94 rd_2 rfl rfl rfl rfl rfl (c_Desk_putOn5 (d := d) (x1 := 148) (x2 := x1) (x3 := 0) (x4 := v1) (x5 := v2) (x6 := x3) is_148 Ln_h208 (LwA_ag n_Ln agP hlw) (pp173.2) ((by unfold zqXf; omega)) (fun h228 frh228 xp229 => ?_) (fun h230 v231 frh230 w232 w233 w234 w235 w236 xp237 xp238 xp239 => ?_))
                    ·
                      have gh228 : my_fr [(2, 11), (2, 12), (2, 13), (2, 14), (2, 15), (2, 16), (7, 0), (7, 1), (7, 2), (7, 3), (7, 4), (7, 5), (8, 0), (8, 1), (30, -1), (31, -1), (41, -1), (42, -1), (43, -1), (44, -1)] h h228 := my_fr.tr gh208 (frh228.mo rfl)
                      have Ln_h228 : Ln h228 := Ln_ag (my_ag.fr frh228 rfl) Ln_h208
                      show wp l rho (d + 7) 118 198 [(2, 0), (0, x1), (0, x2), (0, x3), (0, x4), (0, x5), (0, x6), (0, v1), (0, v2), (0, v3), (0, v4), (0, 0), (9, 0)] [(0, (-1))] h228 Q
                      have bc_h228 : ∀ k j : Int, 0 ≤ k → k < 94 → h228 k j = h208 k j := fun k j k0 k1 => xp229.2 k j k0 (Or.inl k1)
                      have agP : my_ag F5 h h228 := (my_ag.fr (F := F5) gh228 rfl)
                      refine w_iconst gz_118_198 (by decide) ?_
                      refine w_iceq (t := 206) gz_118_199 rfl (fun u240 => ?_) (fun u240 => by exfalso; omega)
                      refine w_iconst gz_118_206 (by decide) ?_
                      refine w_istore (ls' := [(2, 0), (0, x1), (0, x2), (0, x3), (0, x4), (0, x5), (0, x6), (0, v1), (0, v2), (0, v3), (0, v4), (0, 0), (0, 0)]) gz_118_207 gm_118 rfl rfl rfl ?_
                      refine w_iload gz_118_209 rfl ?_
                      refine w_ifeq (t := 239) gz_118_211 rfl (fun u241 => ?_) (fun u241 => by exfalso; omega)
                      refine w_iload gz_118_239 rfl ?_
                      refine w_ifeq (t := 248) gz_118_241 rfl (fun u242 => ?_) (fun u242 => by exfalso; omega)
                      refine w_iload gz_118_248 rfl ?_
                      refine w_ifeq (t := 257) gz_118_250 rfl (fun u243 => ?_) (fun u243 => by exfalso; omega)
                      refine w_iconst gz_118_257 (by decide) ?_
                      have bfE : ∀ k j : Int, 0 ≤ k → k < 94 → h228 k j = h k j := fun k j k0 k1 => ((bc_h228 k j k0 k1).trans ((bc_h208 k j k0 k1).trans ((bc_h191 k j k0 k1).trans ((bc_h83 k j k0 k1).trans ((my_cp_ne fh78 (by omega)).trans ((my_cp_ne fh74 (by omega)).trans ((my_cp_ne fh68 (by omega)).trans ((my_cp_ne fh64 (by omega)).trans ((bg_fr frh37 (by decide +kernel) k j k0 (Or.inl k1)).trans (bg_fr frh11 (by decide +kernel) k j k0 (Or.inl k1)))))))))))
                      exact w_iret gz_118_258 gm_118 (k3 h228 (4) (gh228) (by omega) (by omega) (by omega) (by omega) (by omega) (by omega) (by omega) (by omega) (by first | exact bfE | assumption | omega) Ln_h228)
                    ·
                      have gh230 : my_fr [(2, 11), (2, 12), (2, 13), (2, 14), (2, 15), (2, 16), (7, 0), (7, 1), (7, 2), (7, 3), (7, 4), (7, 5), (8, 0), (8, 1), (30, -1), (31, -1), (41, -1), (42, -1), (43, -1), (44, -1)] h h230 := my_fr.tr gh208 (frh230.mo rfl)
                      have Ln_h230 : Ln h230 := Ln_ag (my_ag.fr frh230 rfl) Ln_h208
                      show wp l rho (d + 7) 118 198 [(2, 0), (0, x1), (0, x2), (0, x3), (0, x4), (0, x5), (0, x6), (0, v1), (0, v2), (0, v3), (0, v4), (0, 0), (9, 0)] [(0, v231)] h230 Q
                      have bc_h230 : ∀ k j : Int, 0 ≤ k → k < 94 → h230 k j = h208 k j := fun k j k0 k1 => xp239 k j k0 (Or.inl k1) (by omega)
                      have pp195 := xp238
                      have agP : my_ag F5 h h230 := (my_ag.fr (F := F5) gh230 rfl)
                      refine w_iconst gz_118_198 (by decide) ?_
                      refine w_iceq (t := 206) gz_118_199 rfl (fun u244 => ?_) (fun u244 => ?_)
                      ·
                        refine w_iconst gz_118_206 (by decide) ?_
                        refine w_istore (ls' := [(2, 0), (0, x1), (0, x2), (0, x3), (0, x4), (0, x5), (0, x6), (0, v1), (0, v2), (0, v3), (0, v4), (0, 0), (0, 0)]) gz_118_207 gm_118 rfl rfl rfl ?_
                        refine w_iload gz_118_209 rfl ?_
                        refine w_ifeq (t := 239) gz_118_211 rfl (fun u245 => ?_) (fun u245 => by exfalso; omega)
                        refine w_iload gz_118_239 rfl ?_
                        refine w_ifeq (t := 248) gz_118_241 rfl (fun u246 => ?_) (fun u246 => by exfalso; omega)
                        refine w_iload gz_118_248 rfl ?_
                        refine w_ifeq (t := 257) gz_118_250 rfl (fun u247 => ?_) (fun u247 => by exfalso; omega)
                        refine w_iconst gz_118_257 (by decide) ?_
                        have bfE : ∀ k j : Int, 0 ≤ k → k < 94 → h230 k j = h k j := fun k j k0 k1 => ((bc_h230 k j k0 k1).trans ((bc_h208 k j k0 k1).trans ((bc_h191 k j k0 k1).trans ((bc_h83 k j k0 k1).trans ((my_cp_ne fh78 (by omega)).trans ((my_cp_ne fh74 (by omega)).trans ((my_cp_ne fh68 (by omega)).trans ((my_cp_ne fh64 (by omega)).trans ((bg_fr frh37 (by decide +kernel) k j k0 (Or.inl k1)).trans (bg_fr frh11 (by decide +kernel) k j k0 (Or.inl k1)))))))))))
                        exact w_iret gz_118_258 gm_118 (k3 h230 (4) (gh230) (by omega) (by omega) (by omega) (by omega) (by omega) (by omega) (by omega) (by omega) (by first | exact bfE | assumption | omega) Ln_h230)
                      ·
                        refine w_iconst gz_118_202 (by decide) ?_
                        refine w_goto (t := 207) gz_118_203 rfl ?_
                        refine w_istore (ls' := [(2, 0), (0, x1), (0, x2), (0, x3), (0, x4), (0, x5), (0, x6), (0, v1), (0, v2), (0, v3), (0, v4), (0, 0), (0, 1)]) gz_118_207 gm_118 rfl rfl rfl ?_
                        refine w_iload gz_118_209 rfl ?_
                        refine w_ifeq (t := 239) gz_118_211 rfl (fun u248 => ?_) (fun u248 => by exfalso; omega)
                        refine w_iload gz_118_239 rfl ?_
                        refine w_ifeq (t := 248) gz_118_241 rfl (fun u249 => ?_) (fun u249 => by exfalso; omega)
                        refine w_iload gz_118_248 rfl ?_
                        refine w_ifeq (t := 257) gz_118_250 rfl (fun u250 => by exfalso; omega) (fun u250 => ?_)
                        refine w_iconst gz_118_253 (by decide) ?_
                        refine w_goto (t := 258) gz_118_254 rfl ?_
                        have bfE : ∀ k j : Int, 0 ≤ k → k < 94 → h230 k j = h k j := fun k j k0 k1 => ((bc_h230 k j k0 k1).trans ((bc_h208 k j k0 k1).trans ((bc_h191 k j k0 k1).trans ((bc_h83 k j k0 k1).trans ((my_cp_ne fh78 (by omega)).trans ((my_cp_ne fh74 (by omega)).trans ((my_cp_ne fh68 (by omega)).trans ((my_cp_ne fh64 (by omega)).trans ((bg_fr frh37 (by decide +kernel) k j k0 (Or.inl k1)).trans (bg_fr frh11 (by decide +kernel) k j k0 (Or.inl k1)))))))))))
                        exact w_iret gz_118_258 gm_118 (k3 h230 (3) (gh230) (by omega) (by omega) (by omega) (by omega) (by omega) (by omega) (by omega) (by omega) (by first | exact bfE | assumption | omega) Ln_h230)
              ·
                have gh193 : my_fr [(2, 11), (2, 12), (2, 13), (2, 14), (2, 15), (2, 16), (7, 0), (7, 1), (7, 2), (7, 3), (7, 4), (7, 5), (8, 0), (8, 1), (30, -1), (31, -1), (41, -1), (42, -1), (43, -1), (44, -1)] h h193 := my_fr.tr gh83 (frh193.mo rfl)
                have Ln_h193 : Ln h193 := Ln_ag (my_ag.fr frh193 rfl) Ln_h83
                show wp l rho (d + 7) 118 145 [(2, 0), (0, x1), (0, x2), (0, x3), (0, x4), (0, x5), (0, x6), (0, v1), (0, v2), (0, v3), (0, v4), (9, 0), (9, 0)] [(0, v194)] h193 Q
                have bc_h193 : ∀ k j : Int, 0 ≤ k → k < 94 → h193 k j = h83 k j := fun k j k0 k1 => xp202 k j k0 (Or.inl k1) (by omega)
                have kx_h193 : ∀ k j : Int, 148 ≤ k → k ≤ 150 → h193 k j = h83 k j := fun k j k0 k1 => xp202 k j (by omega) (Or.inr ⟨by omega, by omega⟩) (by omega)
                have pp142 := xp201
                have agP : my_ag F5 h h193 := (my_ag.fr (F := F5) gh193 rfl)
                refine w_iconst gz_118_145 (by decide) ?_
                refine w_iceq (t := 153) gz_118_146 rfl (fun u251 => ?_) (fun u251 => ?_)
                ·
                  refine w_iconst gz_118_153 (by decide) ?_
                  refine w_istore (ls' := [(2, 0), (0, x1), (0, x2), (0, x3), (0, x4), (0, x5), (0, x6), (0, v1), (0, v2), (0, v3), (0, v4), (0, 0), (9, 0)]) gz_118_154 gm_118 rfl rfl rfl ?_
                  refine w_aload_n gz_118_156 rfl ?_
                  refine w_getX (v := 94) gz_118_157 is_0 rd_9 rfl (by decide) rfl ?_
                  refine w_aload_n gz_118_160 rfl ?_
                  refine w_getX (v := 148) gz_118_161 is_0 rd_9 rfl (by decide) rfl ?_
                  refine w_iload gz_118_164 rfl ?_
                  refine w_iconst gz_118_166 (by decide) ?_
                  refine w_iload gz_118_167 rfl ?_
                  refine w_iload gz_118_169 rfl ?_
                  refine w_iload gz_118_171 rfl ?_
                  have kxB : ∀ k j : Int, 148 ≤ k → k ≤ 150 → h193 k j = h78 k j := fun k j k0 k1 => ((kx_h193 k j k0 k1).trans (kx_h83 k j k0 k1))
                  refine w_inv (k := 0) (as := [(0, x6), (0, v4), (0, v3), (0, 0), (0, x4), (2, 148)]) (r := []) (x := 94) (ls0 := [(2, 94), (2, 148), (0, x4), (0, 0), (0, v3), (0, v4), (0, x6)]) gz_118_173 gm_114 rfl is_94 rd_2 rfl rfl rfl rfl rfl (c_Desk_putOn5 (d := d) (x1 := 148) (x2 := x4) (x3 := 0) (x4 := v3) (x5 := v4) (x6 := x6) is_148 Ln_h193 (LwA_ag n_Ln agP hlw) (WOk_cp (y := 148) rfl rfl agP hwo (fun j a b => (kxB 149 j (by omega) (by omega)).trans (w2.1 j a b)) (fun u a b => (kxB 150 u (by omega) (by omega)).trans (w2.2.1 u a b))) ((by unfold zqXf; omega)) (fun h254 frh254 xp255 => ?_) (fun h256 v257 frh256 w258 w259 w260 w261 w262 xp263 xp264 xp265 => ?_))
                  ·
                    have gh254 : my_fr [(2, 11), (2, 12), (2, 13), (2, 14), (2, 15), (2, 16), (7, 0), (7, 1), (7, 2), (7, 3), (7, 4), (7, 5), (8, 0), (8, 1), (30, -1), (31, -1), (41, -1), (42, -1), (43, -1), (44, -1)] h h254 := my_fr.tr gh193 (frh254.mo rfl)
                    have Ln_h254 : Ln h254 := Ln_ag (my_ag.fr frh254 rfl) Ln_h193
                    show wp l rho (d + 7) 118 176 [(2, 0), (0, x1), (0, x2), (0, x3), (0, x4), (0, x5), (0, x6), (0, v1), (0, v2), (0, v3), (0, v4), (0, 0), (9, 0)] [(0, (-1))] h254 Q
                    have bc_h254 : ∀ k j : Int, 0 ≤ k → k < 94 → h254 k j = h193 k j := fun k j k0 k1 => xp255.2 k j k0 (Or.inl k1)
                    have agP : my_ag F5 h h254 := (my_ag.fr (F := F5) gh254 rfl)
                    refine w_iconst gz_118_176 (by decide) ?_
                    refine w_iceq (t := 206) gz_118_177 rfl (fun u266 => ?_) (fun u266 => by exfalso; omega)
                    refine w_iconst gz_118_206 (by decide) ?_
                    refine w_istore (ls' := [(2, 0), (0, x1), (0, x2), (0, x3), (0, x4), (0, x5), (0, x6), (0, v1), (0, v2), (0, v3), (0, v4), (0, 0), (0, 0)]) gz_118_207 gm_118 rfl rfl rfl ?_
                    refine w_iload gz_118_209 rfl ?_
                    refine w_ifeq (t := 239) gz_118_211 rfl (fun u267 => ?_) (fun u267 => by exfalso; omega)
                    refine w_iload gz_118_239 rfl ?_
                    refine w_ifeq (t := 248) gz_118_241 rfl (fun u268 => ?_) (fun u268 => by exfalso; omega)
                    refine w_iload gz_118_248 rfl ?_
                    refine w_ifeq (t := 257) gz_118_250 rfl (fun u269 => ?_) (fun u269 => by exfalso; omega)
                    refine w_iconst gz_118_257 (by decide) ?_
                    have bfE : ∀ k j : Int, 0 ≤ k → k < 94 → h254 k j = h k j := fun k j k0 k1 => ((bc_h254 k j k0 k1).trans ((bc_h193 k j k0 k1).trans ((bc_h83 k j k0 k1).trans ((my_cp_ne fh78 (by omega)).trans ((my_cp_ne fh74 (by omega)).trans ((my_cp_ne fh68 (by omega)).trans ((my_cp_ne fh64 (by omega)).trans ((bg_fr frh37 (by decide +kernel) k j k0 (Or.inl k1)).trans (bg_fr frh11 (by decide +kernel) k j k0 (Or.inl k1))))))))))
                    exact w_iret gz_118_258 gm_118 (k3 h254 (4) (gh254) (by omega) (by omega) (by omega) (by omega) (by omega) (by omega) (by omega) (by omega) (by first | exact bfE | assumption | omega) Ln_h254)
                  ·
                    have gh256 : my_fr [(2, 11), (2, 12), (2, 13), (2, 14), (2, 15), (2, 16), (7, 0), (7, 1), (7, 2), (7, 3), (7, 4), (7, 5), (8, 0), (8, 1), (30, -1), (31, -1), (41, -1), (42, -1), (43, -1), (44, -1)] h h256 := my_fr.tr gh193 (frh256.mo rfl)
                    have Ln_h256 : Ln h256 := Ln_ag (my_ag.fr frh256 rfl) Ln_h193
                    show wp l rho (d + 7) 118 176 [(2, 0), (0, x1), (0, x2), (0, x3), (0, x4), (0, x5), (0, x6), (0, v1), (0, v2), (0, v3), (0, v4), (0, 0), (9, 0)] [(0, v257)] h256 Q
                    have bc_h256 : ∀ k j : Int, 0 ≤ k → k < 94 → h256 k j = h193 k j := fun k j k0 k1 => xp265 k j k0 (Or.inl k1) (by omega)
                    have pp173 := xp264
                    have agP : my_ag F5 h h256 := (my_ag.fr (F := F5) gh256 rfl)
                    refine w_iconst gz_118_176 (by decide) ?_
                    refine w_iceq (t := 206) gz_118_177 rfl (fun u270 => ?_) (fun u270 => ?_)
                    ·
                      refine w_iconst gz_118_206 (by decide) ?_
                      refine w_istore (ls' := [(2, 0), (0, x1), (0, x2), (0, x3), (0, x4), (0, x5), (0, x6), (0, v1), (0, v2), (0, v3), (0, v4), (0, 0), (0, 0)]) gz_118_207 gm_118 rfl rfl rfl ?_
                      refine w_iload gz_118_209 rfl ?_
                      refine w_ifeq (t := 239) gz_118_211 rfl (fun u271 => ?_) (fun u271 => by exfalso; omega)
                      refine w_iload gz_118_239 rfl ?_
                      refine w_ifeq (t := 248) gz_118_241 rfl (fun u272 => ?_) (fun u272 => by exfalso; omega)
                      refine w_iload gz_118_248 rfl ?_
                      refine w_ifeq (t := 257) gz_118_250 rfl (fun u273 => ?_) (fun u273 => by exfalso; omega)
                      refine w_iconst gz_118_257 (by decide) ?_
                      have bfE : ∀ k j : Int, 0 ≤ k → k < 94 → h256 k j = h k j := fun k j k0 k1 => ((bc_h256 k j k0 k1).trans ((bc_h193 k j k0 k1).trans ((bc_h83 k j k0 k1).trans ((my_cp_ne fh78 (by omega)).trans ((my_cp_ne fh74 (by omega)).trans ((my_cp_ne fh68 (by omega)).trans ((my_cp_ne fh64 (by omega)).trans ((bg_fr frh37 (by decide +kernel) k j k0 (Or.inl k1)).trans (bg_fr frh11 (by decide +kernel) k j k0 (Or.inl k1))))))))))
                      exact w_iret gz_118_258 gm_118 (k3 h256 (4) (gh256) (by omega) (by omega) (by omega) (by omega) (by omega) (by omega) (by omega) (by omega) (by first | exact bfE | assumption | omega) Ln_h256)
                    ·
                      refine w_aload_n gz_118_180 rfl ?_
                      refine w_getX (v := 94) gz_118_181 is_0 rd_9 rfl (by decide) rfl ?_
                      refine w_aload_n gz_118_184 rfl ?_
                      refine w_getX (v := 148) gz_118_185 is_0 rd_9 rfl (by decide) rfl ?_
                      refine w_iload_n gz_118_188 rfl ?_
                      refine w_iconst gz_118_189 (by decide) ?_
                      refine w_iload gz_118_190 rfl ?_
                      refine w_iload gz_118_192 rfl ?_
                      refine w_iload_n gz_118_194 rfl ?_
                      refine w_inv (k := 0) (as := [(0, x3), (0, v2), (0, v1), (0, 0), (0, x1), (2, 148)]) (r := []) (x := 94) (ls0 := [(2, 94), (2, 148), (0, x1), (0, 0), (0, v1), (0, v2), (0, x3)]) gz_118_195 gm_114 rfl is_94 rd_2 rfl rfl rfl rfl rfl (c_Desk_putOn5 (d := d) (x1 := 148) (x2 := x1) (x3 := 0) (x4 := v1) (x5 := v2) (x6 := x3) is_148 Ln_h256 (LwA_ag n_Ln agP hlw) (pp173.2) ((by unfold zqXf; omega)) (fun h276 frh276 xp277 => ?_) (fun h278 v279 frh278 w280 w281 w282 w283 w284 xp285 xp286 xp287 => ?_))
                      ·
                        have gh276 : my_fr [(2, 11), (2, 12), (2, 13), (2, 14), (2, 15), (2, 16), (7, 0), (7, 1), (7, 2), (7, 3), (7, 4), (7, 5), (8, 0), (8, 1), (30, -1), (31, -1), (41, -1), (42, -1), (43, -1), (44, -1)] h h276 := my_fr.tr gh256 (frh276.mo rfl)
                        have Ln_h276 : Ln h276 := Ln_ag (my_ag.fr frh276 rfl) Ln_h256
                        show wp l rho (d + 7) 118 198 [(2, 0), (0, x1), (0, x2), (0, x3), (0, x4), (0, x5), (0, x6), (0, v1), (0, v2), (0, v3), (0, v4), (0, 0), (9, 0)] [(0, (-1))] h276 Q
                        have bc_h276 : ∀ k j : Int, 0 ≤ k → k < 94 → h276 k j = h256 k j := fun k j k0 k1 => xp277.2 k j k0 (Or.inl k1)
                        have agP : my_ag F5 h h276 := (my_ag.fr (F := F5) gh276 rfl)
                        refine w_iconst gz_118_198 (by decide) ?_
                        refine w_iceq (t := 206) gz_118_199 rfl (fun u288 => ?_) (fun u288 => by exfalso; omega)
                        refine w_iconst gz_118_206 (by decide) ?_
                        refine w_istore (ls' := [(2, 0), (0, x1), (0, x2), (0, x3), (0, x4), (0, x5), (0, x6), (0, v1), (0, v2), (0, v3), (0, v4), (0, 0), (0, 0)]) gz_118_207 gm_118 rfl rfl rfl ?_
                        refine w_iload gz_118_209 rfl ?_
                        refine w_ifeq (t := 239) gz_118_211 rfl (fun u289 => ?_) (fun u289 => by exfalso; omega)
                        refine w_iload gz_118_239 rfl ?_
                        refine w_ifeq (t := 248) gz_118_241 rfl (fun u290 => ?_) (fun u290 => by exfalso; omega)
                        refine w_iload gz_118_248 rfl ?_
                        refine w_ifeq (t := 257) gz_118_250 rfl (fun u291 => ?_) (fun u291 => by exfalso; omega)
                        refine w_iconst gz_118_257 (by decide) ?_
                        have bfE : ∀ k j : Int, 0 ≤ k → k < 94 → h276 k j = h k j := fun k j k0 k1 => ((bc_h276 k j k0 k1).trans ((bc_h256 k j k0 k1).trans ((bc_h193 k j k0 k1).trans ((bc_h83 k j k0 k1).trans ((my_cp_ne fh78 (by omega)).trans ((my_cp_ne fh74 (by omega)).trans ((my_cp_ne fh68 (by omega)).trans ((my_cp_ne fh64 (by omega)).trans ((bg_fr frh37 (by decide +kernel) k j k0 (Or.inl k1)).trans (bg_fr frh11 (by decide +kernel) k j k0 (Or.inl k1)))))))))))
                        exact w_iret gz_118_258 gm_118 (k3 h276 (4) (gh276) (by omega) (by omega) (by omega) (by omega) (by omega) (by omega) (by omega) (by omega) (by first | exact bfE | assumption | omega) Ln_h276)
                      ·
                        have gh278 : my_fr [(2, 11), (2, 12), (2, 13), (2, 14), (2, 15), (2, 16), (7, 0), (7, 1), (7, 2), (7, 3), (7, 4), (7, 5), (8, 0), (8, 1), (30, -1), (31, -1), (41, -1), (42, -1), (43, -1), (44, -1)] h h278 := my_fr.tr gh256 (frh278.mo rfl)
                        have Ln_h278 : Ln h278 := Ln_ag (my_ag.fr frh278 rfl) Ln_h256
                        show wp l rho (d + 7) 118 198 [(2, 0), (0, x1), (0, x2), (0, x3), (0, x4), (0, x5), (0, x6), (0, v1), (0, v2), (0, v3), (0, v4), (0, 0), (9, 0)] [(0, v279)] h278 Q
                        have bc_h278 : ∀ k j : Int, 0 ≤ k → k < 94 → h278 k j = h256 k j := fun k j k0 k1 => xp287 k j k0 (Or.inl k1) (by omega)
                        have pp195 := xp286
                        have agP : my_ag F5 h h278 := (my_ag.fr (F := F5) gh278 rfl)
                        refine w_iconst gz_118_198 (by decide) ?_
                        refine w_iceq (t := 206) gz_118_199 rfl (fun u292 => ?_) (fun u292 => ?_)
                        ·
                          refine w_iconst gz_118_206 (by decide) ?_
                          refine w_istore (ls' := [(2, 0), (0, x1), (0, x2), (0, x3), (0, x4), (0, x5), (0, x6), (0, v1), (0, v2), (0, v3), (0, v4), (0, 0), (0, 0)]) gz_118_207 gm_118 rfl rfl rfl ?_
                          refine w_iload gz_118_209 rfl ?_
                          refine w_ifeq (t := 239) gz_118_211 rfl (fun u293 => ?_) (fun u293 => by exfalso; omega)
                          refine w_iload gz_118_239 rfl ?_
                          refine w_ifeq (t := 248) gz_118_241 rfl (fun u294 => ?_) (fun u294 => by exfalso; omega)
                          refine w_iload gz_118_248 rfl ?_
                          refine w_ifeq (t := 257) gz_118_250 rfl (fun u295 => ?_) (fun u295 => by exfalso; omega)
                          refine w_iconst gz_118_257 (by decide) ?_
                          have bfE : ∀ k j : Int, 0 ≤ k → k < 94 → h278 k j = h k j := fun k j k0 k1 => ((bc_h278 k j k0 k1).trans ((bc_h256 k j k0 k1).trans ((bc_h193 k j k0 k1).trans ((bc_h83 k j k0 k1).trans ((my_cp_ne fh78 (by omega)).trans ((my_cp_ne fh74 (by omega)).trans ((my_cp_ne fh68 (by omega)).trans ((my_cp_ne fh64 (by omega)).trans ((bg_fr frh37 (by decide +kernel) k j k0 (Or.inl k1)).trans (bg_fr frh11 (by decide +kernel) k j k0 (Or.inl k1)))))))))))
                          exact w_iret gz_118_258 gm_118 (k3 h278 (4) (gh278) (by omega) (by omega) (by omega) (by omega) (by omega) (by omega) (by omega) (by omega) (by first | exact bfE | assumption | omega) Ln_h278)
                        ·
                          refine w_iconst gz_118_202 (by decide) ?_
                          refine w_goto (t := 207) gz_118_203 rfl ?_
                          refine w_istore (ls' := [(2, 0), (0, x1), (0, x2), (0, x3), (0, x4), (0, x5), (0, x6), (0, v1), (0, v2), (0, v3), (0, v4), (0, 0), (0, 1)]) gz_118_207 gm_118 rfl rfl rfl ?_
                          refine w_iload gz_118_209 rfl ?_
                          refine w_ifeq (t := 239) gz_118_211 rfl (fun u296 => ?_) (fun u296 => by exfalso; omega)
                          refine w_iload gz_118_239 rfl ?_
                          refine w_ifeq (t := 248) gz_118_241 rfl (fun u297 => ?_) (fun u297 => by exfalso; omega)
                          refine w_iload gz_118_248 rfl ?_
                          refine w_ifeq (t := 257) gz_118_250 rfl (fun u298 => by exfalso; omega) (fun u298 => ?_)
                          refine w_iconst gz_118_253 (by decide) ?_
                          refine w_goto (t := 258) gz_118_254 rfl ?_
                          have bfE : ∀ k j : Int, 0 ≤ k → k < 94 → h278 k j = h k j := fun k j k0 k1 => ((bc_h278 k j k0 k1).trans ((bc_h256 k j k0 k1).trans ((bc_h193 k j k0 k1).trans ((bc_h83 k j k0 k1).trans ((my_cp_ne fh78 (by omega)).trans ((my_cp_ne fh74 (by omega)).trans ((my_cp_ne fh68 (by omega)).trans ((my_cp_ne fh64 (by omega)).trans ((bg_fr frh37 (by decide +kernel) k j k0 (Or.inl k1)).trans (bg_fr frh11 (by decide +kernel) k j k0 (Or.inl k1)))))))))))
                          exact w_iret gz_118_258 gm_118 (k3 h278 (3) (gh278) (by omega) (by omega) (by omega) (by omega) (by omega) (by omega) (by omega) (by omega) (by first | exact bfE | assumption | omega) Ln_h278)
                ·
                  refine w_iconst gz_118_149 (by decide) ?_
                  refine w_goto (t := 154) gz_118_150 rfl ?_
                  refine w_istore (ls' := [(2, 0), (0, x1), (0, x2), (0, x3), (0, x4), (0, x5), (0, x6), (0, v1), (0, v2), (0, v3), (0, v4), (0, 1), (9, 0)]) gz_118_154 gm_118 rfl rfl rfl ?_
                  refine w_aload_n gz_118_156 rfl ?_
                  refine w_getX (v := 94) gz_118_157 is_0 rd_9 rfl (by decide) rfl ?_
                  refine w_aload_n gz_118_160 rfl ?_
                  refine w_getX (v := 148) gz_118_161 is_0 rd_9 rfl (by decide) rfl ?_
                  refine w_iload gz_118_164 rfl ?_
                  refine w_iconst gz_118_166 (by decide) ?_
                  refine w_iload gz_118_167 rfl ?_
                  refine w_iload gz_118_169 rfl ?_
                  refine w_iload gz_118_171 rfl ?_
                  have kxB : ∀ k j : Int, 148 ≤ k → k ≤ 150 → h193 k j = h78 k j := fun k j k0 k1 => ((kx_h193 k j k0 k1).trans (kx_h83 k j k0 k1))
                  refine w_inv (k := 0) (as := [(0, x6), (0, v4), (0, v3), (0, 0), (0, x4), (2, 148)]) (r := []) (x := 94) (ls0 := [(2, 94), (2, 148), (0, x4), (0, 0), (0, v3), (0, v4), (0, x6)]) gz_118_173 gm_114 rfl is_94 rd_2 rfl rfl rfl rfl rfl (c_Desk_putOn5 (d := d) (x1 := 148) (x2 := x4) (x3 := 0) (x4 := v3) (x5 := v4) (x6 := x6) is_148 Ln_h193 (LwA_ag n_Ln agP hlw) (WOk_cp (y := 148) rfl rfl agP hwo (fun j a b => (kxB 149 j (by omega) (by omega)).trans (w2.1 j a b)) (fun u a b => (kxB 150 u (by omega) (by omega)).trans (w2.2.1 u a b))) ((by unfold zqXf; omega)) (fun h301 frh301 xp302 => ?_) (fun h303 v304 frh303 w305 w306 w307 w308 w309 xp310 xp311 xp312 => ?_))
                  ·
                    have gh301 : my_fr [(2, 11), (2, 12), (2, 13), (2, 14), (2, 15), (2, 16), (7, 0), (7, 1), (7, 2), (7, 3), (7, 4), (7, 5), (8, 0), (8, 1), (30, -1), (31, -1), (41, -1), (42, -1), (43, -1), (44, -1)] h h301 := my_fr.tr gh193 (frh301.mo rfl)
                    have Ln_h301 : Ln h301 := Ln_ag (my_ag.fr frh301 rfl) Ln_h193
                    show wp l rho (d + 7) 118 176 [(2, 0), (0, x1), (0, x2), (0, x3), (0, x4), (0, x5), (0, x6), (0, v1), (0, v2), (0, v3), (0, v4), (0, 1), (9, 0)] [(0, (-1))] h301 Q
                    have bc_h301 : ∀ k j : Int, 0 ≤ k → k < 94 → h301 k j = h193 k j := fun k j k0 k1 => xp302.2 k j k0 (Or.inl k1)
                    have agP : my_ag F5 h h301 := (my_ag.fr (F := F5) gh301 rfl)
                    refine w_iconst gz_118_176 (by decide) ?_
                    refine w_iceq (t := 206) gz_118_177 rfl (fun u313 => ?_) (fun u313 => by exfalso; omega)
                    refine w_iconst gz_118_206 (by decide) ?_
                    refine w_istore (ls' := [(2, 0), (0, x1), (0, x2), (0, x3), (0, x4), (0, x5), (0, x6), (0, v1), (0, v2), (0, v3), (0, v4), (0, 1), (0, 0)]) gz_118_207 gm_118 rfl rfl rfl ?_
                    refine w_iload gz_118_209 rfl ?_
                    refine w_ifeq (t := 239) gz_118_211 rfl (fun u314 => by exfalso; omega) (fun u314 => ?_)
                    refine w_iload gz_118_214 rfl ?_
                    refine w_ifeq (t := 239) gz_118_216 rfl (fun u315 => ?_) (fun u315 => by exfalso; omega)
                    refine w_iload gz_118_239 rfl ?_
                    refine w_ifeq (t := 248) gz_118_241 rfl (fun u316 => by exfalso; omega) (fun u316 => ?_)
                    refine w_iconst gz_118_244 (by decide) ?_
                    refine w_goto (t := 258) gz_118_245 rfl ?_
                    have bfE : ∀ k j : Int, 0 ≤ k → k < 94 → h301 k j = h k j := fun k j k0 k1 => ((bc_h301 k j k0 k1).trans ((bc_h193 k j k0 k1).trans ((bc_h83 k j k0 k1).trans ((my_cp_ne fh78 (by omega)).trans ((my_cp_ne fh74 (by omega)).trans ((my_cp_ne fh68 (by omega)).trans ((my_cp_ne fh64 (by omega)).trans ((bg_fr frh37 (by decide +kernel) k j k0 (Or.inl k1)).trans (bg_fr frh11 (by decide +kernel) k j k0 (Or.inl k1))))))))))
                    exact w_iret gz_118_258 gm_118 (k3 h301 (2) (gh301) (by omega) (by omega) (by omega) (by omega) (by omega) (by omega) (by omega) (by omega) (by first | exact bfE | assumption | omega) Ln_h301)
                  ·
                    have gh303 : my_fr [(2, 11), (2, 12), (2, 13), (2, 14), (2, 15), (2, 16), (7, 0), (7, 1), (7, 2), (7, 3), (7, 4), (7, 5), (8, 0), (8, 1), (30, -1), (31, -1), (41, -1), (42, -1), (43, -1), (44, -1)] h h303 := my_fr.tr gh193 (frh303.mo rfl)
                    have Ln_h303 : Ln h303 := Ln_ag (my_ag.fr frh303 rfl) Ln_h193
                    show wp l rho (d + 7) 118 176 [(2, 0), (0, x1), (0, x2), (0, x3), (0, x4), (0, x5), (0, x6), (0, v1), (0, v2), (0, v3), (0, v4), (0, 1), (9, 0)] [(0, v304)] h303 Q
                    have bc_h303 : ∀ k j : Int, 0 ≤ k → k < 94 → h303 k j = h193 k j := fun k j k0 k1 => xp312 k j k0 (Or.inl k1) (by omega)
                    have pp173 := xp311
                    have agP : my_ag F5 h h303 := (my_ag.fr (F := F5) gh303 rfl)
                    refine w_iconst gz_118_176 (by decide) ?_
                    refine w_iceq (t := 206) gz_118_177 rfl (fun u317 => ?_) (fun u317 => ?_)
                    ·
                      refine w_iconst gz_118_206 (by decide) ?_
                      refine w_istore (ls' := [(2, 0), (0, x1), (0, x2), (0, x3), (0, x4), (0, x5), (0, x6), (0, v1), (0, v2), (0, v3), (0, v4), (0, 1), (0, 0)]) gz_118_207 gm_118 rfl rfl rfl ?_
                      refine w_iload gz_118_209 rfl ?_
                      refine w_ifeq (t := 239) gz_118_211 rfl (fun u318 => by exfalso; omega) (fun u318 => ?_)
                      refine w_iload gz_118_214 rfl ?_
                      refine w_ifeq (t := 239) gz_118_216 rfl (fun u319 => ?_) (fun u319 => by exfalso; omega)
                      refine w_iload gz_118_239 rfl ?_
                      refine w_ifeq (t := 248) gz_118_241 rfl (fun u320 => by exfalso; omega) (fun u320 => ?_)
                      refine w_iconst gz_118_244 (by decide) ?_
                      refine w_goto (t := 258) gz_118_245 rfl ?_
                      have bfE : ∀ k j : Int, 0 ≤ k → k < 94 → h303 k j = h k j := fun k j k0 k1 => ((bc_h303 k j k0 k1).trans ((bc_h193 k j k0 k1).trans ((bc_h83 k j k0 k1).trans ((my_cp_ne fh78 (by omega)).trans ((my_cp_ne fh74 (by omega)).trans ((my_cp_ne fh68 (by omega)).trans ((my_cp_ne fh64 (by omega)).trans ((bg_fr frh37 (by decide +kernel) k j k0 (Or.inl k1)).trans (bg_fr frh11 (by decide +kernel) k j k0 (Or.inl k1))))))))))
                      exact w_iret gz_118_258 gm_118 (k3 h303 (2) (gh303) (by omega) (by omega) (by omega) (by omega) (by omega) (by omega) (by omega) (by omega) (by first | exact bfE | assumption | omega) Ln_h303)
                    ·
                      refine w_aload_n gz_118_180 rfl ?_
                      refine w_getX (v := 94) gz_118_181 is_0 rd_9 rfl (by decide) rfl ?_
                      refine w_aload_n gz_118_184 rfl ?_
                      refine w_getX (v := 148) gz_118_185 is_0 rd_9 rfl (by decide) rfl ?_
                      refine w_iload_n gz_118_188 rfl ?_
                      refine w_iconst gz_118_189 (by decide) ?_
                      refine w_iload gz_118_190 rfl ?_
                      refine w_iload gz_118_192 rfl ?_
                      refine w_iload_n gz_118_194 rfl ?_
                      refine w_inv (k := 0) (as := [(0, x3), (0, v2), (0, v1), (0, 0), (0, x1), (2, 148)]) (r := []) (x := 94) (ls0 := [(2, 94), (2, 148), (0, x1), (0, 0), (0, v1), (0, v2), (0, x3)]) gz_118_195 gm_114 rfl is_94 rd_2 rfl rfl rfl rfl rfl (c_Desk_putOn5 (d := d) (x1 := 148) (x2 := x1) (x3 := 0) (x4 := v1) (x5 := v2) (x6 := x3) is_148 Ln_h303 (LwA_ag n_Ln agP hlw) (pp173.2) ((by unfold zqXf; omega)) (fun h323 frh323 xp324 => ?_) (fun h325 v326 frh325 w327 w328 w329 w330 w331 xp332 xp333 xp334 => ?_))
                      ·
                        have gh323 : my_fr [(2, 11), (2, 12), (2, 13), (2, 14), (2, 15), (2, 16), (7, 0), (7, 1), (7, 2), (7, 3), (7, 4), (7, 5), (8, 0), (8, 1), (30, -1), (31, -1), (41, -1), (42, -1), (43, -1), (44, -1)] h h323 := my_fr.tr gh303 (frh323.mo rfl)
                        have Ln_h323 : Ln h323 := Ln_ag (my_ag.fr frh323 rfl) Ln_h303
                        show wp l rho (d + 7) 118 198 [(2, 0), (0, x1), (0, x2), (0, x3), (0, x4), (0, x5), (0, x6), (0, v1), (0, v2), (0, v3), (0, v4), (0, 1), (9, 0)] [(0, (-1))] h323 Q
                        have bc_h323 : ∀ k j : Int, 0 ≤ k → k < 94 → h323 k j = h303 k j := fun k j k0 k1 => xp324.2 k j k0 (Or.inl k1)
                        have agP : my_ag F5 h h323 := (my_ag.fr (F := F5) gh323 rfl)
                        refine w_iconst gz_118_198 (by decide) ?_
                        refine w_iceq (t := 206) gz_118_199 rfl (fun u335 => ?_) (fun u335 => by exfalso; omega)
                        refine w_iconst gz_118_206 (by decide) ?_
                        refine w_istore (ls' := [(2, 0), (0, x1), (0, x2), (0, x3), (0, x4), (0, x5), (0, x6), (0, v1), (0, v2), (0, v3), (0, v4), (0, 1), (0, 0)]) gz_118_207 gm_118 rfl rfl rfl ?_
                        refine w_iload gz_118_209 rfl ?_
                        refine w_ifeq (t := 239) gz_118_211 rfl (fun u336 => by exfalso; omega) (fun u336 => ?_)
                        refine w_iload gz_118_214 rfl ?_
                        refine w_ifeq (t := 239) gz_118_216 rfl (fun u337 => ?_) (fun u337 => by exfalso; omega)
                        refine w_iload gz_118_239 rfl ?_
                        refine w_ifeq (t := 248) gz_118_241 rfl (fun u338 => by exfalso; omega) (fun u338 => ?_)
                        refine w_iconst gz_118_244 (by decide) ?_
                        refine w_goto (t := 258) gz_118_245 rfl ?_
                        have bfE : ∀ k j : Int, 0 ≤ k → k < 94 → h323 k j = h k j := fun k j k0 k1 => ((bc_h323 k j k0 k1).trans ((bc_h303 k j k0 k1).trans ((bc_h193 k j k0 k1).trans ((bc_h83 k j k0 k1).trans ((my_cp_ne fh78 (by omega)).trans ((my_cp_ne fh74 (by omega)).trans ((my_cp_ne fh68 (by omega)).trans ((my_cp_ne fh64 (by omega)).trans ((bg_fr frh37 (by decide +kernel) k j k0 (Or.inl k1)).trans (bg_fr frh11 (by decide +kernel) k j k0 (Or.inl k1)))))))))))
                        exact w_iret gz_118_258 gm_118 (k3 h323 (2) (gh323) (by omega) (by omega) (by omega) (by omega) (by omega) (by omega) (by omega) (by omega) (by first | exact bfE | assumption | omega) Ln_h323)
                      ·
                        have gh325 : my_fr [(2, 11), (2, 12), (2, 13), (2, 14), (2, 15), (2, 16), (7, 0), (7, 1), (7, 2), (7, 3), (7, 4), (7, 5), (8, 0), (8, 1), (30, -1), (31, -1), (41, -1), (42, -1), (43, -1), (44, -1)] h h325 := my_fr.tr gh303 (frh325.mo rfl)
                        have Ln_h325 : Ln h325 := Ln_ag (my_ag.fr frh325 rfl) Ln_h303
                        show wp l rho (d + 7) 118 198 [(2, 0), (0, x1), (0, x2), (0, x3), (0, x4), (0, x5), (0, x6), (0, v1), (0, v2), (0, v3), (0, v4), (0, 1), (9, 0)] [(0, v326)] h325 Q
                        have bc_h325 : ∀ k j : Int, 0 ≤ k → k < 94 → h325 k j = h303 k j := fun k j k0 k1 => xp334 k j k0 (Or.inl k1) (by omega)
                        have pp195 := xp333
                        have agP : my_ag F5 h h325 := (my_ag.fr (F := F5) gh325 rfl)
                        refine w_iconst gz_118_198 (by decide) ?_
                        refine w_iceq (t := 206) gz_118_199 rfl (fun u339 => ?_) (fun u339 => ?_)
                        ·
                          refine w_iconst gz_118_206 (by decide) ?_
                          refine w_istore (ls' := [(2, 0), (0, x1), (0, x2), (0, x3), (0, x4), (0, x5), (0, x6), (0, v1), (0, v2), (0, v3), (0, v4), (0, 1), (0, 0)]) gz_118_207 gm_118 rfl rfl rfl ?_
                          refine w_iload gz_118_209 rfl ?_
                          refine w_ifeq (t := 239) gz_118_211 rfl (fun u340 => by exfalso; omega) (fun u340 => ?_)
                          refine w_iload gz_118_214 rfl ?_
                          refine w_ifeq (t := 239) gz_118_216 rfl (fun u341 => ?_) (fun u341 => by exfalso; omega)
                          refine w_iload gz_118_239 rfl ?_
                          refine w_ifeq (t := 248) gz_118_241 rfl (fun u342 => by exfalso; omega) (fun u342 => ?_)
                          refine w_iconst gz_118_244 (by decide) ?_
                          refine w_goto (t := 258) gz_118_245 rfl ?_
                          have bfE : ∀ k j : Int, 0 ≤ k → k < 94 → h325 k j = h k j := fun k j k0 k1 => ((bc_h325 k j k0 k1).trans ((bc_h303 k j k0 k1).trans ((bc_h193 k j k0 k1).trans ((bc_h83 k j k0 k1).trans ((my_cp_ne fh78 (by omega)).trans ((my_cp_ne fh74 (by omega)).trans ((my_cp_ne fh68 (by omega)).trans ((my_cp_ne fh64 (by omega)).trans ((bg_fr frh37 (by decide +kernel) k j k0 (Or.inl k1)).trans (bg_fr frh11 (by decide +kernel) k j k0 (Or.inl k1)))))))))))
                          exact w_iret gz_118_258 gm_118 (k3 h325 (2) (gh325) (by omega) (by omega) (by omega) (by omega) (by omega) (by omega) (by omega) (by omega) (by first | exact bfE | assumption | omega) Ln_h325)
                        ·
                          refine w_iconst gz_118_202 (by decide) ?_
                          refine w_goto (t := 207) gz_118_203 rfl ?_
                          refine w_istore (ls' := [(2, 0), (0, x1), (0, x2), (0, x3), (0, x4), (0, x5), (0, x6), (0, v1), (0, v2), (0, v3), (0, v4), (0, 1), (0, 1)]) gz_118_207 gm_118 rfl rfl rfl ?_
                          refine w_iload gz_118_209 rfl ?_
                          refine w_ifeq (t := 239) gz_118_211 rfl (fun u343 => by exfalso; omega) (fun u343 => ?_)
                          refine w_iload gz_118_214 rfl ?_
                          refine w_ifeq (t := 239) gz_118_216 rfl (fun u344 => by exfalso; omega) (fun u344 => ?_)
                          refine w_aload_n gz_118_219 rfl ?_
                          refine w_getX (v := 145) gz_118_220 is_0 rd_9 rfl (by decide) rfl ?_
                          refine w_aload_n gz_118_223 rfl ?_
                          refine w_getX (v := 148) gz_118_224 is_0 rd_9 rfl (by decide) rfl ?_
                          refine w_inv (k := 1) (as := [(2, 148)]) (r := []) (x := 145) (ls0 := [(2, 145), (2, 148), (9, 0)]) gz_118_227 gm_116 rfl is_145 rd_6 rfl rfl rfl rfl rfl (c_Rows_same5 (d := (d + 6)) (x0 := 145) (x1 := 148) is_145 is_148 (fun xp347 => ?_) (fun xp348 => ?_))
                          ·
                            show wp l rho (d + 7) 118 230 [(2, 0), (0, x1), (0, x2), (0, x3), (0, x4), (0, x5), (0, x6), (0, v1), (0, v2), (0, v3), (0, v4), (0, 1), (0, 1)] [(0, 0)] h325 Q
                            refine w_ifeq (t := 237) gz_118_230 rfl (fun u349 => ?_) (fun u349 => by exfalso; omega)
                            refine w_iconst gz_118_237 (by decide) ?_
                            have bfE : ∀ k j : Int, 0 ≤ k → k < 94 → h325 k j = h k j := fun k j k0 k1 => ((bc_h325 k j k0 k1).trans ((bc_h303 k j k0 k1).trans ((bc_h193 k j k0 k1).trans ((bc_h83 k j k0 k1).trans ((my_cp_ne fh78 (by omega)).trans ((my_cp_ne fh74 (by omega)).trans ((my_cp_ne fh68 (by omega)).trans ((my_cp_ne fh64 (by omega)).trans ((bg_fr frh37 (by decide +kernel) k j k0 (Or.inl k1)).trans (bg_fr frh11 (by decide +kernel) k j k0 (Or.inl k1)))))))))))
                            exact w_iret gz_118_238 gm_118 (k2 h325 (gh325) (by omega) (by omega) (by omega) (by omega) (by omega) (by omega) (by first | exact bfE | assumption | omega) Ln_h325)
                          ·
                            show wp l rho (d + 7) 118 230 [(2, 0), (0, x1), (0, x2), (0, x3), (0, x4), (0, x5), (0, x6), (0, v1), (0, v2), (0, v3), (0, v4), (0, 1), (0, 1)] [(0, 1)] h325 Q
                            refine w_ifeq (t := 237) gz_118_230 rfl (fun u350 => by exfalso; omega) (fun u350 => ?_)
                            refine w_iconst gz_118_233 (by decide) ?_
                            refine w_goto (t := 238) gz_118_234 rfl ?_
                            have bfE : ∀ k j : Int, 0 ≤ k → k < 94 → h325 k j = h k j := fun k j k0 k1 => ((bc_h325 k j k0 k1).trans ((bc_h303 k j k0 k1).trans ((bc_h193 k j k0 k1).trans ((bc_h83 k j k0 k1).trans ((my_cp_ne fh78 (by omega)).trans ((my_cp_ne fh74 (by omega)).trans ((my_cp_ne fh68 (by omega)).trans ((my_cp_ne fh64 (by omega)).trans ((bg_fr frh37 (by decide +kernel) k j k0 (Or.inl k1)).trans (bg_fr frh11 (by decide +kernel) k j k0 (Or.inl k1)))))))))))
                            exact w_iret gz_118_238 gm_118 (k1 h325 (gh325) (by omega) (by omega) (by omega) (by omega) (by omega) (by omega) (by first | exact bfE | assumption | omega) Ln_h325)
end MYNThroughWindow_clash4
