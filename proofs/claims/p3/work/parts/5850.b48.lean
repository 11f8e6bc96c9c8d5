/-! contracts, printed by wip/gen/gy.py -/
section MYNDesk_isChangeable5
theorem c_Desk_isChangeable5 {l : Launch} {rho : Nat → Int32} {d : Nat} {h : my_H} {Q : my_H → my_V → Prop} {x1 : Int} (t1 : my_is 4 x1) (hc0 : 0 ≤ h 111 2) (k0 : ¬ (0 < h 111 4 ∧ h 111 4 < h 2 (h 111 2) ∧ zqlb (h x1 6) (h 111 2) ∧ zqHas (h 96) (h 111 2) (h 111 3)) → Q h (0, 0)) (k1 : 0 < h 111 4 ∧ h 111 4 < h 2 (h 111 2) ∧ zqlb (h x1 6) (h 111 2) ∧ zqHas (h 96) (h 111 2) (h 111 3) → Q h (0, 1)) : wp l rho (d + 1) 101 0 [(2, 94), (2, x1)] [] h Q := by
  refine v_know (x := 111) (j := 2) (b := 2) rfl is_111 rd_7 rfl (fun k111_2 ek111_2 pk111_2 qk111_2 => ?_)
  refine v_know (x := 111) (j := 3) (b := 3) rfl is_111 rd_7 rfl (fun k111_3 ek111_3 pk111_3 qk111_3 => ?_)
  refine v_know (x := 111) (j := 4) (b := 4) rfl is_111 rd_7 rfl (fun k111_4 ek111_4 pk111_4 qk111_4 => ?_)
  refine w_aload_n gz_101_0 rfl ?_
  refine w_getX (v := 111) gz_101_1 is_94 rd_2 rfl (by decide) rfl ?_
  refine v_getI (j := 4) gz_101_4 rfl is_111 rd_7 rfl (fun v2 ev2 pv2 qv2 => ?_)
  have zv2 := ev2.trans ek111_4.symm
  refine w_ifle (t := 81) gz_101_7 rfl (fun u3 => ?_) (fun u3 => ?_)
  ·
    refine w_iconst gz_101_81 (by decide) ?_
    exact w_bret gz_101_82 gm_101 (by omega) (by omega) (k0 (by first | exact ⟨by omega, by omega, hb.2 (by assumption), by omega, by omega, (by rw [show 80 * h 111 2 + 4 * h 111 3 = 0 by omega]; omega)⟩ | exact (fun z => by have z1 := z.1; have z2 := z.2.1; omega) | exact (fun z => hb.1 (by assumption) z.2.2.1) | exact (fun z => by have z1 := z.2.2.2.1; omega) | exact (fun z => z.2.2.2.2.2 (by rw [show 80 * h 111 2 + 4 * h 111 3 = 0 by omega]; omega)) | assumption | omega))
  ·
    refine w_aload_n gz_101_10 rfl ?_
    refine w_getX (v := 111) gz_101_11 is_94 rd_2 rfl (by decide) rfl ?_
    refine v_getI (j := 4) gz_101_14 rfl is_111 rd_7 rfl (fun v5 ev5 pv5 qv5 => ?_)
    have zv5 := ev5.trans ev2.symm
    refine w_aload_n gz_101_17 rfl ?_
    refine w_getX (v := 1) gz_101_18 is_94 rd_2 rfl (by decide) rfl ?_
    refine w_getX (v := 2) gz_101_21 is_1 rd_3 rfl (by decide) rfl ?_
    refine w_aload_n gz_101_24 rfl ?_
    refine w_getX (v := 111) gz_101_25 is_94 rd_2 rfl (by decide) rfl ?_
    refine v_getI (j := 2) gz_101_28 rfl is_111 rd_7 rfl (fun v9 ev9 pv9 qv9 => ?_)
    have zv9 := ev9.trans ek111_2.symm
    have hi10 : 0 ≤ v9 := by omega
    have hi11 : v9 ≤ 2 := by omega
    refine w_iald gz_101_31 is_2 rd_25 (by omega) (by omega) (fun v12 ev12 pv12 qv12 => ?_)
    have c2 : h 2 (h 111 2) = v12 := by
      rw [show h 111 2 = v9 by omega]
      omega
    refine w_icge (t := 81) gz_101_32 rfl (fun u13 => ?_) (fun u13 => ?_)
    ·
      refine w_iconst gz_101_81 (by decide) ?_
      exact w_bret gz_101_82 gm_101 (by omega) (by omega) (k0 (by first | exact ⟨by omega, by omega, hb.2 (by assumption), by omega, by omega, (by rw [show 80 * h 111 2 + 4 * h 111 3 = v9 by omega]; omega)⟩ | exact (fun z => by have z1 := z.1; have z2 := z.2.1; omega) | exact (fun z => hb.1 (by assumption) z.2.2.1) | exact (fun z => by have z1 := z.2.2.2.1; omega) | exact (fun z => z.2.2.2.2.2 (by rw [show 80 * h 111 2 + 4 * h 111 3 = v9 by omega]; omega)) | assumption | omega))
    ·
      refine w_aload_n gz_101_35 rfl ?_
      refine v_getI (j := 6) gz_101_36 rfl t1 rd_4 rfl (fun v14 ev14 pv14 qv14 => ?_)
      refine w_i2l gz_101_39 ?_
      refine w_aload_n gz_101_40 rfl ?_
      refine w_getX (v := 111) gz_101_41 is_94 rd_2 rfl (by decide) rfl ?_
      refine v_getI (j := 2) gz_101_44 rfl is_111 rd_7 rfl (fun v16 ev16 pv16 qv16 => ?_)
      have zv16 := ev16.trans ev9.symm
      refine w_inS (k := 0) (as := [(0, v16), (1, v14)]) (r := []) (ls0 := [(1, v14), (9, 0), (0, v16)]) gz_101_47 gm_69 rfl rfl rfl rfl rfl rfl ?_
      refine w_lload_n gz_69_0 rfl ?_
      refine w_iload_n gz_69_1 rfl ?_
      refine w_lshrX gz_69_2 (fun v17 ev17 pv17 => ?_)
      refine w_lconst gz_69_3 ?_
      refine w_landX gz_69_4 (fun v18 ev18 pv18 => ?_)
      refine w_lconst gz_69_5 ?_
      refine w_lcmpE gz_69_6 (fun v19 pv19 qv19 xv19 => ?_)
      refine w_ifeq (t := 14) gz_69_7 rfl (fun u20 => ?_) (fun u20 => ?_)
      ·
        refine w_iconst gz_69_14 (by decide) ?_
        refine w_bret gz_69_15 gm_69 (by omega) (by omega) ?_
        show wp l rho (d + 1) 101 50 [(2, 94), (2, x1)] [(0, 0)] h Q
        have hb := hasBit_z (M := h x1 6) (C := h 111 2) (by assumption) (by assumption) (by assumption) (by omega) (by omega) (by omega) (by omega)
        refine w_ifeq (t := 81) gz_101_50 rfl (fun u21 => ?_) (fun u21 => by exfalso; omega)
        refine w_iconst gz_101_81 (by decide) ?_
        exact w_bret gz_101_82 gm_101 (by omega) (by omega) (k0 (by first | exact ⟨by omega, by omega, hb.2 (by assumption), by omega, by omega, (by rw [show 80 * h 111 2 + 4 * h 111 3 = v9 by omega]; omega)⟩ | exact (fun z => by have z1 := z.1; have z2 := z.2.1; omega) | exact (fun z => hb.1 (by assumption) z.2.2.1) | exact (fun z => by have z1 := z.2.2.2.1; omega) | exact (fun z => z.2.2.2.2.2 (by rw [show 80 * h 111 2 + 4 * h 111 3 = v9 by omega]; omega)) | assumption | omega))
      ·
        refine w_iconst gz_69_10 (by decide) ?_
        refine w_goto (t := 15) gz_69_11 rfl ?_
        refine w_bret gz_69_15 gm_69 (by omega) (by omega) ?_
        show wp l rho (d + 1) 101 50 [(2, 94), (2, x1)] [(0, 1)] h Q
        have hb := hasBit_z (M := h x1 6) (C := h 111 2) (by assumption) (by assumption) (by assumption) (by omega) (by omega) (by omega) (by omega)
        refine w_ifeq (t := 81) gz_101_50 rfl (fun u22 => by exfalso; omega) (fun u22 => ?_)
        refine w_aload_n gz_101_53 rfl ?_
        refine w_getX (v := 95) gz_101_54 is_94 rd_2 rfl (by decide) rfl ?_
        refine w_aload_n gz_101_57 rfl ?_
        refine w_getX (v := 111) gz_101_58 is_94 rd_2 rfl (by decide) rfl ?_
        refine v_getI (j := 2) gz_101_61 rfl is_111 rd_7 rfl (fun v25 ev25 pv25 qv25 => ?_)
        have zv25 := ev25.trans ev16.symm
        refine w_aload_n gz_101_64 rfl ?_
        refine w_getX (v := 111) gz_101_65 is_94 rd_2 rfl (by decide) rfl ?_
        refine v_getI (j := 3) gz_101_68 rfl is_111 rd_7 rfl (fun v27 ev27 pv27 qv27 => ?_)
        have zv27 := ev27.trans ek111_3.symm
        refine w_inv (k := 0) (as := [(0, v27), (0, v25)]) (r := []) (x := 95) (ls0 := [(2, 95), (0, v25), (0, v27)]) gz_101_71 gm_15 rfl is_95 rd_6 rfl rfl rfl rfl rfl ?_
        refine w_iload_n gz_15_0 rfl ?_
        refine w_iflt (t := 31) gz_15_1 rfl (fun u28 => ?_) (fun u28 => ?_)
        ·
          refine w_iconst gz_15_31 (by decide) ?_
          refine w_bret gz_15_32 gm_15 (by omega) (by omega) ?_
          show wp l rho (d + 1) 101 74 [(2, 94), (2, x1)] [(0, 0)] h Q
          refine w_ifeq (t := 81) gz_101_74 rfl (fun u29 => ?_) (fun u29 => by exfalso; omega)
          refine w_iconst gz_101_81 (by decide) ?_
          exact w_bret gz_101_82 gm_101 (by omega) (by omega) (k0 (by first | exact ⟨by omega, by omega, hb.2 (by assumption), by omega, by omega, (by rw [show 80 * h 111 2 + 4 * h 111 3 = v9 by omega]; omega)⟩ | exact (fun z => by have z1 := z.1; have z2 := z.2.1; omega) | exact (fun z => hb.1 (by assumption) z.2.2.1) | exact (fun z => by have z1 := z.2.2.2.1; omega) | exact (fun z => z.2.2.2.2.2 (by rw [show 80 * h 111 2 + 4 * h 111 3 = v9 by omega]; omega)) | assumption | omega))
        ·
          refine w_iload_n gz_15_4 rfl ?_
          refine w_bipush gz_15_5 (by decide) ?_
          refine w_icge (t := 31) gz_15_7 rfl (fun u30 => by exfalso; omega) (fun u30 => ?_)
          refine w_aload_n gz_15_10 rfl ?_
          refine w_getX (v := 96) gz_15_11 is_95 rd_6 rfl (by decide) rfl ?_
          refine w_iload_n gz_15_14 rfl ?_
          refine w_bipush gz_15_15 (by decide) ?_
          refine w_imul gz_15_17 ⟨by omega, by omega⟩ ?_
          refine w_iload_n gz_15_18 rfl ?_
          refine w_iadd gz_15_19 ⟨by omega, by omega⟩ ?_
          refine w_iconst gz_15_20 (by decide) ?_
          refine w_imul gz_15_21 ⟨by omega, by omega⟩ ?_
          refine w_iald gz_15_22 is_96 rd_30 (by omega) (by omega) (fun v32 ev32 pv32 qv32 => ?_)
          refine w_iconst gz_15_23 (by decide) ?_
          refine w_iceq (t := 31) gz_15_24 rfl (fun u33 => ?_) (fun u33 => ?_)
          ·
            refine w_iconst gz_15_31 (by decide) ?_
            refine w_bret gz_15_32 gm_15 (by omega) (by omega) ?_
            show wp l rho (d + 1) 101 74 [(2, 94), (2, x1)] [(0, 0)] h Q
            refine w_ifeq (t := 81) gz_101_74 rfl (fun u34 => ?_) (fun u34 => by exfalso; omega)
            refine w_iconst gz_101_81 (by decide) ?_
            exact w_bret gz_101_82 gm_101 (by omega) (by omega) (k0 (by first | exact ⟨by omega, by omega, hb.2 (by assumption), by omega, by omega, (by rw [show 80 * h 111 2 + 4 * h 111 3 = (((v25 * 20) + v27) * 4) by omega]; omega)⟩ | exact (fun z => by have z1 := z.1; have z2 := z.2.1; omega) | exact (fun z => hb.1 (by assumption) z.2.2.1) | exact (fun z => by have z1 := z.2.2.2.1; omega) | exact (fun z => z.2.2.2.2.2 (by rw [show 80 * h 111 2 + 4 * h 111 3 = (((v25 * 20) + v27) * 4) by omega]; omega)) | assumption | omega))
          ·
            refine w_iconst gz_15_27 (by decide) ?_
            refine w_goto (t := 32) gz_15_28 rfl ?_
            refine w_bret gz_15_32 gm_15 (by omega) (by omega) ?_
            show wp l rho (d + 1) 101 74 [(2, 94), (2, x1)] [(0, 1)] h Q
            refine w_ifeq (t := 81) gz_101_74 rfl (fun u35 => by exfalso; omega) (fun u35 => ?_)
            refine w_iconst gz_101_77 (by decide) ?_
            refine w_goto (t := 82) gz_101_78 rfl ?_
            exact w_bret gz_101_82 gm_101 (by omega) (by omega) (k1 (by first | exact ⟨by omega, by omega, hb.2 (by assumption), by omega, by omega, (by rw [show 80 * h 111 2 + 4 * h 111 3 = (((v25 * 20) + v27) * 4) by omega]; omega)⟩ | exact (fun z => by have z1 := z.1; have z2 := z.2.1; omega) | exact (fun z => hb.1 (by assumption) z.2.2.1) | exact (fun z => by have z1 := z.2.2.2.1; omega) | exact (fun z => z.2.2.2.2.2 (by rw [show 80 * h 111 2 + 4 * h 111 3 = (((v25 * 20) + v27) * 4) by omega]; omega)) | assumption | omega))
theorem c_Lens_columnShowing5 {l : Launch} {rho : Nat → Int32} {d : Nat} {h : my_H} {Q : my_H → my_V → Prop} {x0 x1 : Int} (t0 : my_is 4 x0) (a1 : 0 ≤ x1) (b1 : x1 ≤ 3) (k0 : (∀ c : Int, 0 ≤ c → c < h x0 4 → h (x0 + 6) c ≠ 4 * h x0 2 + x1) → Q h (0, (-1))) (k1 : ∀ (y : Int), 0 ≤ y → y ≤ 7 → 1 ≤ h x0 4 → h x0 4 ≤ 8 → h (x0 + 6) y = 4 * h x0 2 + x1 → y < h x0 4 → (∀ c : Int, 0 ≤ c → c < y → h (x0 + 6) c ≠ 4 * h x0 2 + x1) → Q h (0, y)) : wp l rho (d + 1) 107 0 [(2, x0), (0, x1), (9, 0)] [] h Q := by
  have J2_0 : ∀ (n : Nat) (p2_0 : Int), 0 ≤ p2_0 → p2_0 ≤ 8 → (∀ c : Int, 0 ≤ c → c < p2_0 → h (x0 + 6) c ≠ 4 * h x0 2 + x1) → 9 - p2_0 ≤ (n : Int) → wp l rho (d + 1) 107 2 [(2, x0), (0, x1), (0, p2_0)] [] h Q := by
    intro n
    induction n with
    | zero => intro p2_0 q0_2_0 q1_2_0 ne_2_0 hm_2_0; exfalso; omega
    | succ n ih_2_0 =>
      intro p2_0 q0_2_0 q1_2_0 ne_2_0 hm_2_0
      refine w_iload_n gz_107_2 rfl ?_
      refine w_aload_n gz_107_3 rfl ?_
      refine v_getI (j := 4) gz_107_4 rfl t0 rd_4 rfl (fun v1 ev1 pv1 qv1 => ?_)
      refine w_icge (t := 35) gz_107_7 rfl (fun u2 => ?_) (fun u2 => ?_)
      ·
        refine w_iconst gz_107_35 (by decide) ?_
        exact w_iret gz_107_36 gm_107 (k0 (by first | exact (fun c a b => ne_2_0 c a (by omega)) | assumption | omega))
      ·
        refine w_aload_n gz_107_10 rfl ?_
        refine w_getX (v := (x0 + 6)) gz_107_11 t0 rd_4 rfl (by decide) rfl ?_
        refine w_iload_n gz_107_14 rfl ?_
        refine w_iald gz_107_15 (ix_4_6 t0) rd_37 (by omega) (by omega) (fun v4 ev4 pv4 qv4 => ?_)
        refine w_aload_n gz_107_16 rfl ?_
        refine v_getI (j := 2) gz_107_17 rfl t0 rd_4 rfl (fun v5 ev5 pv5 qv5 => ?_)
        refine w_iload_n gz_107_20 rfl ?_
        refine w_inS (k := 0) (as := [(0, x1), (0, v5)]) (r := [(0, v4)]) (ls0 := [(0, v5), (0, x1)]) gz_107_21 gm_29 rfl rfl rfl rfl rfl rfl ?_
        refine w_iload_n gz_29_0 rfl ?_
        refine w_iconst gz_29_1 (by decide) ?_
        refine w_imul gz_29_2 ⟨by omega, by omega⟩ ?_
        refine w_iload_n gz_29_3 rfl ?_
        refine w_iadd gz_29_4 ⟨by omega, by omega⟩ ?_
        refine w_iret gz_29_5 gm_29 ?_
        show wp l rho (d + 1) 107 24 [(2, x0), (0, x1), (0, p2_0)] [(0, ((v5 * 4) + x1)), (0, v4)] h Q
        have c4 : h (x0 + 6) p2_0 = v4 := by omega
        refine w_icne (t := 29) gz_107_24 rfl (fun u6 => ?_) (fun u6 => ?_)
        ·
          refine w_iinc (ls' := [(2, x0), (0, x1), (0, (p2_0 + 1))]) gz_107_29 rfl gm_107 rfl rfl rfl ⟨by omega, by omega⟩ ?_
          refine w_goto (t := 2) gz_107_32 rfl ?_
          exact ih_2_0 ((p2_0 + 1)) (by omega) (by omega) (by first | exact st_0 | exact st_1 ne_2_0 (by omega) | assumption | omega) (by omega)
        ·
          refine w_iload_n gz_107_27 rfl ?_
          have c7 := ev1.symm
          exact w_iret gz_107_28 gm_107 (k1 (p2_0) (by omega) (by omega) (by omega) (by omega) (by first | exact (fun c a b => ne_2_0 c a (by omega)) | assumption | omega) (by first | exact (fun c a b => ne_2_0 c a (by omega)) | assumption | omega) (by first | exact (fun c a b => ne_2_0 c a (by omega)) | assumption | omega))
  refine w_iconst gz_107_0 (by decide) ?_
  refine w_istore_n (ls' := [(2, x0), (0, x1), (0, 0)]) gz_107_1 gm_107 rfl rfl rfl ?_
  exact J2_0 9 (0) (by omega) (by omega) (by first | exact st_0 | exact st_1 ne_2_0 (by omega) | assumption | omega) (by omega)
theorem c_Desk_keep5 {l : Launch} {rho : Nat → Int32} {d : Nat} {h : my_H} {Q : my_H → my_V → Prop} {x1 x2 : Int} (a1 : 0 ≤ x1) (b1 : x1 ≤ 3) (a2 : 0 ≤ x2) (b2 : x2 ≤ 4) (n_Lst : Lst h) (hk1 : x1 = 1 → 0 ≤ h 111 2 ∧ 0 ≤ h 111 3 ∧ 0 ≤ h 111 4 ∧ 0 ≤ h 111 5) (hk2 : x1 = 2 → 0 ≤ h 111 2 ∧ 0 ≤ h 111 3) (hk3 : x1 = 3 → 0 ≤ h 111 2) (hf : 0 ≤ h 94 11 ∧ h 94 11 ≤ 100000) (k0 : ∀ (h' : my_H), my_fr [(2, 11), (7, 0), (7, 1), (7, 2), (7, 3), (7, 4), (7, 5)] h h' → 1 ≤ h' 94 11 → h' 94 11 ≤ 100001 → h' 111 2 = h 111 2 → h' 111 3 = h 111 3 → h' 111 4 = h 111 4 → h' 111 5 = h 111 5 → KpP h h' x1 x2 → Lst h' → Q h' (9, 0)) : wp l rho (d + 1) 94 0 [(2, 94), (0, x1), (0, x2)] [] h Q := by
  refine v_know (x := 111) (j := 2) (b := 2) rfl is_111 rd_7 rfl (fun k111_2 ek111_2 pk111_2 qk111_2 => ?_)
  refine v_know (x := 111) (j := 3) (b := 3) rfl is_111 rd_7 rfl (fun k111_3 ek111_3 pk111_3 qk111_3 => ?_)
  refine v_know (x := 111) (j := 4) (b := 4) rfl is_111 rd_7 rfl (fun k111_4 ek111_4 pk111_4 qk111_4 => ?_)
  refine v_know (x := 111) (j := 5) (b := 5) rfl is_111 rd_7 rfl (fun k111_5 ek111_5 pk111_5 qk111_5 => ?_)
  refine v_know (x := 112) (j := 0) (b := 0) rfl is_112 rd_7 rfl (fun k112_0 ek112_0 pk112_0 qk112_0 => ?_)
  refine v_know (x := 112) (j := 1) (b := 1) rfl is_112 rd_7 rfl (fun k112_1 ek112_1 pk112_1 qk112_1 => ?_)
  refine v_know (x := 112) (j := 2) (b := 2) rfl is_112 rd_7 rfl (fun k112_2 ek112_2 pk112_2 qk112_2 => ?_)
  refine v_know (x := 112) (j := 3) (b := 3) rfl is_112 rd_7 rfl (fun k112_3 ek112_3 pk112_3 qk112_3 => ?_)
  refine v_know (x := 112) (j := 4) (b := 4) rfl is_112 rd_7 rfl (fun k112_4 ek112_4 pk112_4 qk112_4 => ?_)
  refine v_know (x := 112) (j := 5) (b := 5) rfl is_112 rd_7 rfl (fun k112_5 ek112_5 pk112_5 qk112_5 => ?_)
  refine v_know (x := 113) (j := 0) (b := 0) rfl is_113 rd_7 rfl (fun k113_0 ek113_0 pk113_0 qk113_0 => ?_)
  refine v_know (x := 113) (j := 1) (b := 1) rfl is_113 rd_7 rfl (fun k113_1 ek113_1 pk113_1 qk113_1 => ?_)
  refine v_know (x := 113) (j := 2) (b := 2) rfl is_113 rd_7 rfl (fun k113_2 ek113_2 pk113_2 qk113_2 => ?_)
  refine v_know (x := 113) (j := 3) (b := 3) rfl is_113 rd_7 rfl (fun k113_3 ek113_3 pk113_3 qk113_3 => ?_)
  refine v_know (x := 113) (j := 4) (b := 4) rfl is_113 rd_7 rfl (fun k113_4 ek113_4 pk113_4 qk113_4 => ?_)
  refine v_know (x := 113) (j := 5) (b := 5) rfl is_113 rd_7 rfl (fun k113_5 ek113_5 pk113_5 qk113_5 => ?_)
  refine v_know (x := 94) (j := 11) (b := 11) rfl is_94 rd_2 rfl (fun k94_11 ek94_11 pk94_11 qk94_11 => ?_)
  refine v_know (x := 94) (j := 12) (b := 12) rfl is_94 rd_2 rfl (fun k94_12 ek94_12 pk94_12 qk94_12 => ?_)
  refine w_aload_n gz_94_0 rfl ?_
  refine w_getX (v := 111) gz_94_1 is_94 rd_2 rfl (by decide) rfl ?_
  refine w_iload_n gz_94_4 rfl ?_
  refine v_putI (j := 1) gz_94_5 rfl is_111 rd_7 rfl (by omega) (by omega) rfl (fun h2 fh2 => ?_)
  have gh2 : my_fr [(2, 11), (7, 0), (7, 1), (7, 2), (7, 3), (7, 4), (7, 5)] h h2 := my_fr.up my_fr.rf is_111 fh2 rfl
  have Lst_h2 : Lst h2 := Lst_ne fh2 (by decide) n_Lst
  refine w_aload_n gz_94_8 rfl ?_
  refine w_getX (v := 111) gz_94_9 is_94 rd_2 rfl (by decide) rfl ?_
  refine w_iload_n gz_94_12 rfl ?_
  refine v_putA (j := 0) gz_94_13 rfl is_111 rd_7 rfl rfl (fun h4 fh4 => ?_)
  have gh4 : my_fr [(2, 11), (7, 0), (7, 1), (7, 2), (7, 3), (7, 4), (7, 5)] h h4 := my_fr.up gh2 is_111 fh4 rfl
  have Lst_h4 : Lst h4 := Lst_ne fh4 (by decide) Lst_h2
  refine w_aload_n gz_94_16 rfl ?_
  refine w_getX (v := 112) gz_94_17 is_94 rd_2 rfl (by decide) rfl ?_
  refine v_getI (j := 0) gz_94_20 rfl is_112 rd_7 rfl (fun v6 ev6 pv6 qv6 => ?_)
  have zv6 := ev6.trans ((my_up_ne fh4 (by omega)).trans ((my_up_fld fh2 (by decide)).trans ek112_0.symm))
  refine w_iconst gz_94_23 (by decide) ?_
  refine w_iceq (t := 38) gz_94_24 rfl (fun u7 => ?_) (fun u7 => ?_)
  ·
    refine w_aload_n gz_94_38 rfl ?_
    refine w_getX (v := 112) gz_94_39 is_94 rd_2 rfl (by decide) rfl ?_
    refine w_aload_n gz_94_42 rfl ?_
    refine w_getX (v := 111) gz_94_43 is_94 rd_2 rfl (by decide) rfl ?_
    refine w_inv (k := 0) (as := [(2, 111)]) (r := []) (x := 112) (ls0 := [(2, 112), (2, 111)]) gz_94_46 gm_95 rfl is_112 rd_7 rfl rfl rfl rfl rfl ?_
    refine w_aload_n gz_95_0 rfl ?_
    refine w_aload_n gz_95_1 rfl ?_
    refine v_getI (j := 0) gz_95_2 rfl is_111 rd_7 rfl (fun v10 ev10 pv10 qv10 => ?_)
    have zv10 := ev10.trans (my_up_self fh4)
    refine v_putA (j := 0) gz_95_5 rfl is_112 rd_7 rfl rfl (fun h11 fh11 => ?_)
    have gh11 : my_fr [(2, 11), (7, 0), (7, 1), (7, 2), (7, 3), (7, 4), (7, 5)] h h11 := my_fr.up gh4 is_112 fh11 rfl
    refine w_aload_n gz_95_8 rfl ?_
    refine w_aload_n gz_95_9 rfl ?_
    refine v_getI (j := 1) gz_95_10 rfl is_111 rd_7 rfl (fun v12 ev12 pv12 qv12 => ?_)
    have zv12 := ev12.trans ((my_up_fld fh11 (by decide)).trans ((my_up_fld fh4 (by decide)).trans (my_up_self fh2)))
    refine v_putI (j := 1) gz_95_13 rfl is_112 rd_7 rfl (by omega) (by omega) rfl (fun h13 fh13 => ?_)
    have gh13 : my_fr [(2, 11), (7, 0), (7, 1), (7, 2), (7, 3), (7, 4), (7, 5)] h h13 := my_fr.up gh11 is_112 fh13 rfl
    refine w_aload_n gz_95_16 rfl ?_
    refine w_aload_n gz_95_17 rfl ?_
    refine v_getI (j := 2) gz_95_18 rfl is_111 rd_7 rfl (fun v14 ev14 pv14 qv14 => ?_)
    have zv14 := ev14.trans ((my_up_fld fh13 (by decide)).trans ((my_up_fld fh11 (by decide)).trans ((my_up_fld fh4 (by decide)).trans ((my_up_fld fh2 (by decide)).trans ek111_2.symm))))
    refine v_putI (j := 2) gz_95_21 rfl is_112 rd_7 rfl (by omega) (by omega) rfl (fun h15 fh15 => ?_)
    have gh15 : my_fr [(2, 11), (7, 0), (7, 1), (7, 2), (7, 3), (7, 4), (7, 5)] h h15 := my_fr.up gh13 is_112 fh15 rfl
    refine w_aload_n gz_95_24 rfl ?_
    refine w_aload_n gz_95_25 rfl ?_
    refine v_getI (j := 3) gz_95_26 rfl is_111 rd_7 rfl (fun v16 ev16 pv16 qv16 => ?_)
    have zv16 := ev16.trans ((my_up_fld fh15 (by decide)).trans ((my_up_fld fh13 (by decide)).trans ((my_up_fld fh11 (by decide)).trans ((my_up_fld fh4 (by decide)).trans ((my_up_fld fh2 (by decide)).trans ek111_3.symm)))))
    refine v_putI (j := 3) gz_95_29 rfl is_112 rd_7 rfl (by omega) (by omega) rfl (fun h17 fh17 => ?_)
    have gh17 : my_fr [(2, 11), (7, 0), (7, 1), (7, 2), (7, 3), (7, 4), (7, 5)] h h17 := my_fr.up gh15 is_112 fh17 rfl
    refine w_aload_n gz_95_32 rfl ?_
    refine w_aload_n gz_95_33 rfl ?_
    refine v_getI (j := 4) gz_95_34 rfl is_111 rd_7 rfl (fun v18 ev18 pv18 qv18 => ?_)
    have zv18 := ev18.trans ((my_up_fld fh17 (by decide)).trans ((my_up_fld fh15 (by decide)).trans ((my_up_fld fh13 (by decide)).trans ((my_up_fld fh11 (by decide)).trans ((my_up_fld fh4 (by decide)).trans ((my_up_fld fh2 (by decide)).trans ek111_4.symm))))))
    refine v_putI (j := 4) gz_95_37 rfl is_112 rd_7 rfl (by omega) (by omega) rfl (fun h19 fh19 => ?_)
    have gh19 : my_fr [(2, 11), (7, 0), (7, 1), (7, 2), (7, 3), (7, 4), (7, 5)] h h19 := my_fr.up gh17 is_112 fh19 rfl
    refine w_aload_n gz_95_40 rfl ?_
    refine w_aload_n gz_95_41 rfl ?_
    refine v_getI (j := 5) gz_95_42 rfl is_111 rd_7 rfl (fun v20 ev20 pv20 qv20 => ?_)
    have zv20 := ev20.trans ((my_up_fld fh19 (by decide)).trans ((my_up_fld fh17 (by decide)).trans ((my_up_fld fh15 (by decide)).trans ((my_up_fld fh13 (by decide)).trans ((my_up_fld fh11 (by decide)).trans ((my_up_fld fh4 (by decide)).trans ((my_up_fld fh2 (by decide)).trans ek111_5.symm)))))))
    refine v_putI (j := 5) gz_95_45 rfl is_112 rd_7 rfl (by omega) (by omega) rfl (fun h21 fh21 => ?_)
    have gh21 : my_fr [(2, 11), (7, 0), (7, 1), (7, 2), (7, 3), (7, 4), (7, 5)] h h21 := my_fr.up gh19 is_112 fh21 rfl
    refine w_vret gz_95_48 gm_95 ?_
    show wp l rho (d + 1) 94 49 [(2, 94), (0, x1), (0, x2)] [] h21 Q
    refine w_aload_n gz_94_49 rfl ?_
    refine v_getI (j := 11) gz_94_50 rfl is_94 rd_2 rfl (fun v22 ev22 pv22 qv22 => ?_)
    have zv22 := ev22.trans ((my_up_role fh21 is_94 is_112 rfl).trans ((my_up_role fh19 is_94 is_112 rfl).trans ((my_up_role fh17 is_94 is_112 rfl).trans ((my_up_role fh15 is_94 is_112 rfl).trans ((my_up_role fh13 is_94 is_112 rfl).trans ((my_up_role fh11 is_94 is_112 rfl).trans ((my_up_role fh4 is_94 is_111 rfl).trans ((my_up_role fh2 is_94 is_111 rfl).trans ek94_11.symm))))))))
    refine w_aload_n gz_94_53 rfl ?_
    refine v_getI (j := 12) gz_94_54 rfl is_94 rd_2 rfl (fun v23 ev23 pv23 qv23 => ?_)
    have zv23 := ev23.trans ((my_up_role fh21 is_94 is_112 rfl).trans ((my_up_role fh19 is_94 is_112 rfl).trans ((my_up_role fh17 is_94 is_112 rfl).trans ((my_up_role fh15 is_94 is_112 rfl).trans ((my_up_role fh13 is_94 is_112 rfl).trans ((my_up_role fh11 is_94 is_112 rfl).trans ((my_up_role fh4 is_94 is_111 rfl).trans ((my_up_role fh2 is_94 is_111 rfl).trans ek94_12.symm))))))))
    refine w_icne (t := 71) gz_94_57 rfl (fun u24 => ?_) (fun u24 => ?_)
    ·
      refine w_aload_n gz_94_71 rfl ?_
      refine w_dup gz_94_72 rfl ?_
      refine v_getI (j := 11) gz_94_73 rfl is_94 rd_2 rfl (fun v25 ev25 pv25 qv25 => ?_)
      have zv25 := ev25.trans ev22.symm
      refine w_iconst gz_94_76 (by decide) ?_
      have hi26 : 0 ≤ v25 := by omega
      have hi27 : v25 ≤ 100000 := by omega
      refine w_iadd gz_94_77 ⟨by omega, by omega⟩ ?_
      refine v_putA (j := 11) gz_94_78 rfl is_94 rd_2 rfl rfl (fun h28 fh28 => ?_)
      have gh28 : my_fr [(2, 11), (7, 0), (7, 1), (7, 2), (7, 3), (7, 4), (7, 5)] h h28 := my_fr.up gh21 is_94 fh28 rfl
      have ce29 : h28 111 2 = v14 := ((my_up_role fh28 is_111 is_94 rfl).trans ((my_up_fld fh21 (by decide)).trans ((my_up_fld fh19 (by decide)).trans ((my_up_fld fh17 (by decide)).trans ((my_up_ne fh15 (by omega)).trans ev14.symm)))))
      have ce30 : h28 111 3 = v16 := ((my_up_role fh28 is_111 is_94 rfl).trans ((my_up_fld fh21 (by decide)).trans ((my_up_fld fh19 (by decide)).trans ((my_up_ne fh17 (by omega)).trans ev16.symm))))
      have ce31 : h28 111 4 = v18 := ((my_up_role fh28 is_111 is_94 rfl).trans ((my_up_fld fh21 (by decide)).trans ((my_up_ne fh19 (by omega)).trans ev18.symm)))
      have ce32 : h28 111 5 = v20 := ((my_up_role fh28 is_111 is_94 rfl).trans ((my_up_ne fh21 (by omega)).trans ev20.symm))
      have ce33 : h28 112 0 = v10 := ((my_up_role fh28 is_112 is_94 rfl).trans ((my_up_fld fh21 (by decide)).trans ((my_up_fld fh19 (by decide)).trans ((my_up_fld fh17 (by decide)).trans ((my_up_fld fh15 (by decide)).trans ((my_up_fld fh13 (by decide)).trans (my_up_self fh11)))))))
      have ce34 : h28 112 1 = v12 := ((my_up_role fh28 is_112 is_94 rfl).trans ((my_up_fld fh21 (by decide)).trans ((my_up_fld fh19 (by decide)).trans ((my_up_fld fh17 (by decide)).trans ((my_up_fld fh15 (by decide)).trans (my_up_self fh13))))))
      have ce35 : h28 112 2 = v14 := ((my_up_role fh28 is_112 is_94 rfl).trans ((my_up_fld fh21 (by decide)).trans ((my_up_fld fh19 (by decide)).trans ((my_up_fld fh17 (by decide)).trans (my_up_self fh15)))))
      have ce36 : h28 112 3 = v16 := ((my_up_role fh28 is_112 is_94 rfl).trans ((my_up_fld fh21 (by decide)).trans ((my_up_fld fh19 (by decide)).trans (my_up_self fh17))))
      have ce37 : h28 112 4 = v18 := ((my_up_role fh28 is_112 is_94 rfl).trans ((my_up_fld fh21 (by decide)).trans (my_up_self fh19)))
      have ce38 : h28 112 5 = v20 := ((my_up_role fh28 is_112 is_94 rfl).trans (my_up_self fh21))
      have ce39 : h28 113 0 = k113_0 := ((my_up_role fh28 is_113 is_94 rfl).trans ((my_up_fld fh21 (by decide)).trans ((my_up_fld fh19 (by decide)).trans ((my_up_fld fh17 (by decide)).trans ((my_up_fld fh15 (by decide)).trans ((my_up_fld fh13 (by decide)).trans ((my_up_ne fh11 (by omega)).trans ((my_up_ne fh4 (by omega)).trans ((my_up_fld fh2 (by decide)).trans ek113_0.symm)))))))))
      have ce40 : h28 113 1 = k113_1 := ((my_up_role fh28 is_113 is_94 rfl).trans ((my_up_fld fh21 (by decide)).trans ((my_up_fld fh19 (by decide)).trans ((my_up_fld fh17 (by decide)).trans ((my_up_fld fh15 (by decide)).trans ((my_up_ne fh13 (by omega)).trans ((my_up_fld fh11 (by decide)).trans ((my_up_fld fh4 (by decide)).trans ((my_up_ne fh2 (by omega)).trans ek113_1.symm)))))))))
      have ce41 : h28 113 2 = k113_2 := ((my_up_role fh28 is_113 is_94 rfl).trans ((my_up_fld fh21 (by decide)).trans ((my_up_fld fh19 (by decide)).trans ((my_up_fld fh17 (by decide)).trans ((my_up_ne fh15 (by omega)).trans ((my_up_fld fh13 (by decide)).trans ((my_up_fld fh11 (by decide)).trans ((my_up_fld fh4 (by decide)).trans ((my_up_fld fh2 (by decide)).trans ek113_2.symm)))))))))
      have ce42 : h28 113 3 = k113_3 := ((my_up_role fh28 is_113 is_94 rfl).trans ((my_up_fld fh21 (by decide)).trans ((my_up_fld fh19 (by decide)).trans ((my_up_ne fh17 (by omega)).trans ((my_up_fld fh15 (by decide)).trans ((my_up_fld fh13 (by decide)).trans ((my_up_fld fh11 (by decide)).trans ((my_up_fld fh4 (by decide)).trans ((my_up_fld fh2 (by decide)).trans ek113_3.symm)))))))))
      have ce43 : h28 113 4 = k113_4 := ((my_up_role fh28 is_113 is_94 rfl).trans ((my_up_fld fh21 (by decide)).trans ((my_up_ne fh19 (by omega)).trans ((my_up_fld fh17 (by decide)).trans ((my_up_fld fh15 (by decide)).trans ((my_up_fld fh13 (by decide)).trans ((my_up_fld fh11 (by decide)).trans ((my_up_fld fh4 (by decide)).trans ((my_up_fld fh2 (by decide)).trans ek113_4.symm)))))))))
      have ce44 : h28 113 5 = k113_5 := ((my_up_role fh28 is_113 is_94 rfl).trans ((my_up_ne fh21 (by omega)).trans ((my_up_fld fh19 (by decide)).trans ((my_up_fld fh17 (by decide)).trans ((my_up_fld fh15 (by decide)).trans ((my_up_fld fh13 (by decide)).trans ((my_up_fld fh11 (by decide)).trans ((my_up_fld fh4 (by decide)).trans ((my_up_fld fh2 (by decide)).trans ek113_5.symm)))))))))
      have ce45 : h28 94 11 = (v25 + 1) := (my_up_self fh28)
      have ce46 : h28 94 12 = v23 := ((my_up_fld fh28 (by decide)).trans ev23.symm)
      have Lst_h28t47 : Lst h28 := by first | exact Lst_k0 n_Lst (by omega) (by omega) (by omega) (by omega) (by omega) | exact Lst_k1 hk1 hk2 hk3 (by omega) (by omega) (by omega) (by omega) (by omega) | omega
      have c48 := (my_up_self fh28)
      exact w_vret gz_94_81 gm_94 (k0 h28 (gh28) (by omega) (by omega) (by first | exact KpP_mk (by omega) (by omega) (by first | exact Or.inl ⟨Or.inl (by omega), by omega, by omega, by omega, by omega, by omega, by omega⟩ | exact Or.inl ⟨Or.inr (by omega), by omega, by omega, by omega, by omega, by omega, by omega⟩ | exact Or.inr ⟨(fun z => z.elim (fun q => by omega) (fun q => by omega)), by omega, by omega, by omega, by omega, by omega, by omega⟩) (by first | exact Or.inl ⟨by omega, by omega, by omega, by omega, by omega, by omega, by omega⟩ | exact Or.inr ⟨by omega, by omega, by omega, by omega, by omega, by omega, by omega⟩) | assumption | omega) (by first | exact KpP_mk (by omega) (by omega) (by first | exact Or.inl ⟨Or.inl (by omega), by omega, by omega, by omega, by omega, by omega, by omega⟩ | exact Or.inl ⟨Or.inr (by omega), by omega, by omega, by omega, by omega, by omega, by omega⟩ | exact Or.inr ⟨(fun z => z.elim (fun q => by omega) (fun q => by omega)), by omega, by omega, by omega, by omega, by omega, by omega⟩) (by first | exact Or.inl ⟨by omega, by omega, by omega, by omega, by omega, by omega, by omega⟩ | exact Or.inr ⟨by omega, by omega, by omega, by omega, by omega, by omega, by omega⟩) | assumption | omega) (by first | exact KpP_mk (by omega) (by omega) (by first | exact Or.inl ⟨Or.inl (by omega), by omega, by omega, by omega, by omega, by omega, by omega⟩ | exact Or.inl ⟨Or.inr (by omega), by omega, by omega, by omega, by omega, by omega, by omega⟩ | exact Or.inr ⟨(fun z => z.elim (fun q => by omega) (fun q => by omega)), by omega, by omega, by omega, by omega, by omega, by omega⟩) (by first | exact Or.inl ⟨by omega, by omega, by omega, by omega, by omega, by omega, by omega⟩ | exact Or.inr ⟨by omega, by omega, by omega, by omega, by omega, by omega, by omega⟩) | assumption | omega) (by first | exact KpP_mk (by omega) (by omega) (by first | exact Or.inl ⟨Or.inl (by omega), by omega, by omega, by omega, by omega, by omega, by omega⟩ | exact Or.inl ⟨Or.inr (by omega), by omega, by omega, by omega, by omega, by omega, by omega⟩ | exact Or.inr ⟨(fun z => z.elim (fun q => by omega) (fun q => by omega)), by omega, by omega, by omega, by omega, by omega, by omega⟩) (by first | exact Or.inl ⟨by omega, by omega, by omega, by omega, by omega, by omega, by omega⟩ | exact Or.inr ⟨by omega, by omega, by omega, by omega, by omega, by omega, by omega⟩) | assumption | omega) (by first | exact KpP_mk (by omega) (by omega) (by first | exact Or.inl ⟨Or.inl (by omega), by omega, by omega, by omega, by omega, by omega, by omega⟩ | exact Or.inl ⟨Or.inr (by omega), by omega, by omega, by omega, by omega, by omega, by omega⟩ | exact Or.inr ⟨(fun z => z.elim (fun q => by omega) (fun q => by omega)), by omega, by omega, by omega, by omega, by omega, by omega⟩) (by first | exact Or.inl ⟨by omega, by omega, by omega, by omega, by omega, by omega, by omega⟩ | exact Or.inr ⟨by omega, by omega, by omega, by omega, by omega, by omega, by omega⟩) | assumption | omega) Lst_h28t47)
    ·
      refine w_aload_n gz_94_60 rfl ?_
      refine w_getX (v := 113) gz_94_61 is_94 rd_2 rfl (by decide) rfl ?_
      refine w_aload_n gz_94_64 rfl ?_
      refine w_getX (v := 111) gz_94_65 is_94 rd_2 rfl (by decide) rfl ?_
      refine w_inv (k := 0) (as := [(2, 111)]) (r := []) (x := 113) (ls0 := [(2, 113), (2, 111)]) gz_94_68 gm_95 rfl is_113 rd_7 rfl rfl rfl rfl rfl ?_
      refine w_aload_n gz_95_0 rfl ?_
      refine w_aload_n gz_95_1 rfl ?_
      refine v_getI (j := 0) gz_95_2 rfl is_111 rd_7 rfl (fun v51 ev51 pv51 qv51 => ?_)
      have zv51 := ev51.trans ((my_up_fld fh21 (by decide)).trans ((my_up_fld fh19 (by decide)).trans ((my_up_fld fh17 (by decide)).trans ((my_up_fld fh15 (by decide)).trans ((my_up_fld fh13 (by decide)).trans ((my_up_ne fh11 (by omega)).trans ev10.symm))))))
      refine v_putA (j := 0) gz_95_5 rfl is_113 rd_7 rfl rfl (fun h52 fh52 => ?_)
      have gh52 : my_fr [(2, 11), (7, 0), (7, 1), (7, 2), (7, 3), (7, 4), (7, 5)] h h52 := my_fr.up gh21 is_113 fh52 rfl
      refine w_aload_n gz_95_8 rfl ?_
      refine w_aload_n gz_95_9 rfl ?_
      refine v_getI (j := 1) gz_95_10 rfl is_111 rd_7 rfl (fun v53 ev53 pv53 qv53 => ?_)
      have zv53 := ev53.trans ((my_up_fld fh52 (by decide)).trans ((my_up_fld fh21 (by decide)).trans ((my_up_fld fh19 (by decide)).trans ((my_up_fld fh17 (by decide)).trans ((my_up_fld fh15 (by decide)).trans ((my_up_ne fh13 (by omega)).trans ev12.symm))))))
      refine v_putI (j := 1) gz_95_13 rfl is_113 rd_7 rfl (by omega) (by omega) rfl (fun h54 fh54 => ?_)
      have gh54 : my_fr [(2, 11), (7, 0), (7, 1), (7, 2), (7, 3), (7, 4), (7, 5)] h h54 := my_fr.up gh52 is_113 fh54 rfl
      refine w_aload_n gz_95_16 rfl ?_
      refine w_aload_n gz_95_17 rfl ?_
      refine v_getI (j := 2) gz_95_18 rfl is_111 rd_7 rfl (fun v55 ev55 pv55 qv55 => ?_)
      have zv55 := ev55.trans ((my_up_fld fh54 (by decide)).trans ((my_up_fld fh52 (by decide)).trans ((my_up_fld fh21 (by decide)).trans ((my_up_fld fh19 (by decide)).trans ((my_up_fld fh17 (by decide)).trans ((my_up_ne fh15 (by omega)).trans ev14.symm))))))
      refine v_putI (j := 2) gz_95_21 rfl is_113 rd_7 rfl (by omega) (by omega) rfl (fun h56 fh56 => ?_)
      have gh56 : my_fr [(2, 11), (7, 0), (7, 1), (7, 2), (7, 3), (7, 4), (7, 5)] h h56 := my_fr.up gh54 is_113 fh56 rfl
      refine w_aload_n gz_95_24 rfl ?_
      refine w_aload_n gz_95_25 rfl ?_
      refine v_getI (j := 3) gz_95_26 rfl is_111 rd_7 rfl (fun v57 ev57 pv57 qv57 => ?_)
      have zv57 := ev57.trans ((my_up_fld fh56 (by decide)).trans ((my_up_fld fh54 (by decide)).trans ((my_up_fld fh52 (by decide)).trans ((my_up_fld fh21 (by decide)).trans ((my_up_fld fh19 (by decide)).trans ((my_up_ne fh17 (by omega)).trans ev16.symm))))))
      refine v_putI (j := 3) gz_95_29 rfl is_113 rd_7 rfl (by omega) (by omega) rfl (fun h58 fh58 => ?_)
      have gh58 : my_fr [(2, 11), (7, 0), (7, 1), (7, 2), (7, 3), (7, 4), (7, 5)] h h58 := my_fr.up gh56 is_113 fh58 rfl
      refine w_aload_n gz_95_32 rfl ?_
      refine w_aload_n gz_95_33 rfl ?_
      refine v_getI (j := 4) gz_95_34 rfl is_111 rd_7 rfl (fun v59 ev59 pv59 qv59 => ?_)
      have zv59 := ev59.trans ((my_up_fld fh58 (by decide)).trans ((my_up_fld fh56 (by decide)).trans ((my_up_fld fh54 (by decide)).trans ((my_up_fld fh52 (by decide)).trans ((my_up_fld fh21 (by decide)).trans ((my_up_ne fh19 (by omega)).trans ev18.symm))))))
      refine v_putI (j := 4) gz_95_37 rfl is_113 rd_7 rfl (by omega) (by omega) rfl (fun h60 fh60 => ?_)
      have gh60 : my_fr [(2, 11), (7, 0), (7, 1), (7, 2), (7, 3), (7, 4), (7, 5)] h h60 := my_fr.up gh58 is_113 fh60 rfl
      refine w_aload_n gz_95_40 rfl ?_
      refine w_aload_n gz_95_41 rfl ?_
      refine v_getI (j := 5) gz_95_42 rfl is_111 rd_7 rfl (fun v61 ev61 pv61 qv61 => ?_)
      have zv61 := ev61.trans ((my_up_fld fh60 (by decide)).trans ((my_up_fld fh58 (by decide)).trans ((my_up_fld fh56 (by decide)).trans ((my_up_fld fh54 (by decide)).trans ((my_up_fld fh52 (by decide)).trans ((my_up_ne fh21 (by omega)).trans ev20.symm))))))
      refine v_putI (j := 5) gz_95_45 rfl is_113 rd_7 rfl (by omega) (by omega) rfl (fun h62 fh62 => ?_)
      have gh62 : my_fr [(2, 11), (7, 0), (7, 1), (7, 2), (7, 3), (7, 4), (7, 5)] h h62 := my_fr.up gh60 is_113 fh62 rfl
      refine w_vret gz_95_48 gm_95 ?_
      show wp l rho (d + 1) 94 71 [(2, 94), (0, x1), (0, x2)] [] h62 Q
      refine w_aload_n gz_94_71 rfl ?_
      refine w_dup gz_94_72 rfl ?_
      refine v_getI (j := 11) gz_94_73 rfl is_94 rd_2 rfl (fun v63 ev63 pv63 qv63 => ?_)
      have zv63 := ev63.trans ((my_up_role fh62 is_94 is_113 rfl).trans ((my_up_role fh60 is_94 is_113 rfl).trans ((my_up_role fh58 is_94 is_113 rfl).trans ((my_up_role fh56 is_94 is_113 rfl).trans ((my_up_role fh54 is_94 is_113 rfl).trans ((my_up_role fh52 is_94 is_113 rfl).trans ev22.symm))))))
      refine w_iconst gz_94_76 (by decide) ?_
      have hi64 : 0 ≤ v63 := by omega
      have hi65 : v63 ≤ 100000 := by omega
      refine w_iadd gz_94_77 ⟨by omega, by omega⟩ ?_
      refine v_putA (j := 11) gz_94_78 rfl is_94 rd_2 rfl rfl (fun h66 fh66 => ?_)
      have gh66 : my_fr [(2, 11), (7, 0), (7, 1), (7, 2), (7, 3), (7, 4), (7, 5)] h h66 := my_fr.up gh62 is_94 fh66 rfl
      have ce67 : h66 111 2 = v55 := ((my_up_role fh66 is_111 is_94 rfl).trans ((my_up_fld fh62 (by decide)).trans ((my_up_fld fh60 (by decide)).trans ((my_up_fld fh58 (by decide)).trans ((my_up_ne fh56 (by omega)).trans ev55.symm)))))
      have ce68 : h66 111 3 = v57 := ((my_up_role fh66 is_111 is_94 rfl).trans ((my_up_fld fh62 (by decide)).trans ((my_up_fld fh60 (by decide)).trans ((my_up_ne fh58 (by omega)).trans ev57.symm))))
      have ce69 : h66 111 4 = v59 := ((my_up_role fh66 is_111 is_94 rfl).trans ((my_up_fld fh62 (by decide)).trans ((my_up_ne fh60 (by omega)).trans ev59.symm)))
      have ce70 : h66 111 5 = v61 := ((my_up_role fh66 is_111 is_94 rfl).trans ((my_up_ne fh62 (by omega)).trans ev61.symm))
      have ce71 : h66 112 0 = v10 := ((my_up_role fh66 is_112 is_94 rfl).trans ((my_up_fld fh62 (by decide)).trans ((my_up_fld fh60 (by decide)).trans ((my_up_fld fh58 (by decide)).trans ((my_up_fld fh56 (by decide)).trans ((my_up_fld fh54 (by decide)).trans ((my_up_ne fh52 (by omega)).trans ((my_up_fld fh21 (by decide)).trans ((my_up_fld fh19 (by decide)).trans ((my_up_fld fh17 (by decide)).trans ((my_up_fld fh15 (by decide)).trans ((my_up_fld fh13 (by decide)).trans (my_up_self fh11)))))))))))))
      have ce72 : h66 112 1 = v12 := ((my_up_role fh66 is_112 is_94 rfl).trans ((my_up_fld fh62 (by decide)).trans ((my_up_fld fh60 (by decide)).trans ((my_up_fld fh58 (by decide)).trans ((my_up_fld fh56 (by decide)).trans ((my_up_ne fh54 (by omega)).trans ((my_up_fld fh52 (by decide)).trans ((my_up_fld fh21 (by decide)).trans ((my_up_fld fh19 (by decide)).trans ((my_up_fld fh17 (by decide)).trans ((my_up_fld fh15 (by decide)).trans (my_up_self fh13))))))))))))
      have ce73 : h66 112 2 = v14 := ((my_up_role fh66 is_112 is_94 rfl).trans ((my_up_fld fh62 (by decide)).trans ((my_up_fld fh60 (by decide)).trans ((my_up_fld fh58 (by decide)).trans ((my_up_ne fh56 (by omega)).trans ((my_up_fld fh54 (by decide)).trans ((my_up_fld fh52 (by decide)).trans ((my_up_fld fh21 (by decide)).trans ((my_up_fld fh19 (by decide)).trans ((my_up_fld fh17 (by decide)).trans (my_up_self fh15)))))))))))
      have ce74 : h66 112 3 = v16 := ((my_up_role fh66 is_112 is_94 rfl).trans ((my_up_fld fh62 (by decide)).trans ((my_up_fld fh60 (by decide)).trans ((my_up_ne fh58 (by omega)).trans ((my_up_fld fh56 (by decide)).trans ((my_up_fld fh54 (by decide)).trans ((my_up_fld fh52 (by decide)).trans ((my_up_fld fh21 (by decide)).trans ((my_up_fld fh19 (by decide)).trans (my_up_self fh17))))))))))
      have ce75 : h66 112 4 = v18 := ((my_up_role fh66 is_112 is_94 rfl).trans ((my_up_fld fh62 (by decide)).trans ((my_up_ne fh60 (by omega)).trans ((my_up_fld fh58 (by decide)).trans ((my_up_fld fh56 (by decide)).trans ((my_up_fld fh54 (by decide)).trans ((my_up_fld fh52 (by decide)).trans ((my_up_fld fh21 (by decide)).trans (my_up_self fh19)))))))))
      have ce76 : h66 112 5 = v20 := ((my_up_role fh66 is_112 is_94 rfl).trans ((my_up_ne fh62 (by omega)).trans ((my_up_fld fh60 (by decide)).trans ((my_up_fld fh58 (by decide)).trans ((my_up_fld fh56 (by decide)).trans ((my_up_fld fh54 (by decide)).trans ((my_up_fld fh52 (by decide)).trans (my_up_self fh21))))))))
      have ce77 : h66 113 0 = v51 := ((my_up_role fh66 is_113 is_94 rfl).trans ((my_up_fld fh62 (by decide)).trans ((my_up_fld fh60 (by decide)).trans ((my_up_fld fh58 (by decide)).trans ((my_up_fld fh56 (by decide)).trans ((my_up_fld fh54 (by decide)).trans (my_up_self fh52)))))))
      have ce78 : h66 113 1 = v53 := ((my_up_role fh66 is_113 is_94 rfl).trans ((my_up_fld fh62 (by decide)).trans ((my_up_fld fh60 (by decide)).trans ((my_up_fld fh58 (by decide)).trans ((my_up_fld fh56 (by decide)).trans (my_up_self fh54))))))
      have ce79 : h66 113 2 = v55 := ((my_up_role fh66 is_113 is_94 rfl).trans ((my_up_fld fh62 (by decide)).trans ((my_up_fld fh60 (by decide)).trans ((my_up_fld fh58 (by decide)).trans (my_up_self fh56)))))
      have ce80 : h66 113 3 = v57 := ((my_up_role fh66 is_113 is_94 rfl).trans ((my_up_fld fh62 (by decide)).trans ((my_up_fld fh60 (by decide)).trans (my_up_self fh58))))
      have ce81 : h66 113 4 = v59 := ((my_up_role fh66 is_113 is_94 rfl).trans ((my_up_fld fh62 (by decide)).trans (my_up_self fh60)))
      have ce82 : h66 113 5 = v61 := ((my_up_role fh66 is_113 is_94 rfl).trans (my_up_self fh62))
      have ce83 : h66 94 11 = (v63 + 1) := (my_up_self fh66)
      have ce84 : h66 94 12 = v23 := ((my_up_fld fh66 (by decide)).trans ((my_up_role fh62 is_94 is_113 rfl).trans ((my_up_role fh60 is_94 is_113 rfl).trans ((my_up_role fh58 is_94 is_113 rfl).trans ((my_up_role fh56 is_94 is_113 rfl).trans ((my_up_role fh54 is_94 is_113 rfl).trans ((my_up_role fh52 is_94 is_113 rfl).trans ev23.symm)))))))
      have Lst_h66t85 : Lst h66 := by first | exact Lst_k0 n_Lst (by omega) (by omega) (by omega) (by omega) (by omega) | exact Lst_k1 hk1 hk2 hk3 (by omega) (by omega) (by omega) (by omega) (by omega) | omega
      have c86 := (my_up_self fh66)
      exact w_vret gz_94_81 gm_94 (k0 h66 (gh66) (by omega) (by omega) (by first | exact KpP_mk (by omega) (by omega) (by first | exact Or.inl ⟨Or.inl (by omega), by omega, by omega, by omega, by omega, by omega, by omega⟩ | exact Or.inl ⟨Or.inr (by omega), by omega, by omega, by omega, by omega, by omega, by omega⟩ | exact Or.inr ⟨(fun z => z.elim (fun q => by omega) (fun q => by omega)), by omega, by omega, by omega, by omega, by omega, by omega⟩) (by first | exact Or.inl ⟨by omega, by omega, by omega, by omega, by omega, by omega, by omega⟩ | exact Or.inr ⟨by omega, by omega, by omega, by omega, by omega, by omega, by omega⟩) | assumption | omega) (by first | exact KpP_mk (by omega) (by omega) (by first | exact Or.inl ⟨Or.inl (by omega), by omega, by omega, by omega, by omega, by omega, by omega⟩ | exact Or.inl ⟨Or.inr (by omega), by omega, by omega, by omega, by omega, by omega, by omega⟩ | exact Or.inr ⟨(fun z => z.elim (fun q => by omega) (fun q => by omega)), by omega, by omega, by omega, by omega, by omega, by omega⟩) (by first | exact Or.inl ⟨by omega, by omega, by omega, by omega, by omega, by omega, by omega⟩ | exact Or.inr ⟨by omega, by omega, by omega, by omega, by omega, by omega, by omega⟩) | assumption | omega) (by first | exact KpP_mk (by omega) (by omega) (by first | exact Or.inl ⟨Or.inl (by omega), by omega, by omega, by omega, by omega, by omega, by omega⟩ | exact Or.inl ⟨Or.inr (by omega), by omega, by omega, by omega, by omega, by omega, by omega⟩ | exact Or.inr ⟨(fun z => z.elim (fun q => by omega) (fun q => by omega)), by omega, by omega, by omega, by omega, by omega, by omega⟩) (by first | exact Or.inl ⟨by omega, by omega, by omega, by omega, by omega, by omega, by omega⟩ | exact Or.inr ⟨by omega, by omega, by omega, by omega, by omega, by omega, by omega⟩) | assumption | omega) (by first | exact KpP_mk (by omega) (by omega) (by first | exact Or.inl ⟨Or.inl (by omega), by omega, by omega, by omega, by omega, by omega, by omega⟩ | exact Or.inl ⟨Or.inr (by omega), by omega, by omega, by omega, by omega, by omega, by omega⟩ | exact Or.inr ⟨(fun z => z.elim (fun q => by omega) (fun q => by omega)), by omega, by omega, by omega, by omega, by omega, by omega⟩) (by first | exact Or.inl ⟨by omega, by omega, by omega, by omega, by omega, by omega, by omega⟩ | exact Or.inr ⟨by omega, by omega, by omega, by omega, by omega, by omega, by omega⟩) | assumption | omega) (by first | exact KpP_mk (by omega) (by omega) (by first | exact Or.inl ⟨Or.inl (by omega), by omega, by omega, by omega, by omega, by omega, by omega⟩ | exact Or.inl ⟨Or.inr (by omega), by omega, by omega, by omega, by omega, by omega, by omega⟩ | exact Or.inr ⟨(fun z => z.elim (fun q => by omega) (fun q => by omega)), by omega, by omega, by omega, by omega, by omega, by omega⟩) (by first | exact Or.inl ⟨by omega, by omega, by omega, by omega, by omega, by omega, by omega⟩ | exact Or.inr ⟨by omega, by omega, by omega, by omega, by omega, by omega, by omega⟩) | assumption | omega) Lst_h66t85)
  ·
    refine w_iload_n gz_94_27 rfl ?_
    refine w_aload_n gz_94_28 rfl ?_
    refine w_getX (v := 112) gz_94_29 is_94 rd_2 rfl (by decide) rfl ?_
    refine v_getI (j := 0) gz_94_32 rfl is_112 rd_7 rfl (fun v88 ev88 pv88 qv88 => ?_)
    have zv88 := ev88.trans ev6.symm
    refine w_icge (t := 49) gz_94_35 rfl (fun u89 => ?_) (fun u89 => ?_)
    ·
      refine w_aload_n gz_94_49 rfl ?_
      refine v_getI (j := 11) gz_94_50 rfl is_94 rd_2 rfl (fun v90 ev90 pv90 qv90 => ?_)
      have zv90 := ev90.trans ((my_up_role fh4 is_94 is_111 rfl).trans ((my_up_role fh2 is_94 is_111 rfl).trans ek94_11.symm))
      refine w_aload_n gz_94_53 rfl ?_
      refine v_getI (j := 12) gz_94_54 rfl is_94 rd_2 rfl (fun v91 ev91 pv91 qv91 => ?_)
      have zv91 := ev91.trans ((my_up_role fh4 is_94 is_111 rfl).trans ((my_up_role fh2 is_94 is_111 rfl).trans ek94_12.symm))
      refine w_icne (t := 71) gz_94_57 rfl (fun u92 => ?_) (fun u92 => ?_)
      ·
        refine w_aload_n gz_94_71 rfl ?_
        refine w_dup gz_94_72 rfl ?_
        refine v_getI (j := 11) gz_94_73 rfl is_94 rd_2 rfl (fun v93 ev93 pv93 qv93 => ?_)
        have zv93 := ev93.trans ev90.symm
        refine w_iconst gz_94_76 (by decide) ?_
        have hi94 : 0 ≤ v93 := by omega
        have hi95 : v93 ≤ 100000 := by omega
        refine w_iadd gz_94_77 ⟨by omega, by omega⟩ ?_
        refine v_putA (j := 11) gz_94_78 rfl is_94 rd_2 rfl rfl (fun h96 fh96 => ?_)
        have gh96 : my_fr [(2, 11), (7, 0), (7, 1), (7, 2), (7, 3), (7, 4), (7, 5)] h h96 := my_fr.up gh4 is_94 fh96 rfl
        have Lst_h96 : Lst h96 := Lst_ag (my_ag.up fh96 is_94 rfl) Lst_h4
        have ce97 : h96 111 2 = k111_2 := ((my_up_role fh96 is_111 is_94 rfl).trans ((my_up_fld fh4 (by decide)).trans ((my_up_fld fh2 (by decide)).trans ek111_2.symm)))
        have ce98 : h96 111 3 = k111_3 := ((my_up_role fh96 is_111 is_94 rfl).trans ((my_up_fld fh4 (by decide)).trans ((my_up_fld fh2 (by decide)).trans ek111_3.symm)))
        have ce99 : h96 111 4 = k111_4 := ((my_up_role fh96 is_111 is_94 rfl).trans ((my_up_fld fh4 (by decide)).trans ((my_up_fld fh2 (by decide)).trans ek111_4.symm)))
        have ce100 : h96 111 5 = k111_5 := ((my_up_role fh96 is_111 is_94 rfl).trans ((my_up_fld fh4 (by decide)).trans ((my_up_fld fh2 (by decide)).trans ek111_5.symm)))
        have ce101 : h96 112 0 = v88 := ((my_up_role fh96 is_112 is_94 rfl).trans ev88.symm)
        have ce102 : h96 112 1 = k112_1 := ((my_up_role fh96 is_112 is_94 rfl).trans ((my_up_fld fh4 (by decide)).trans ((my_up_ne fh2 (by omega)).trans ek112_1.symm)))
        have ce103 : h96 112 2 = k112_2 := ((my_up_role fh96 is_112 is_94 rfl).trans ((my_up_fld fh4 (by decide)).trans ((my_up_fld fh2 (by decide)).trans ek112_2.symm)))
        have ce104 : h96 112 3 = k112_3 := ((my_up_role fh96 is_112 is_94 rfl).trans ((my_up_fld fh4 (by decide)).trans ((my_up_fld fh2 (by decide)).trans ek112_3.symm)))
        have ce105 : h96 112 4 = k112_4 := ((my_up_role fh96 is_112 is_94 rfl).trans ((my_up_fld fh4 (by decide)).trans ((my_up_fld fh2 (by decide)).trans ek112_4.symm)))
        have ce106 : h96 112 5 = k112_5 := ((my_up_role fh96 is_112 is_94 rfl).trans ((my_up_fld fh4 (by decide)).trans ((my_up_fld fh2 (by decide)).trans ek112_5.symm)))
        have ce107 : h96 113 0 = k113_0 := ((my_up_role fh96 is_113 is_94 rfl).trans ((my_up_ne fh4 (by omega)).trans ((my_up_fld fh2 (by decide)).trans ek113_0.symm)))
        have ce108 : h96 113 1 = k113_1 := ((my_up_role fh96 is_113 is_94 rfl).trans ((my_up_fld fh4 (by decide)).trans ((my_up_ne fh2 (by omega)).trans ek113_1.symm)))
        have ce109 : h96 113 2 = k113_2 := ((my_up_role fh96 is_113 is_94 rfl).trans ((my_up_fld fh4 (by decide)).trans ((my_up_fld fh2 (by decide)).trans ek113_2.symm)))
        have ce110 : h96 113 3 = k113_3 := ((my_up_role fh96 is_113 is_94 rfl).trans ((my_up_fld fh4 (by decide)).trans ((my_up_fld fh2 (by decide)).trans ek113_3.symm)))
        have ce111 : h96 113 4 = k113_4 := ((my_up_role fh96 is_113 is_94 rfl).trans ((my_up_fld fh4 (by decide)).trans ((my_up_fld fh2 (by decide)).trans ek113_4.symm)))
        have ce112 : h96 113 5 = k113_5 := ((my_up_role fh96 is_113 is_94 rfl).trans ((my_up_fld fh4 (by decide)).trans ((my_up_fld fh2 (by decide)).trans ek113_5.symm)))
        have ce113 : h96 94 11 = (v93 + 1) := (my_up_self fh96)
        have ce114 : h96 94 12 = v91 := ((my_up_fld fh96 (by decide)).trans ev91.symm)
        have Lst_h96t115 : Lst h96 := by first | exact Lst_k0 n_Lst (by omega) (by omega) (by omega) (by omega) (by omega) | exact Lst_k1 hk1 hk2 hk3 (by omega) (by omega) (by omega) (by omega) (by omega) | omega
        have c116 := (my_up_self fh96)
        exact w_vret gz_94_81 gm_94 (k0 h96 (gh96) (by omega) (by omega) (by first | exact KpP_mk (by omega) (by omega) (by first | exact Or.inl ⟨Or.inl (by omega), by omega, by omega, by omega, by omega, by omega, by omega⟩ | exact Or.inl ⟨Or.inr (by omega), by omega, by omega, by omega, by omega, by omega, by omega⟩ | exact Or.inr ⟨(fun z => z.elim (fun q => by omega) (fun q => by omega)), by omega, by omega, by omega, by omega, by omega, by omega⟩) (by first | exact Or.inl ⟨by omega, by omega, by omega, by omega, by omega, by omega, by omega⟩ | exact Or.inr ⟨by omega, by omega, by omega, by omega, by omega, by omega, by omega⟩) | assumption | omega) (by first | exact KpP_mk (by omega) (by omega) (by first | exact Or.inl ⟨Or.inl (by omega), by omega, by omega, by omega, by omega, by omega, by omega⟩ | exact Or.inl ⟨Or.inr (by omega), by omega, by omega, by omega, by omega, by omega, by omega⟩ | exact Or.inr ⟨(fun z => z.elim (fun q => by omega) (fun q => by omega)), by omega, by omega, by omega, by omega, by omega, by omega⟩) (by first | exact Or.inl ⟨by omega, by omega, by omega, by omega, by omega, by omega, by omega⟩ | exact Or.inr ⟨by omega, by omega, by omega, by omega, by omega, by omega, by omega⟩) | assumption | omega) (by first | exact KpP_mk (by omega) (by omega) (by first | exact Or.inl ⟨Or.inl (by omega), by omega, by omega, by omega, by omega, by omega, by omega⟩ | exact Or.inl ⟨Or.inr (by omega), by omega, by omega, by omega, by omega, by omega, by omega⟩ | exact Or.inr ⟨(fun z => z.elim (fun q => by omega) (fun q => by omega)), by omega, by omega, by omega, by omega, by omega, by omega⟩) (by first | exact Or.inl ⟨by omega, by omega, by omega, by omega, by omega, by omega, by omega⟩ | exact Or.inr ⟨by omega, by omega, by omega, by omega, by omega, by omega, by omega⟩) | assumption | omega) (by first | exact KpP_mk (by omega) (by omega) (by first | exact Or.inl ⟨Or.inl (by omega), by omega, by omega, by omega, by omega, by omega, by omega⟩ | exact Or.inl ⟨Or.inr (by omega), by omega, by omega, by omega, by omega, by omega, by omega⟩ | exact Or.inr ⟨(fun z => z.elim (fun q => by omega) (fun q => by omega)), by omega, by omega, by omega, by omega, by omega, by omega⟩) (by first | exact Or.inl ⟨by omega, by omega, by omega, by omega, by omega, by omega, by omega⟩ | exact Or.inr ⟨by omega, by omega, by omega, by omega, by omega, by omega, by omega⟩) | assumption | omega) (by first | exact KpP_mk (by omega) (by omega) (by first | exact Or.inl ⟨Or.inl (by omega), by omega, by omega, by omega, by omega, by omega, by omega⟩ | exact Or.inl ⟨Or.inr (by omega), by omega, by omega, by omega, by omega, by omega, by omega⟩ | exact Or.inr ⟨(fun z => z.elim (fun q => by omega) (fun q => by omega)), by omega, by omega, by omega, by omega, by omega, by omega⟩) (by first | exact Or.inl ⟨by omega, by omega, by omega, by omega, by omega, by omega, by omega⟩ | exact Or.inr ⟨by omega, by omega, by omega, by omega, by omega, by omega, by omega⟩) | assumption | omega) Lst_h96t115)
      ·
        refine w_aload_n gz_94_60 rfl ?_
        refine w_getX (v := 113) gz_94_61 is_94 rd_2 rfl (by decide) rfl ?_
        refine w_aload_n gz_94_64 rfl ?_
        refine w_getX (v := 111) gz_94_65 is_94 rd_2 rfl (by decide) rfl ?_
        refine w_inv (k := 0) (as := [(2, 111)]) (r := []) (x := 113) (ls0 := [(2, 113), (2, 111)]) gz_94_68 gm_95 rfl is_113 rd_7 rfl rfl rfl rfl rfl ?_
        refine w_aload_n gz_95_0 rfl ?_
        refine w_aload_n gz_95_1 rfl ?_
        refine v_getI (j := 0) gz_95_2 rfl is_111 rd_7 rfl (fun v119 ev119 pv119 qv119 => ?_)
        have zv119 := ev119.trans (my_up_self fh4)
        refine v_putA (j := 0) gz_95_5 rfl is_113 rd_7 rfl rfl (fun h120 fh120 => ?_)
        have gh120 : my_fr [(2, 11), (7, 0), (7, 1), (7, 2), (7, 3), (7, 4), (7, 5)] h h120 := my_fr.up gh4 is_113 fh120 rfl
        have Lst_h120 : Lst h120 := Lst_ne fh120 (by decide) Lst_h4
        refine w_aload_n gz_95_8 rfl ?_
        refine w_aload_n gz_95_9 rfl ?_
        refine v_getI (j := 1) gz_95_10 rfl is_111 rd_7 rfl (fun v121 ev121 pv121 qv121 => ?_)
        have zv121 := ev121.trans ((my_up_fld fh120 (by decide)).trans ((my_up_fld fh4 (by decide)).trans (my_up_self fh2)))
        refine v_putI (j := 1) gz_95_13 rfl is_113 rd_7 rfl (by omega) (by omega) rfl (fun h122 fh122 => ?_)
        have gh122 : my_fr [(2, 11), (7, 0), (7, 1), (7, 2), (7, 3), (7, 4), (7, 5)] h h122 := my_fr.up gh120 is_113 fh122 rfl
        have Lst_h122 : Lst h122 := Lst_ne fh122 (by decide) Lst_h120
        refine w_aload_n gz_95_16 rfl ?_
        refine w_aload_n gz_95_17 rfl ?_
        refine v_getI (j := 2) gz_95_18 rfl is_111 rd_7 rfl (fun v123 ev123 pv123 qv123 => ?_)
        have zv123 := ev123.trans ((my_up_fld fh122 (by decide)).trans ((my_up_fld fh120 (by decide)).trans ((my_up_fld fh4 (by decide)).trans ((my_up_fld fh2 (by decide)).trans ek111_2.symm))))
        refine v_putI (j := 2) gz_95_21 rfl is_113 rd_7 rfl (by omega) (by omega) rfl (fun h124 fh124 => ?_)
        have gh124 : my_fr [(2, 11), (7, 0), (7, 1), (7, 2), (7, 3), (7, 4), (7, 5)] h h124 := my_fr.up gh122 is_113 fh124 rfl
        have Lst_h124 : Lst h124 := Lst_ne fh124 (by decide) Lst_h122
        refine w_aload_n gz_95_24 rfl ?_
        refine w_aload_n gz_95_25 rfl ?_
        refine v_getI (j := 3) gz_95_26 rfl is_111 rd_7 rfl (fun v125 ev125 pv125 qv125 => ?_)
        have zv125 := ev125.trans ((my_up_fld fh124 (by decide)).trans ((my_up_fld fh122 (by decide)).trans ((my_up_fld fh120 (by decide)).trans ((my_up_fld fh4 (by decide)).trans ((my_up_fld fh2 (by decide)).trans ek111_3.symm)))))
        refine v_putI (j := 3) gz_95_29 rfl is_113 rd_7 rfl (by omega) (by omega) rfl (fun h126 fh126 => ?_)
        have gh126 : my_fr [(2, 11), (7, 0), (7, 1), (7, 2), (7, 3), (7, 4), (7, 5)] h h126 := my_fr.up gh124 is_113 fh126 rfl
        have Lst_h126 : Lst h126 := Lst_ne fh126 (by decide) Lst_h124
        refine w_aload_n gz_95_32 rfl ?_
        refine w_aload_n gz_95_33 rfl ?_
        refine v_getI (j := 4) gz_95_34 rfl is_111 rd_7 rfl (fun v127 ev127 pv127 qv127 => ?_)
        have zv127 := ev127.trans ((my_up_fld fh126 (by decide)).trans ((my_up_fld fh124 (by decide)).trans ((my_up_fld fh122 (by decide)).trans ((my_up_fld fh120 (by decide)).trans ((my_up_fld fh4 (by decide)).trans ((my_up_fld fh2 (by decide)).trans ek111_4.symm))))))
        refine v_putI (j := 4) gz_95_37 rfl is_113 rd_7 rfl (by omega) (by omega) rfl (fun h128 fh128 => ?_)
        have gh128 : my_fr [(2, 11), (7, 0), (7, 1), (7, 2), (7, 3), (7, 4), (7, 5)] h h128 := my_fr.up gh126 is_113 fh128 rfl
        have Lst_h128 : Lst h128 := Lst_ne fh128 (by decide) Lst_h126
        refine w_aload_n gz_95_40 rfl ?_
        refine w_aload_n gz_95_41 rfl ?_
        refine v_getI (j := 5) gz_95_42 rfl is_111 rd_7 rfl (fun v129 ev129 pv129 qv129 => ?_)
        have zv129 := ev129.trans ((my_up_fld fh128 (by decide)).trans ((my_up_fld fh126 (by decide)).trans ((my_up_fld fh124 (by decide)).trans ((my_up_fld fh122 (by decide)).trans ((my_up_fld fh120 (by decide)).trans ((my_up_fld fh4 (by decide)).trans ((my_up_fld fh2 (by decide)).trans ek111_5.symm)))))))
        refine v_putI (j := 5) gz_95_45 rfl is_113 rd_7 rfl (by omega) (by omega) rfl (fun h130 fh130 => ?_)
        have gh130 : my_fr [(2, 11), (7, 0), (7, 1), (7, 2), (7, 3), (7, 4), (7, 5)] h h130 := my_fr.up gh128 is_113 fh130 rfl
        have Lst_h130 : Lst h130 := Lst_ne fh130 (by decide) Lst_h128
        refine w_vret gz_95_48 gm_95 ?_
        show wp l rho (d + 1) 94 71 [(2, 94), (0, x1), (0, x2)] [] h130 Q
        refine w_aload_n gz_94_71 rfl ?_
        refine w_dup gz_94_72 rfl ?_
        refine v_getI (j := 11) gz_94_73 rfl is_94 rd_2 rfl (fun v131 ev131 pv131 qv131 => ?_)
        have zv131 := ev131.trans ((my_up_role fh130 is_94 is_113 rfl).trans ((my_up_role fh128 is_94 is_113 rfl).trans ((my_up_role fh126 is_94 is_113 rfl).trans ((my_up_role fh124 is_94 is_113 rfl).trans ((my_up_role fh122 is_94 is_113 rfl).trans ((my_up_role fh120 is_94 is_113 rfl).trans ev90.symm))))))
        refine w_iconst gz_94_76 (by decide) ?_
        have hi132 : 0 ≤ v131 := by omega
        have hi133 : v131 ≤ 100000 := by omega
        refine w_iadd gz_94_77 ⟨by omega, by omega⟩ ?_
        refine v_putA (j := 11) gz_94_78 rfl is_94 rd_2 rfl rfl (fun h134 fh134 => ?_)
        have gh134 : my_fr [(2, 11), (7, 0), (7, 1), (7, 2), (7, 3), (7, 4), (7, 5)] h h134 := my_fr.up gh130 is_94 fh134 rfl
        have Lst_h134 : Lst h134 := Lst_ag (my_ag.up fh134 is_94 rfl) Lst_h130
        have ce135 : h134 111 2 = v123 := ((my_up_role fh134 is_111 is_94 rfl).trans ((my_up_fld fh130 (by decide)).trans ((my_up_fld fh128 (by decide)).trans ((my_up_fld fh126 (by decide)).trans ((my_up_ne fh124 (by omega)).trans ev123.symm)))))
        have ce136 : h134 111 3 = v125 := ((my_up_role fh134 is_111 is_94 rfl).trans ((my_up_fld fh130 (by decide)).trans ((my_up_fld fh128 (by decide)).trans ((my_up_ne fh126 (by omega)).trans ev125.symm))))
        have ce137 : h134 111 4 = v127 := ((my_up_role fh134 is_111 is_94 rfl).trans ((my_up_fld fh130 (by decide)).trans ((my_up_ne fh128 (by omega)).trans ev127.symm)))
        have ce138 : h134 111 5 = v129 := ((my_up_role fh134 is_111 is_94 rfl).trans ((my_up_ne fh130 (by omega)).trans ev129.symm))
        have ce139 : h134 112 0 = v88 := ((my_up_role fh134 is_112 is_94 rfl).trans ((my_up_fld fh130 (by decide)).trans ((my_up_fld fh128 (by decide)).trans ((my_up_fld fh126 (by decide)).trans ((my_up_fld fh124 (by decide)).trans ((my_up_fld fh122 (by decide)).trans ((my_up_ne fh120 (by omega)).trans ev88.symm)))))))
        have ce140 : h134 112 1 = k112_1 := ((my_up_role fh134 is_112 is_94 rfl).trans ((my_up_fld fh130 (by decide)).trans ((my_up_fld fh128 (by decide)).trans ((my_up_fld fh126 (by decide)).trans ((my_up_fld fh124 (by decide)).trans ((my_up_ne fh122 (by omega)).trans ((my_up_fld fh120 (by decide)).trans ((my_up_fld fh4 (by decide)).trans ((my_up_ne fh2 (by omega)).trans ek112_1.symm)))))))))
        have ce141 : h134 112 2 = k112_2 := ((my_up_role fh134 is_112 is_94 rfl).trans ((my_up_fld fh130 (by decide)).trans ((my_up_fld fh128 (by decide)).trans ((my_up_fld fh126 (by decide)).trans ((my_up_ne fh124 (by omega)).trans ((my_up_fld fh122 (by decide)).trans ((my_up_fld fh120 (by decide)).trans ((my_up_fld fh4 (by decide)).trans ((my_up_fld fh2 (by decide)).trans ek112_2.symm)))))))))
        have ce142 : h134 112 3 = k112_3 := ((my_up_role fh134 is_112 is_94 rfl).trans ((my_up_fld fh130 (by decide)).trans ((my_up_fld fh128 (by decide)).trans ((my_up_ne fh126 (by omega)).trans ((my_up_fld fh124 (by decide)).trans ((my_up_fld fh122 (by decide)).trans ((my_up_fld fh120 (by decide)).trans ((my_up_fld fh4 (by decide)).trans ((my_up_fld fh2 (by decide)).trans ek112_3.symm)))))))))
        have ce143 : h134 112 4 = k112_4 := ((my_up_role fh134 is_112 is_94 rfl).trans ((my_up_fld fh130 (by decide)).trans ((my_up_ne fh128 (by omega)).trans ((my_up_fld fh126 (by decide)).trans ((my_up_fld fh124 (by decide)).trans ((my_up_fld fh122 (by decide)).trans ((my_up_fld fh120 (by decide)).trans ((my_up_fld fh4 (by decide)).trans ((my_up_fld fh2 (by decide)).trans ek112_4.symm)))))))))
        have ce144 : h134 112 5 = k112_5 := ((my_up_role fh134 is_112 is_94 rfl).trans ((my_up_ne fh130 (by omega)).trans ((my_up_fld fh128 (by decide)).trans ((my_up_fld fh126 (by decide)).trans ((my_up_fld fh124 (by decide)).trans ((my_up_fld fh122 (by decide)).trans ((my_up_fld fh120 (by decide)).trans ((my_up_fld fh4 (by decide)).trans ((my_up_fld fh2 (by decide)).trans ek112_5.symm)))))))))
        have ce145 : h134 113 0 = v119 := ((my_up_role fh134 is_113 is_94 rfl).trans ((my_up_fld fh130 (by decide)).trans ((my_up_fld fh128 (by decide)).trans ((my_up_fld fh126 (by decide)).trans ((my_up_fld fh124 (by decide)).trans ((my_up_fld fh122 (by decide)).trans (my_up_self fh120)))))))
        have ce146 : h134 113 1 = v121 := ((my_up_role fh134 is_113 is_94 rfl).trans ((my_up_fld fh130 (by decide)).trans ((my_up_fld fh128 (by decide)).trans ((my_up_fld fh126 (by decide)).trans ((my_up_fld fh124 (by decide)).trans (my_up_self fh122))))))
        have ce147 : h134 113 2 = v123 := ((my_up_role fh134 is_113 is_94 rfl).trans ((my_up_fld fh130 (by decide)).trans ((my_up_fld fh128 (by decide)).trans ((my_up_fld fh126 (by decide)).trans (my_up_self fh124)))))
        have ce148 : h134 113 3 = v125 := ((my_up_role fh134 is_113 is_94 rfl).trans ((my_up_fld fh130 (by decide)).trans ((my_up_fld fh128 (by decide)).trans (my_up_self fh126))))
        have ce149 : h134 113 4 = v127 := ((my_up_role fh134 is_113 is_94 rfl).trans ((my_up_fld fh130 (by decide)).trans (my_up_self fh128)))
        have ce150 : h134 113 5 = v129 := ((my_up_role fh134 is_113 is_94 rfl).trans (my_up_self fh130))
        have ce151 : h134 94 11 = (v131 + 1) := (my_up_self fh134)
        have ce152 : h134 94 12 = v91 := ((my_up_fld fh134 (by decide)).trans ((my_up_role fh130 is_94 is_113 rfl).trans ((my_up_role fh128 is_94 is_113 rfl).trans ((my_up_role fh126 is_94 is_113 rfl).trans ((my_up_role fh124 is_94 is_113 rfl).trans ((my_up_role fh122 is_94 is_113 rfl).trans ((my_up_role fh120 is_94 is_113 rfl).trans ev91.symm)))))))
        have Lst_h134t153 : Lst h134 := by first | exact Lst_k0 n_Lst (by omega) (by omega) (by omega) (by omega) (by omega) | exact Lst_k1 hk1 hk2 hk3 (by omega) (by omega) (by omega) (by omega) (by omega) | omega
        have c154 := (my_up_self fh134)
        exact w_vret gz_94_81 gm_94 (k0 h134 (gh134) (by omega) (by omega) (by first | exact KpP_mk (by omega) (by omega) (by first | exact Or.inl ⟨Or.inl (by omega), by omega, by omega, by omega, by omega, by omega, by omega⟩ | exact Or.inl ⟨Or.inr (by omega), by omega, by omega, by omega, by omega, by omega, by omega⟩ | exact Or.inr ⟨(fun z => z.elim (fun q => by omega) (fun q => by omega)), by omega, by omega, by omega, by omega, by omega, by omega⟩) (by first | exact Or.inl ⟨by omega, by omega, by omega, by omega, by omega, by omega, by omega⟩ | exact Or.inr ⟨by omega, by omega, by omega, by omega, by omega, by omega, by omega⟩) | assumption | omega) (by first | exact KpP_mk (by omega) (by omega) (by first | exact Or.inl ⟨Or.inl (by omega), by omega, by omega, by omega, by omega, by omega, by omega⟩ | exact Or.inl ⟨Or.inr (by omega), by omega, by omega, by omega, by omega, by omega, by omega⟩ | exact Or.inr ⟨(fun z => z.elim (fun q => by omega) (fun q => by omega)), by omega, by omega, by omega, by omega, by omega, by omega⟩) (by first | exact Or.inl ⟨by omega, by omega, by omega, by omega, by omega, by omega, by omega⟩ | exact Or.inr ⟨by omega, by omega, by omega, by omega, by omega, by omega, by omega⟩) | assumption | omega) (by first | exact KpP_mk (by omega) (by omega) (by first | exact Or.inl ⟨Or.inl (by omega), by omega, by omega, by omega, by omega, by omega, by omega⟩ | exact Or.inl ⟨Or.inr (by omega), by omega, by omega, by omega, by omega, by omega, by omega⟩ | exact Or.inr ⟨(fun z => z.elim (fun q => by omega) (fun q => by omega)), by omega, by omega, by omega, by omega, by omega, by omega⟩) (by first | exact Or.inl ⟨by omega, by omega, by omega, by omega, by omega, by omega, by omega⟩ | exact Or.inr ⟨by omega, by omega, by omega, by omega, by omega, by omega, by omega⟩) | assumption | omega) (by first | exact KpP_mk (by omega) (by omega) (by first | exact Or.inl ⟨Or.inl (by omega), by omega, by omega, by omega, by omega, by omega, by omega⟩ | exact Or.inl ⟨Or.inr (by omega), by omega, by omega, by omega, by omega, by omega, by omega⟩ | exact Or.inr ⟨(fun z => z.elim (fun q => by omega) (fun q => by omega)), by omega, by omega, by omega, by omega, by omega, by omega⟩) (by first | exact Or.inl ⟨by omega, by omega, by omega, by omega, by omega, by omega, by omega⟩ | exact Or.inr ⟨by omega, by omega, by omega, by omega, by omega, by omega, by omega⟩) | assumption | omega) (by first | exact KpP_mk (by omega) (by omega) (by first | exact Or.inl ⟨Or.inl (by omega), by omega, by omega, by omega, by omega, by omega, by omega⟩ | exact Or.inl ⟨Or.inr (by omega), by omega, by omega, by omega, by omega, by omega, by omega⟩ | exact Or.inr ⟨(fun z => z.elim (fun q => by omega) (fun q => by omega)), by omega, by omega, by omega, by omega, by omega, by omega⟩) (by first | exact Or.inl ⟨by omega, by omega, by omega, by omega, by omega, by omega, by omega⟩ | exact Or.inr ⟨by omega, by omega, by omega, by omega, by omega, by omega, by omega⟩) | assumption | omega) Lst_h134t153)
    ·
      refine w_aload_n gz_94_38 rfl ?_
      refine w_getX (v := 112) gz_94_39 is_94 rd_2 rfl (by decide) rfl ?_
      refine w_aload_n gz_94_42 rfl ?_
      refine w_getX (v := 111) gz_94_43 is_94 rd_2 rfl (by decide) rfl ?_
      refine w_inv (k := 0) (as := [(2, 111)]) (r := []) (x := 112) (ls0 := [(2, 112), (2, 111)]) gz_94_46 gm_95 rfl is_112 rd_7 rfl rfl rfl rfl rfl ?_
      refine w_aload_n gz_95_0 rfl ?_
      refine w_aload_n gz_95_1 rfl ?_
      refine v_getI (j := 0) gz_95_2 rfl is_111 rd_7 rfl (fun v157 ev157 pv157 qv157 => ?_)
      have zv157 := ev157.trans (my_up_self fh4)
      refine v_putA (j := 0) gz_95_5 rfl is_112 rd_7 rfl rfl (fun h158 fh158 => ?_)
      have gh158 : my_fr [(2, 11), (7, 0), (7, 1), (7, 2), (7, 3), (7, 4), (7, 5)] h h158 := my_fr.up gh4 is_112 fh158 rfl
      refine w_aload_n gz_95_8 rfl ?_
      refine w_aload_n gz_95_9 rfl ?_
      refine v_getI (j := 1) gz_95_10 rfl is_111 rd_7 rfl (fun v159 ev159 pv159 qv159 => ?_)
      have zv159 := ev159.trans ((my_up_fld fh158 (by decide)).trans ((my_up_fld fh4 (by decide)).trans (my_up_self fh2)))
      refine v_putI (j := 1) gz_95_13 rfl is_112 rd_7 rfl (by omega) (by omega) rfl (fun h160 fh160 => ?_)
      have gh160 : my_fr [(2, 11), (7, 0), (7, 1), (7, 2), (7, 3), (7, 4), (7, 5)] h h160 := my_fr.up gh158 is_112 fh160 rfl
      refine w_aload_n gz_95_16 rfl ?_
      refine w_aload_n gz_95_17 rfl ?_
      refine v_getI (j := 2) gz_95_18 rfl is_111 rd_7 rfl (fun v161 ev161 pv161 qv161 => ?_)
      have zv161 := ev161.trans ((my_up_fld fh160 (by decide)).trans ((my_up_fld fh158 (by decide)).trans ((my_up_fld fh4 (by decide)).trans ((my_up_fld fh2 (by decide)).trans ek111_2.symm))))
      refine v_putI (j := 2) gz_95_21 rfl is_112 rd_7 rfl (by omega) (by omega) rfl (fun h162 fh162 => ?_)
      have gh162 : my_fr [(2, 11), (7, 0), (7, 1), (7, 2), (7, 3), (7, 4), (7, 5)] h h162 := my_fr.up gh160 is_112 fh162 rfl
      refine w_aload_n gz_95_24 rfl ?_
      refine w_aload_n gz_95_25 rfl ?_
      refine v_getI (j := 3) gz_95_26 rfl is_111 rd_7 rfl (fun v163 ev163 pv163 qv163 => ?_)
      have zv163 := ev163.trans ((my_up_fld fh162 (by decide)).trans ((my_up_fld fh160 (by decide)).trans ((my_up_fld fh158 (by decide)).trans ((my_up_fld fh4 (by decide)).trans ((my_up_fld fh2 (by decide)).trans ek111_3.symm)))))
      refine v_putI (j := 3) gz_95_29 rfl is_112 rd_7 rfl (by omega) (by omega) rfl (fun h164 fh164 => ?_)
      have gh164 : my_fr [(2, 11), (7, 0), (7, 1), (7, 2), (7, 3), (7, 4), (7, 5)] h h164 := my_fr.up gh162 is_112 fh164 rfl
      refine w_aload_n gz_95_32 rfl ?_
      refine w_aload_n gz_95_33 rfl ?_
      refine v_getI (j := 4) gz_95_34 rfl is_111 rd_7 rfl (fun v165 ev165 pv165 qv165 => ?_)
      have zv165 := ev165.trans ((my_up_fld fh164 (by decide)).trans ((my_up_fld fh162 (by decide)).trans ((my_up_fld fh160 (by decide)).trans ((my_up_fld fh158 (by decide)).trans ((my_up_fld fh4 (by decide)).trans ((my_up_fld fh2 (by decide)).trans ek111_4.symm))))))
      refine v_putI (j := 4) gz_95_37 rfl is_112 rd_7 rfl (by omega) (by omega) rfl (fun h166 fh166 => ?_)
      have gh166 : my_fr [(2, 11), (7, 0), (7, 1), (7, 2), (7, 3), (7, 4), (7, 5)] h h166 := my_fr.up gh164 is_112 fh166 rfl
      refine w_aload_n gz_95_40 rfl ?_
      refine w_aload_n gz_95_41 rfl ?_
      refine v_getI (j := 5) gz_95_42 rfl is_111 rd_7 rfl (fun v167 ev167 pv167 qv167 => ?_)
      have zv167 := ev167.trans ((my_up_fld fh166 (by decide)).trans ((my_up_fld fh164 (by decide)).trans ((my_up_fld fh162 (by decide)).trans ((my_up_fld fh160 (by decide)).trans ((my_up_fld fh158 (by decide)).trans ((my_up_fld fh4 (by decide)).trans ((my_up_fld fh2 (by decide)).trans ek111_5.symm)))))))
      refine v_putI (j := 5) gz_95_45 rfl is_112 rd_7 rfl (by omega) (by omega) rfl (fun h168 fh168 => ?_)
      have gh168 : my_fr [(2, 11), (7, 0), (7, 1), (7, 2), (7, 3), (7, 4), (7, 5)] h h168 := my_fr.up gh166 is_112 fh168 rfl
      refine w_vret gz_95_48 gm_95 ?_
      show wp l rho (d + 1) 94 49 [(2, 94), (0, x1), (0, x2)] [] h168 Q
      refine w_aload_n gz_94_49 rfl ?_
      refine v_getI (j := 11) gz_94_50 rfl is_94 rd_2 rfl (fun v169 ev169 pv169 qv169 => ?_)
      have zv169 := ev169.trans ((my_up_role fh168 is_94 is_112 rfl).trans ((my_up_role fh166 is_94 is_112 rfl).trans ((my_up_role fh164 is_94 is_112 rfl).trans ((my_up_role fh162 is_94 is_112 rfl).trans ((my_up_role fh160 is_94 is_112 rfl).trans ((my_up_role fh158 is_94 is_112 rfl).trans ((my_up_role fh4 is_94 is_111 rfl).trans ((my_up_role fh2 is_94 is_111 rfl).trans ek94_11.symm))))))))
      refine w_aload_n gz_94_53 rfl ?_
      refine v_getI (j := 12) gz_94_54 rfl is_94 rd_2 rfl (fun v170 ev170 pv170 qv170 => ?_)
      have zv170 := ev170.trans ((my_up_role fh168 is_94 is_112 rfl).trans ((my_up_role fh166 is_94 is_112 rfl).trans ((my_up_role fh164 is_94 is_112 rfl).trans ((my_up_role fh162 is_94 is_112 rfl).trans ((my_up_role fh160 is_94 is_112 rfl).trans ((my_up_role fh158 is_94 is_112 rfl).trans ((my_up_role fh4 is_94 is_111 rfl).trans ((my_up_role fh2 is_94 is_111 rfl).trans ek94_12.symm))))))))
      refine w_icne (t := 71) gz_94_57 rfl (fun u171 => ?_) (fun u171 => ?_)
      ·
        refine w_aload_n gz_94_71 rfl ?_
        refine w_dup gz_94_72 rfl ?_
        refine v_getI (j := 11) gz_94_73 rfl is_94 rd_2 rfl (fun v172 ev172 pv172 qv172 => ?_)
        have zv172 := ev172.trans ev169.symm
        refine w_iconst gz_94_76 (by decide) ?_
        have hi173 : 0 ≤ v172 := by omega
        have hi174 : v172 ≤ 100000 := by omega
        refine w_iadd gz_94_77 ⟨by omega, by omega⟩ ?_
        refine v_putA (j := 11) gz_94_78 rfl is_94 rd_2 rfl rfl (fun h175 fh175 => ?_)
        have gh175 : my_fr [(2, 11), (7, 0), (7, 1), (7, 2), (7, 3), (7, 4), (7, 5)] h h175 := my_fr.up gh168 is_94 fh175 rfl
        have ce176 : h175 111 2 = v161 := ((my_up_role fh175 is_111 is_94 rfl).trans ((my_up_fld fh168 (by decide)).trans ((my_up_fld fh166 (by decide)).trans ((my_up_fld fh164 (by decide)).trans ((my_up_ne fh162 (by omega)).trans ev161.symm)))))
        have ce177 : h175 111 3 = v163 := ((my_up_role fh175 is_111 is_94 rfl).trans ((my_up_fld fh168 (by decide)).trans ((my_up_fld fh166 (by decide)).trans ((my_up_ne fh164 (by omega)).trans ev163.symm))))
        have ce178 : h175 111 4 = v165 := ((my_up_role fh175 is_111 is_94 rfl).trans ((my_up_fld fh168 (by decide)).trans ((my_up_ne fh166 (by omega)).trans ev165.symm)))
        have ce179 : h175 111 5 = v167 := ((my_up_role fh175 is_111 is_94 rfl).trans ((my_up_ne fh168 (by omega)).trans ev167.symm))
        have ce180 : h175 112 0 = v157 := ((my_up_role fh175 is_112 is_94 rfl).trans ((my_up_fld fh168 (by decide)).trans ((my_up_fld fh166 (by decide)).trans ((my_up_fld fh164 (by decide)).trans ((my_up_fld fh162 (by decide)).trans ((my_up_fld fh160 (by decide)).trans (my_up_self fh158)))))))
        have ce181 : h175 112 1 = v159 := ((my_up_role fh175 is_112 is_94 rfl).trans ((my_up_fld fh168 (by decide)).trans ((my_up_fld fh166 (by decide)).trans ((my_up_fld fh164 (by decide)).trans ((my_up_fld fh162 (by decide)).trans (my_up_self fh160))))))
        have ce182 : h175 112 2 = v161 := ((my_up_role fh175 is_112 is_94 rfl).trans ((my_up_fld fh168 (by decide)).trans ((my_up_fld fh166 (by decide)).trans ((my_up_fld fh164 (by decide)).trans (my_up_self fh162)))))
        have ce183 : h175 112 3 = v163 := ((my_up_role fh175 is_112 is_94 rfl).trans ((my_up_fld fh168 (by decide)).trans ((my_up_fld fh166 (by decide)).trans (my_up_self fh164))))
        have ce184 : h175 112 4 = v165 := ((my_up_role fh175 is_112 is_94 rfl).trans ((my_up_fld fh168 (by decide)).trans (my_up_self fh166)))
        have ce185 : h175 112 5 = v167 := ((my_up_role fh175 is_112 is_94 rfl).trans (my_up_self fh168))
        have ce186 : h175 113 0 = k113_0 := ((my_up_role fh175 is_113 is_94 rfl).trans ((my_up_fld fh168 (by decide)).trans ((my_up_fld fh166 (by decide)).trans ((my_up_fld fh164 (by decide)).trans ((my_up_fld fh162 (by decide)).trans ((my_up_fld fh160 (by decide)).trans ((my_up_ne fh158 (by omega)).trans ((my_up_ne fh4 (by omega)).trans ((my_up_fld fh2 (by decide)).trans ek113_0.symm)))))))))
        have ce187 : h175 113 1 = k113_1 := ((my_up_role fh175 is_113 is_94 rfl).trans ((my_up_fld fh168 (by decide)).trans ((my_up_fld fh166 (by decide)).trans ((my_up_fld fh164 (by decide)).trans ((my_up_fld fh162 (by decide)).trans ((my_up_ne fh160 (by omega)).trans ((my_up_fld fh158 (by decide)).trans ((my_up_fld fh4 (by decide)).trans ((my_up_ne fh2 (by omega)).trans ek113_1.symm)))))))))
        have ce188 : h175 113 2 = k113_2 := ((my_up_role fh175 is_113 is_94 rfl).trans ((my_up_fld fh168 (by decide)).trans ((my_up_fld fh166 (by decide)).trans ((my_up_fld fh164 (by decide)).trans ((my_up_ne fh162 (by omega)).trans ((my_up_fld fh160 (by decide)).trans ((my_up_fld fh158 (by decide)).trans ((my_up_fld fh4 (by decide)).trans ((my_up_fld fh2 (by decide)).trans ek113_2.symm)))))))))
        have ce189 : h175 113 3 = k113_3 := ((my_up_role fh175 is_113 is_94 rfl).trans ((my_up_fld fh168 (by decide)).trans ((my_up_fld fh166 (by decide)).trans ((my_up_ne fh164 (by omega)).trans ((my_up_fld fh162 (by decide)).trans ((my_up_fld fh160 (by decide)).trans ((my_up_fld fh158 (by decide)).trans ((my_up_fld fh4 (by decide)).trans ((my_up_fld fh2 (by decide)).trans ek113_3.symm)))))))))
        have ce190 : h175 113 4 = k113_4 := ((my_up_role fh175 is_113 is_94 rfl).trans ((my_up_fld fh168 (by decide)).trans ((my_up_ne fh166 (by omega)).trans ((my_up_fld fh164 (by decide)).trans ((my_up_fld fh162 (by decide)).trans ((my_up_fld fh160 (by decide)).trans ((my_up_fld fh158 (by decide)).trans ((my_up_fld fh4 (by decide)).trans ((my_up_fld fh2 (by decide)).trans ek113_4.symm)))))))))
        have ce191 : h175 113 5 = k113_5 := ((my_up_role fh175 is_113 is_94 rfl).trans ((my_up_ne fh168 (by omega)).trans ((my_up_fld fh166 (by decide)).trans ((my_up_fld fh164 (by decide)).trans ((my_up_fld fh162 (by decide)).trans ((my_up_fld fh160 (by decide)).trans ((my_up_fld fh158 (by decide)).trans ((my_up_fld fh4 (by decide)).trans ((my_up_fld fh2 (by decide)).trans ek113_5.symm)))))))))
        have ce192 : h175 94 11 = (v172 + 1) := (my_up_self fh175)
        have ce193 : h175 94 12 = v170 := ((my_up_fld fh175 (by decide)).trans ev170.symm)
        have Lst_h175t194 : Lst h175 := by first | exact Lst_k0 n_Lst (by omega) (by omega) (by omega) (by omega) (by omega) | exact Lst_k1 hk1 hk2 hk3 (by omega) (by omega) (by omega) (by omega) (by omega) | omega
        have c195 := (my_up_self fh175)
        exact w_vret gz_94_81 gm_94 (k0 h175 (gh175) (by omega) (by omega) (by first | exact KpP_mk (by omega) (by omega) (by first | exact Or.inl ⟨Or.inl (by omega), by omega, by omega, by omega, by omega, by omega, by omega⟩ | exact Or.inl ⟨Or.inr (by omega), by omega, by omega, by omega, by omega, by omega, by omega⟩ | exact Or.inr ⟨(fun z => z.elim (fun q => by omega) (fun q => by omega)), by omega, by omega, by omega, by omega, by omega, by omega⟩) (by first | exact Or.inl ⟨by omega, by omega, by omega, by omega, by omega, by omega, by omega⟩ | exact Or.inr ⟨by omega, by omega, by omega, by omega, by omega, by omega, by omega⟩) | assumption | omega) (by first | exact KpP_mk (by omega) (by omega) (by first | exact Or.inl ⟨Or.inl (by omega), by omega, by omega, by omega, by omega, by omega, by omega⟩ | exact Or.inl ⟨Or.inr (by omega), by omega, by omega, by omega, by omega, by omega, by omega⟩ | exact Or.inr ⟨(fun z => z.elim (fun q => by omega) (fun q => by omega)), by omega, by omega, by omega, by omega, by omega, by omega⟩) (by first | exact Or.inl ⟨by omega, by omega, by omega, by omega, by omega, by omega, by omega⟩ | exact Or.inr ⟨by omega, by omega, by omega, by omega, by omega, by omega, by omega⟩) | assumption | omega) (by first | exact KpP_mk (by omega) (by omega) (by first | exact Or.inl ⟨Or.inl (by omega), by omega, by omega, by omega, by omega, by omega, by omega⟩ | exact Or.inl ⟨Or.inr (by omega), by omega, by omega, by omega, by omega, by omega, by omega⟩ | exact Or.inr ⟨(fun z => z.elim (fun q => by omega) (fun q => by omega)), by omega, by omega, by omega, by omega, by omega, by omega⟩) (by first | exact Or.inl ⟨by omega, by omega, by omega, by omega, by omega, by omega, by omega⟩ | exact Or.inr ⟨by omega, by omega, by omega, by omega, by omega, by omega, by omega⟩) | assumption | omega) (by first | exact KpP_mk (by omega) (by omega) (by first | exact Or.inl ⟨Or.inl (by omega), by omega, by omega, by omega, by omega, by omega, by omega⟩ | exact Or.inl ⟨Or.inr (by omega), by omega, by omega, by omega, by omega, by omega, by omega⟩ | exact Or.inr ⟨(fun z => z.elim (fun q => by omega) (fun q => by omega)), by omega, by omega, by omega, by omega, by omega, by omega⟩) (by first | exact Or.inl ⟨by omega, by omega, by omega, by omega, by omega, by omega, by omega⟩ | exact Or.inr ⟨by omega, by omega, by omega, by omega, by omega, by omega, by omega⟩) | assumption | omega) (by first | exact KpP_mk (by omega) (by omega) (by first | exact Or.inl ⟨Or.inl (by omega), by omega, by omega, by omega, by omega, by omega, by omega⟩ | exact Or.inl ⟨Or.inr (by omega), by omega, by omega, by omega, by omega, by omega, by omega⟩ | exact Or.inr ⟨(fun z => z.elim (fun q => by omega) (fun q => by omega)), by omega, by omega, by omega, by omega, by omega, by omega⟩) (by first | exact Or.inl ⟨by omega, by omega, by omega, by omega, by omega, by omega, by omega⟩ | exact Or.inr ⟨by omega, by omega, by omega, by omega, by omega, by omega, by omega⟩) | assumption | omega) Lst_h175t194)
      ·
        refine w_aload_n gz_94_60 rfl ?_
        refine w_getX (v := 113) gz_94_61 is_94 rd_2 rfl (by decide) rfl ?_
        refine w_aload_n gz_94_64 rfl ?_
        refine w_getX (v := 111) gz_94_65 is_94 rd_2 rfl (by decide) rfl ?_
        refine w_inv (k := 0) (as := [(2, 111)]) (r := []) (x := 113) (ls0 := [(2, 113), (2, 111)]) gz_94_68 gm_95 rfl is_113 rd_7 rfl rfl rfl rfl rfl ?_
        refine w_aload_n gz_95_0 rfl ?_
        refine w_aload_n gz_95_1 rfl ?_
        refine v_getI (j := 0) gz_95_2 rfl is_111 rd_7 rfl (fun v198 ev198 pv198 qv198 => ?_)
        have zv198 := ev198.trans ((my_up_fld fh168 (by decide)).trans ((my_up_fld fh166 (by decide)).trans ((my_up_fld fh164 (by decide)).trans ((my_up_fld fh162 (by decide)).trans ((my_up_fld fh160 (by decide)).trans ((my_up_ne fh158 (by omega)).trans ev157.symm))))))
        refine v_putA (j := 0) gz_95_5 rfl is_113 rd_7 rfl rfl (fun h199 fh199 => ?_)
        have gh199 : my_fr [(2, 11), (7, 0), (7, 1), (7, 2), (7, 3), (7, 4), (7, 5)] h h199 := my_fr.up gh168 is_113 fh199 rfl
        refine w_aload_n gz_95_8 rfl ?_
        refine w_aload_n gz_95_9 rfl ?_
        refine v_getI (j := 1) gz_95_10 rfl is_111 rd_7 rfl (fun v200 ev200 pv200 qv200 => ?_)
        have zv200 := ev200.trans ((my_up_fld fh199 (by decide)).trans ((my_up_fld fh168 (by decide)).trans ((my_up_fld fh166 (by decide)).trans ((my_up_fld fh164 (by decide)).trans ((my_up_fld fh162 (by decide)).trans ((my_up_ne fh160 (by omega)).trans ev159.symm))))))
        refine v_putI (j := 1) gz_95_13 rfl is_113 rd_7 rfl (by omega) (by omega) rfl (fun h201 fh201 => ?_)
        have gh201 : my_fr [(2, 11), (7, 0), (7, 1), (7, 2), (7, 3), (7, 4), (7, 5)] h h201 := my_fr.up gh199 is_113 fh201 rfl
        refine w_aload_n gz_95_16 rfl ?_
        refine w_aload_n gz_95_17 rfl ?_
        refine v_getI (j := 2) gz_95_18 rfl is_111 rd_7 rfl (fun v202 ev202 pv202 qv202 => ?_)
        have zv202 := ev202.trans ((my_up_fld fh201 (by decide)).trans ((my_up_fld fh199 (by decide)).trans ((my_up_fld fh168 (by decide)).trans ((my_up_fld fh166 (by decide)).trans ((my_up_fld fh164 (by decide)).trans ((my_up_ne fh162 (by omega)).trans ev161.symm))))))
        refine v_putI (j := 2) gz_95_21 rfl is_113 rd_7 rfl (by omega) (by omega) rfl (fun h203 fh203 => ?_)
        have gh203 : my_fr [(2, 11), (7, 0), (7, 1), (7, 2), (7, 3), (7, 4), (7, 5)] h h203 := my_fr.up gh201 is_113 fh203 rfl
        refine w_aload_n gz_95_24 rfl ?_
        refine w_aload_n gz_95_25 rfl ?_
        refine v_getI (j := 3) gz_95_26 rfl is_111 rd_7 rfl (fun v204 ev204 pv204 qv204 => ?_)
        have zv204 := ev204.trans ((my_up_fld fh203 (by decide)).trans ((my_up_fld fh201 (by decide)).trans ((my_up_fld fh199 (by decide)).trans ((my_up_fld fh168 (by decide)).trans ((my_up_fld fh166 (by decide)).trans ((my_up_ne fh164 (by omega)).trans ev163.symm))))))
        refine v_putI (j := 3) gz_95_29 rfl is_113 rd_7 rfl (by omega) (by omega) rfl (fun h205 fh205 => ?_)
        have gh205 : my_fr [(2, 11), (7, 0), (7, 1), (7, 2), (7, 3), (7, 4), (7, 5)] h h205 := my_fr.up gh203 is_113 fh205 rfl
        refine w_aload_n gz_95_32 rfl ?_
        refine w_aload_n gz_95_33 rfl ?_
        refine v_getI (j := 4) gz_95_34 rfl is_111 rd_7 rfl (fun v206 ev206 pv206 qv206 => ?_)
        have zv206 := ev206.trans ((my_up_fld fh205 (by decide)).trans ((my_up_fld fh203 (by decide)).trans ((my_up_fld fh201 (by decide)).trans ((my_up_fld fh199 (by decide)).trans ((my_up_fld fh168 (by decide)).trans ((my_up_ne fh166 (by omega)).trans ev165.symm))))))
        refine v_putI (j := 4) gz_95_37 rfl is_113 rd_7 rfl (by omega) (by omega) rfl (fun h207 fh207 => ?_)
        have gh207 : my_fr [(2, 11), (7, 0), (7, 1), (7, 2), (7, 3), (7, 4), (7, 5)] h h207 := my_fr.up gh205 is_113 fh207 rfl
        refine w_aload_n gz_95_40 rfl ?_
        refine w_aload_n gz_95_41 rfl ?_
        refine v_getI (j := 5) gz_95_42 rfl is_111 rd_7 rfl (fun v208 ev208 pv208 qv208 => ?_)
        have zv208 := ev208.trans ((my_up_fld fh207 (by decide)).trans ((my_up_fld fh205 (by decide)).trans ((my_up_fld fh203 (by decide)).trans ((my_up_fld fh201 (by decide)).trans ((my_up_fld fh199 (by decide)).trans ((my_up_ne fh168 (by omega)).trans ev167.symm))))))
        refine v_putI (j := 5) gz_95_45 rfl is_113 rd_7 rfl (by omega) (by omega) rfl (fun h209 fh209 => ?_)
        have gh209 : my_fr [(2, 11), (7, 0), (7, 1), (7, 2), (7, 3), (7, 4), (7, 5)] h h209 := my_fr.up gh207 is_113 fh209 rfl
        refine w_vret gz_95_48 gm_95 ?_
        show wp l rho (d + 1) 94 71 [(2, 94), (0, x1), (0, x2)] [] h209 Q
        refine w_aload_n gz_94_71 rfl ?_
        refine w_dup gz_94_72 rfl ?_
        refine v_getI (j := 11) gz_94_73 rfl is_94 rd_2 rfl (fun v210 ev210 pv210 qv210 => ?_)
        have zv210 := ev210.trans ((my_up_role fh209 is_94 is_113 rfl).trans ((my_up_role fh207 is_94 is_113 rfl).trans ((my_up_role fh205 is_94 is_113 rfl).trans ((my_up_role fh203 is_94 is_113 rfl).trans ((my_up_role fh201 is_94 is_113 rfl).trans ((my_up_role fh199 is_94 is_113 rfl).trans ev169.symm))))))
        refine w_iconst gz_94_76 (by decide) ?_
        have hi211 : 0 ≤ v210 := by omega
        have hi212 : v210 ≤ 100000 := by omega
        refine w_iadd gz_94_77 ⟨by omega, by omega⟩ ?_
        refine v_putA (j := 11) gz_94_78 rfl is_94 rd_2 rfl rfl (fun h213 fh213 => ?_)
        have gh213 : my_fr [(2, 11), (7, 0), (7, 1), (7, 2), (7, 3), (7, 4), (7, 5)] h h213 := my_fr.up gh209 is_94 fh213 rfl
        have ce214 : h213 111 2 = v202 := ((my_up_role fh213 is_111 is_94 rfl).trans ((my_up_fld fh209 (by decide)).trans ((my_up_fld fh207 (by decide)).trans ((my_up_fld fh205 (by decide)).trans ((my_up_ne fh203 (by omega)).trans ev202.symm)))))
        have ce215 : h213 111 3 = v204 := ((my_up_role fh213 is_111 is_94 rfl).trans ((my_up_fld fh209 (by decide)).trans ((my_up_fld fh207 (by decide)).trans ((my_up_ne fh205 (by omega)).trans ev204.symm))))
        have ce216 : h213 111 4 = v206 := ((my_up_role fh213 is_111 is_94 rfl).trans ((my_up_fld fh209 (by decide)).trans ((my_up_ne fh207 (by omega)).trans ev206.symm)))
        have ce217 : h213 111 5 = v208 := ((my_up_role fh213 is_111 is_94 rfl).trans ((my_up_ne fh209 (by omega)).trans ev208.symm))
        have ce218 : h213 112 0 = v157 := ((my_up_role fh213 is_112 is_94 rfl).trans ((my_up_fld fh209 (by decide)).trans ((my_up_fld fh207 (by decide)).trans ((my_up_fld fh205 (by decide)).trans ((my_up_fld fh203 (by decide)).trans ((my_up_fld fh201 (by decide)).trans ((my_up_ne fh199 (by omega)).trans ((my_up_fld fh168 (by decide)).trans ((my_up_fld fh166 (by decide)).trans ((my_up_fld fh164 (by decide)).trans ((my_up_fld fh162 (by decide)).trans ((my_up_fld fh160 (by decide)).trans (my_up_self fh158)))))))))))))
        have ce219 : h213 112 1 = v159 := ((my_up_role fh213 is_112 is_94 rfl).trans ((my_up_fld fh209 (by decide)).trans ((my_up_fld fh207 (by decide)).trans ((my_up_fld fh205 (by decide)).trans ((my_up_fld fh203 (by decide)).trans ((my_up_ne fh201 (by omega)).trans ((my_up_fld fh199 (by decide)).trans ((my_up_fld fh168 (by decide)).trans ((my_up_fld fh166 (by decide)).trans ((my_up_fld fh164 (by decide)).trans ((my_up_fld fh162 (by decide)).trans (my_up_self fh160))))))))))))
        have ce220 : h213 112 2 = v161 := ((my_up_role fh213 is_112 is_94 rfl).trans ((my_up_fld fh209 (by decide)).trans ((my_up_fld fh207 (by decide)).trans ((my_up_fld fh205 (by decide)).trans ((my_up_ne fh203 (by omega)).trans ((my_up_fld fh201 (by decide)).trans ((my_up_fld fh199 (by decide)).trans ((my_up_fld fh168 (by decide)).trans ((my_up_fld fh166 (by decide)).trans ((my_up_fld fh164 (by decide)).trans (my_up_self fh162)))))))))))
        have ce221 : h213 112 3 = v163 := ((my_up_role fh213 is_112 is_94 rfl).trans ((my_up_fld fh209 (by decide)).trans ((my_up_fld fh207 (by decide)).trans ((my_up_ne fh205 (by omega)).trans ((my_up_fld fh203 (by decide)).trans ((my_up_fld fh201 (by decide)).trans ((my_up_fld fh199 (by decide)).trans ((my_up_fld fh168 (by decide)).trans ((my_up_fld fh166 (by decide)).trans (my_up_self fh164))))))))))
        have ce222 : h213 112 4 = v165 := ((my_up_role fh213 is_112 is_94 rfl).trans ((my_up_fld fh209 (by decide)).trans ((my_up_ne fh207 (by omega)).trans ((my_up_fld fh205 (by decide)).trans ((my_up_fld fh203 (by decide)).trans ((my_up_fld fh201 (by decide)).trans ((my_up_fld fh199 (by decide)).trans ((my_up_fld fh168 (by decide)).trans (my_up_self fh166)))))))))
        have ce223 : h213 112 5 = v167 := ((my_up_role fh213 is_112 is_94 rfl).trans ((my_up_ne fh209 (by omega)).trans ((my_up_fld fh207 (by decide)).trans ((my_up_fld fh205 (by decide)).trans ((my_up_fld fh203 (by decide)).trans ((my_up_fld fh201 (by decide)).trans ((my_up_fld fh199 (by decide)).trans (my_up_self fh168))))))))
        have ce224 : h213 113 0 = v198 := ((my_up_role fh213 is_113 is_94 rfl).trans ((my_up_fld fh209 (by decide)).trans ((my_up_fld fh207 (by decide)).trans ((my_up_fld fh205 (by decide)).trans ((my_up_fld fh203 (by decide)).trans ((my_up_fld fh201 (by decide)).trans (my_up_self fh199)))))))
        have ce225 : h213 113 1 = v200 := ((my_up_role fh213 is_113 is_94 rfl).trans ((my_up_fld fh209 (by decide)).trans ((my_up_fld fh207 (by decide)).trans ((my_up_fld fh205 (by decide)).trans ((my_up_fld fh203 (by decide)).trans (my_up_self fh201))))))
        have ce226 : h213 113 2 = v202 := ((my_up_role fh213 is_113 is_94 rfl).trans ((my_up_fld fh209 (by decide)).trans ((my_up_fld fh207 (by decide)).trans ((my_up_fld fh205 (by decide)).trans (my_up_self fh203)))))
        have ce227 : h213 113 3 = v204 := ((my_up_role fh213 is_113 is_94 rfl).trans ((my_up_fld fh209 (by decide)).trans ((my_up_fld fh207 (by decide)).trans (my_up_self fh205))))
        have ce228 : h213 113 4 = v206 := ((my_up_role fh213 is_113 is_94 rfl).trans ((my_up_fld fh209 (by decide)).trans (my_up_self fh207)))
        have ce229 : h213 113 5 = v208 := ((my_up_role fh213 is_113 is_94 rfl).trans (my_up_self fh209))
        have ce230 : h213 94 11 = (v210 + 1) := (my_up_self fh213)
        have ce231 : h213 94 12 = v170 := ((my_up_fld fh213 (by decide)).trans ((my_up_role fh209 is_94 is_113 rfl).trans ((my_up_role fh207 is_94 is_113 rfl).trans ((my_up_role fh205 is_94 is_113 rfl).trans ((my_up_role fh203 is_94 is_113 rfl).trans ((my_up_role fh201 is_94 is_113 rfl).trans ((my_up_role fh199 is_94 is_113 rfl).trans ev170.symm)))))))
        have Lst_h213t232 : Lst h213 := by first | exact Lst_k0 n_Lst (by omega) (by omega) (by omega) (by omega) (by omega) | exact Lst_k1 hk1 hk2 hk3 (by omega) (by omega) (by omega) (by omega) (by omega) | omega
        have c233 := (my_up_self fh213)
        exact w_vret gz_94_81 gm_94 (k0 h213 (gh213) (by omega) (by omega) (by first | exact KpP_mk (by omega) (by omega) (by first | exact Or.inl ⟨Or.inl (by omega), by omega, by omega, by omega, by omega, by omega, by omega⟩ | exact Or.inl ⟨Or.inr (by omega), by omega, by omega, by omega, by omega, by omega, by omega⟩ | exact Or.inr ⟨(fun z => z.elim (fun q => by omega) (fun q => by omega)), by omega, by omega, by omega, by omega, by omega, by omega⟩) (by first | exact Or.inl ⟨by omega, by omega, by omega, by omega, by omega, by omega, by omega⟩ | exact Or.inr ⟨by omega, by omega, by omega, by omega, by omega, by omega, by omega⟩) | assumption | omega) (by first | exact KpP_mk (by omega) (by omega) (by first | exact Or.inl ⟨Or.inl (by omega), by omega, by omega, by omega, by omega, by omega, by omega⟩ | exact Or.inl ⟨Or.inr (by omega), by omega, by omega, by omega, by omega, by omega, by omega⟩ | exact Or.inr ⟨(fun z => z.elim (fun q => by omega) (fun q => by omega)), by omega, by omega, by omega, by omega, by omega, by omega⟩) (by first | exact Or.inl ⟨by omega, by omega, by omega, by omega, by omega, by omega, by omega⟩ | exact Or.inr ⟨by omega, by omega, by omega, by omega, by omega, by omega, by omega⟩) | assumption | omega) (by first | exact KpP_mk (by omega) (by omega) (by first | exact Or.inl ⟨Or.inl (by omega), by omega, by omega, by omega, by omega, by omega, by omega⟩ | exact Or.inl ⟨Or.inr (by omega), by omega, by omega, by omega, by omega, by omega, by omega⟩ | exact Or.inr ⟨(fun z => z.elim (fun q => by omega) (fun q => by omega)), by omega, by omega, by omega, by omega, by omega, by omega⟩) (by first | exact Or.inl ⟨by omega, by omega, by omega, by omega, by omega, by omega, by omega⟩ | exact Or.inr ⟨by omega, by omega, by omega, by omega, by omega, by omega, by omega⟩) | assumption | omega) (by first | exact KpP_mk (by omega) (by omega) (by first | exact Or.inl ⟨Or.inl (by omega), by omega, by omega, by omega, by omega, by omega, by omega⟩ | exact Or.inl ⟨Or.inr (by omega), by omega, by omega, by omega, by omega, by omega, by omega⟩ | exact Or.inr ⟨(fun z => z.elim (fun q => by omega) (fun q => by omega)), by omega, by omega, by omega, by omega, by omega, by omega⟩) (by first | exact Or.inl ⟨by omega, by omega, by omega, by omega, by omega, by omega, by omega⟩ | exact Or.inr ⟨by omega, by omega, by omega, by omega, by omega, by omega, by omega⟩) | assumption | omega) (by first | exact KpP_mk (by omega) (by omega) (by first | exact Or.inl ⟨Or.inl (by omega), by omega, by omega, by omega, by omega, by omega, by omega⟩ | exact Or.inl ⟨Or.inr (by omega), by omega, by omega, by omega, by omega, by omega, by omega⟩ | exact Or.inr ⟨(fun z => z.elim (fun q => by omega) (fun q => by omega)), by omega, by omega, by omega, by omega, by omega, by omega⟩) (by first | exact Or.inl ⟨by omega, by omega, by omega, by omega, by omega, by omega, by omega⟩ | exact Or.inr ⟨by omega, by omega, by omega, by omega, by omega, by omega, by omega⟩) | assumption | omega) Lst_h213t232)
theorem c_Lens_liveColumns5 {l : Launch} {rho : Nat → Int32} {d : Nat} {h : my_H} {Q : my_H → my_V → Prop} {x0 : Int} (t0 : my_is 4 x0) (k0 : ∀ (y : Int), LvI h x0 (h x0 4) y → Q h (0, y)) : wp l rho d 99 0 [(2, x0), (9, 0), (9, 0)] [] h Q := by
  refine v_know (x := x0) (j := 4) (b := 4) rfl t0 rd_4 rfl (fun ka0_4 eka0_4 pka0_4 qka0_4 => ?_)
  refine v_know (x := x0) (j := 8) (b := 8) rfl t0 rd_4 rfl (fun ka0_8 eka0_8 pka0_8 qka0_8 => ?_)
  have J7_0 : ∀ (n : Nat) (p7_0 p7_1 : Int), 0 ≤ p7_1 → p7_1 ≤ 8 → p7_1 ≤ ka0_4 → h x0 4 = ka0_4 → h x0 8 = ka0_8 → LvI h x0 p7_1 p7_0 → p7_1 ≤ h x0 4 → 9 - p7_1 ≤ (n : Int) → wp l rho d 99 7 [(2, x0), (0, p7_0), (0, p7_1)] [] h Q := by
    intro n
    induction n with
    | zero => intro p7_0 p7_1 q0_7_0 q1_7_0 q2_7_0 ca0_4_7_0 ca0_8_7_0 lv_7_0 le_7_0 hm_7_0; exfalso; omega
    | succ n ih_7_0 =>
      intro p7_0 p7_1 q0_7_0 q1_7_0 q2_7_0 ca0_4_7_0 ca0_8_7_0 lv_7_0 le_7_0 hm_7_0
      refine w_iload_n gz_99_7 rfl ?_
      refine w_aload_n gz_99_8 rfl ?_
      refine v_getI (j := 4) gz_99_9 rfl t0 rd_4 rfl (fun v1 ev1 pv1 qv1 => ?_)
      have zv1 := ev1.trans ca0_4_7_0
      refine w_icge (t := 45) gz_99_12 rfl (fun u2 => ?_) (fun u2 => ?_)
      ·
        refine w_iload_n gz_99_45 rfl ?_
        exact w_iret gz_99_46 gm_99 (k0 (p7_0) (by first | (have q := lv_7_0; rw [show p7_1 = h x0 4 by omega] at q; exact q) | assumption | omega))
      ·
        refine w_aload_n gz_99_15 rfl ?_
        refine w_getX (v := (x0 + 6)) gz_99_16 t0 rd_4 rfl (by decide) rfl ?_
        refine w_iload_n gz_99_19 rfl ?_
        refine w_iald gz_99_20 (ix_4_6 t0) rd_37 (by omega) (by omega) (fun v4 ev4 pv4 qv4 => ?_)
        refine w_iconst gz_99_21 (by decide) ?_
        have c4 : h (x0 + 6) p7_1 = v4 := by omega
        refine w_iceq (t := 39) gz_99_22 rfl (fun u5 => ?_) (fun u5 => ?_)
        ·
          refine w_iinc (ls' := [(2, x0), (0, p7_0), (0, (p7_1 + 1))]) gz_99_39 rfl gm_99 rfl rfl rfl ⟨by omega, by omega⟩ ?_
          refine w_goto (t := 7) gz_99_42 rfl ?_
          exact ih_7_0 (p7_0) ((p7_1 + 1)) (by omega) (by omega) (by omega) (ev1.symm.trans (by omega)) (ca0_8_7_0.trans (by omega)) (by first | exact LvI_0 (by omega) | exact LvI_n lv_7_0 (by omega) | exact LvI_y (by omega) lv_7_0 c4 (by omega) (by assumption) (by assumption) (by omega) | assumption | omega) (by omega) (by omega)
        ·
          refine w_iload_n gz_99_25 rfl ?_
          refine w_iconst gz_99_26 (by decide) ?_
          refine w_aload_n gz_99_27 rfl ?_
          refine w_getX (v := (x0 + 6)) gz_99_28 t0 rd_4 rfl (by decide) rfl ?_
          refine w_iload_n gz_99_31 rfl ?_
          refine w_iald gz_99_32 (ix_4_6 t0) rd_37 (by omega) (by omega) (fun v7 ev7 pv7 qv7 => ?_)
          have zv7 := ev7.trans ev4.symm
          refine w_bipush gz_99_33 (by decide) ?_
          refine w_irem gz_99_35 (by omega) (by decide) ?_
          refine w_ishlX gz_99_36 (fun v8 ev8 pv8 qv8 => ?_)
          refine w_iorX gz_99_37 (fun v9 ev9 pv9 qv9 => ?_)
          refine w_istore_n (ls' := [(2, x0), (0, v9), (0, p7_1)]) gz_99_38 gm_99 rfl rfl rfl ?_
          refine w_iinc (ls' := [(2, x0), (0, v9), (0, (p7_1 + 1))]) gz_99_39 rfl gm_99 rfl rfl rfl ⟨by omega, by omega⟩ ?_
          refine w_goto (t := 7) gz_99_42 rfl ?_
          exact ih_7_0 (v9) ((p7_1 + 1)) (by omega) (by omega) (by omega) (ev1.symm.trans (by omega)) (ca0_8_7_0.trans (by omega)) (by first | exact LvI_0 (by omega) | exact LvI_n lv_7_0 (by omega) | exact LvI_y (by omega) lv_7_0 c4 (by omega) (by assumption) (by assumption) (by omega) | assumption | omega) (by omega) (by omega)
  refine w_aload_n gz_99_0 rfl ?_
  refine v_getI (j := 8) gz_99_1 rfl t0 rd_4 rfl (fun v10 ev10 pv10 qv10 => ?_)
  have zv10 := ev10.trans eka0_8.symm
  refine w_istore_n (ls' := [(2, x0), (0, v10), (9, 0)]) gz_99_4 gm_99 rfl rfl rfl ?_
  refine w_iconst gz_99_5 (by decide) ?_
  refine w_istore_n (ls' := [(2, x0), (0, v10), (0, 0)]) gz_99_6 gm_99 rfl rfl rfl ?_
  exact J7_0 9 (v10) (0) (by omega) (by omega) (by omega) (eka0_4.symm.trans (by omega)) (ev10.symm.trans (by omega)) (by first | exact LvI_0 (by omega) | exact LvI_n lv_7_0 (by omega) | exact LvI_y (by omega) lv_7_0 c4 (by omega) (by assumption) (by assumption) (by omega) | assumption | omega) (by omega) (by omega)
end MYNDesk_isChangeable5
