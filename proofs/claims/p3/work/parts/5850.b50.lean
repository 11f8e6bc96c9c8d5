/-! contracts, printed by wip/gen/gy.py -/
section MYNView_rowOf5
theorem c_View_rowOf5 {l : Launch} {rho : Nat → Int32} {d : Nat} {h : my_H} {Q : my_H → my_V → Prop} {x0 x1 : Int} (t0 : my_is 8 x0) (a1 : 0 ≤ x1) (b1 : x1 ≤ 19) (k0 : RoI h x0 x1 (-1) → Q h (0, (-1))) (k1 : ∀ (y : Int), 0 ≤ y → y ≤ 10 → 1 ≤ h x0 0 → h x0 0 ≤ 11 → RoI h x0 x1 y → Q h (0, y)) : wp l rho (d + 1) 97 0 [(2, x0), (0, x1), (9, 0)] [] h Q := by
  have J2_0 : ∀ (n : Nat) (p2_0 : Int), 0 ≤ p2_0 → p2_0 ≤ 11 → (∀ i : Int, 0 ≤ i → i < p2_0 → h (x0 + 1) (17 * i + 16) ≠ x1) → 12 - p2_0 ≤ (n : Int) → wp l rho (d + 1) 97 2 [(2, x0), (0, x1), (0, p2_0)] [] h Q := by
    intro n
    induction n with
    | zero => intro p2_0 q0_2_0 q1_2_0 ne_2_0 hm_2_0; exfalso; omega
    | succ n ih_2_0 =>
      intro p2_0 q0_2_0 q1_2_0 ne_2_0 hm_2_0
      refine w_iload_n gz_97_2 rfl ?_
      refine w_aload_n gz_97_3 rfl ?_
      refine v_getI (j := 0) gz_97_4 rfl t0 rd_8 rfl (fun v1 ev1 pv1 qv1 => ?_)
      refine w_icge (t := 27) gz_97_7 rfl (fun u2 => ?_) (fun u2 => ?_)
      ·
        refine w_iconst gz_97_27 (by decide) ?_
        exact w_iret gz_97_28 gm_97 (k0 (by first | exact RoI_no ne_2_0 (by omega) | exact RoI_yes (by omega) (by omega) (by omega) ne_2_0 | assumption | omega))
      ·
        refine w_aload_n gz_97_10 rfl ?_
        refine w_iload_n gz_97_11 rfl ?_
        refine w_inv (k := 0) (as := [(0, p2_0)]) (r := []) (x := x0) (ls0 := [(2, x0), (0, p2_0)]) gz_97_12 gm_75 rfl t0 rd_8 rfl rfl rfl rfl rfl ?_
        refine w_aload_n gz_75_0 rfl ?_
        refine w_getX (v := (x0 + 1)) gz_75_1 t0 rd_8 rfl (by decide) rfl ?_
        refine w_iload_n gz_75_4 rfl ?_
        refine w_bipush gz_75_5 (by decide) ?_
        refine w_imul gz_75_7 ⟨by omega, by omega⟩ ?_
        refine w_bipush gz_75_8 (by decide) ?_
        refine w_iadd gz_75_10 ⟨by omega, by omega⟩ ?_
        refine w_gldT gz_75_11 (ix_8_1 t0) rd_42 (by omega) (by omega) (by omega) (fun v4 ev4 pv4 qv4 => ?_)
        refine w_iret gz_75_12 gm_75 ?_
        show wp l rho (d + 1) 97 15 [(2, x0), (0, x1), (0, p2_0)] [(0, v4)] h Q
        refine w_iload_n gz_97_15 rfl ?_
        have tg : h (x0 + 1) (17 * p2_0 + 16) = v4 := by rw [show 17 * p2_0 + 16 = ((p2_0 * 17) + 16) by omega]; omega
        refine w_icne (t := 21) gz_97_16 rfl (fun u5 => ?_) (fun u5 => ?_)
        ·
          refine w_iinc (ls' := [(2, x0), (0, x1), (0, (p2_0 + 1))]) gz_97_21 rfl gm_97 rfl rfl rfl ⟨by omega, by omega⟩ ?_
          refine w_goto (t := 2) gz_97_24 rfl ?_
          exact ih_2_0 ((p2_0 + 1)) (by omega) (by omega) (by first | exact st_0 | exact st_1 ne_2_0 (by omega) | assumption | omega) (by omega)
        ·
          refine w_iload_n gz_97_19 rfl ?_
          have c6 := ev1.symm
          exact w_iret gz_97_20 gm_97 (k1 (p2_0) (by omega) (by omega) (by omega) (by omega) (by first | exact RoI_no ne_2_0 (by omega) | exact RoI_yes (by omega) (by omega) (by omega) ne_2_0 | assumption | omega))
  refine w_iconst gz_97_0 (by decide) ?_
  refine w_istore_n (ls' := [(2, x0), (0, x1), (0, 0)]) gz_97_1 gm_97 rfl rfl rfl ?_
  exact J2_0 12 (0) (by omega) (by omega) (by first | exact st_0 | exact st_1 ne_2_0 (by omega) | assumption | omega) (by omega)
theorem c_Desk_tellingRows5 {l : Launch} {rho : Nat → Int32} {d : Nat} {h : my_H} {Q : my_H → my_V → Prop} {x1 : Int} (t1 : my_is 4 x1) (hor : h 94 15 ≠ 2 → 0 ≤ h 94 16 ∧ h 94 16 ≤ 9) (hob : h 94 15 ≠ 2 → h 94 16 < h 98 0) (hbn : ∀ i : Nat, (i : Int) < h 98 0 → zqBe (zqE h 98 (h 98 1) i).2) (k0 : ∀ (y : Int), ((h x1 7 ≠ 0 → y = -1) ∧ (h x1 7 = 0 → TeI h (h x1 2) y 20)) → Q h (1, y)) : wp l rho (d + 2) 96 0 [(2, 94), (2, x1), (9, 0), (9, 0), (9, 0), (9, 0)] [] h Q := by
  have J16_0 : ∀ (n : Nat) (z16_l2 p16_0 : Int), 0 ≤ p16_0 → p16_0 ≤ 20 → h x1 7 = 0 → TeI h (h x1 2) z16_l2 p16_0 → 21 - p16_0 ≤ (n : Int) → wp l rho (d + 2) 96 16 [(2, 94), (2, x1), (1, z16_l2), (9, 0), (0, p16_0), (9, 0)] [] h Q := by
    intro n
    induction n with
    | zero => intro z16_l2 p16_0 q0_16_0 q1_16_0 ca1_7_16_0 te_16_0 hm_16_0; exfalso; omega
    | succ n ih_16_0 =>
      intro z16_l2 p16_0 q0_16_0 q1_16_0 ca1_7_16_0 te_16_0 hm_16_0
      refine w_iload gz_96_16 rfl ?_
      refine w_bipush gz_96_18 (by decide) ?_
      refine w_icge (t := 121) gz_96_20 rfl (fun u1 => ?_) (fun u1 => ?_)
      ·
        refine w_lload_n gz_96_121 rfl ?_
        exact w_lret gz_96_122 gm_96 (k0 (z16_l2) (by first | exact ⟨(fun _ => by omega), (fun z => by exfalso; omega)⟩ | exact ⟨(fun z => by exfalso; omega), (fun _ => by have q := te_16_0; rw [show p16_0 = 20 by omega] at q; exact q)⟩ | assumption | omega))
      ·
        refine w_aload_n gz_96_23 rfl ?_
        refine w_getX (v := 95) gz_96_24 is_94 rd_2 rfl (by decide) rfl ?_
        refine w_aload_n gz_96_27 rfl ?_
        refine v_getI (j := 2) gz_96_28 rfl t1 rd_4 rfl (fun v3 ev3 pv3 qv3 => ?_)
        refine w_iload gz_96_31 rfl ?_
        refine w_inv (k := 0) (as := [(0, p16_0), (0, v3)]) (r := []) (x := 95) (ls0 := [(2, 95), (0, v3), (0, p16_0)]) gz_96_33 gm_15 rfl is_95 rd_6 rfl rfl rfl rfl rfl ?_
        refine w_iload_n gz_15_0 rfl ?_
        refine w_iflt (t := 31) gz_15_1 rfl (fun u4 => by exfalso; omega) (fun u4 => ?_)
        refine w_iload_n gz_15_4 rfl ?_
        refine w_bipush gz_15_5 (by decide) ?_
        refine w_icge (t := 31) gz_15_7 rfl (fun u5 => by exfalso; omega) (fun u5 => ?_)
        refine w_aload_n gz_15_10 rfl ?_
        refine w_getX (v := 96) gz_15_11 is_95 rd_6 rfl (by decide) rfl ?_
        refine w_iload_n gz_15_14 rfl ?_
        refine w_bipush gz_15_15 (by decide) ?_
        refine w_imul gz_15_17 ⟨by omega, by omega⟩ ?_
        refine w_iload_n gz_15_18 rfl ?_
        refine w_iadd gz_15_19 ⟨by omega, by omega⟩ ?_
        refine w_iconst gz_15_20 (by decide) ?_
        refine w_imul gz_15_21 ⟨by omega, by omega⟩ ?_
        refine w_iald gz_15_22 is_96 rd_30 (by omega) (by omega) (fun v7 ev7 pv7 qv7 => ?_)
        refine w_iconst gz_15_23 (by decide) ?_
        refine w_iceq (t := 31) gz_15_24 rfl (fun u8 => ?_) (fun u8 => ?_)
        ·
          refine w_iconst gz_15_31 (by decide) ?_
          refine w_bret gz_15_32 gm_15 (by omega) (by omega) ?_
          show wp l rho (d + 2) 96 36 [(2, 94), (2, x1), (1, z16_l2), (9, 0), (0, p16_0), (9, 0)] [(0, 0)] h Q
          have hc : h 96 (80 * h x1 2 + 4 * p16_0) = h 96 ((((v3 * 20) + p16_0) * 4)) := congrArg (h 96) (by omega)
          refine w_ifeq (t := 115) gz_96_36 rfl (fun u9 => ?_) (fun u9 => by exfalso; omega)
          refine w_iinc (ls' := [(2, 94), (2, x1), (1, z16_l2), (9, 0), (0, (p16_0 + 1)), (9, 0)]) gz_96_115 rfl gm_96 rfl rfl rfl ⟨by omega, by omega⟩ ?_
          refine w_goto (t := 16) gz_96_118 rfl ?_
          exact ih_16_0 (z16_l2) ((p16_0 + 1)) (by omega) (by omega) (ca1_7_16_0.trans (by omega)) (by first | exact TeI_0 rfl | exact TeI_n te_16_0 (Or.inl (by omega)) | exact TeI_y (by omega) (by assumption) te_16_0 (by omega) tk (by omega) | exact TeI_n te_16_0 (Or.inr (TlN (by omega) ro (by first | exact Or.inl ⟨by omega, by omega⟩ | exact Or.inr ⟨by omega, Or.inl (by omega)⟩ | exact Or.inr ⟨by omega, Or.inr (fun z => zqCmp_ne cq (by omega) (by rw [z16]; exact z))⟩))) | assumption | omega) (by omega)
        ·
          refine w_iconst gz_15_27 (by decide) ?_
          refine w_goto (t := 32) gz_15_28 rfl ?_
          refine w_bret gz_15_32 gm_15 (by omega) (by omega) ?_
          show wp l rho (d + 2) 96 36 [(2, 94), (2, x1), (1, z16_l2), (9, 0), (0, p16_0), (9, 0)] [(0, 1)] h Q
          have hc : h 96 (80 * h x1 2 + 4 * p16_0) = h 96 ((((v3 * 20) + p16_0) * 4)) := congrArg (h 96) (by omega)
          refine w_ifeq (t := 115) gz_96_36 rfl (fun u10 => by exfalso; omega) (fun u10 => ?_)
          refine w_aload_n gz_96_39 rfl ?_
          refine w_getX (v := 98) gz_96_40 is_94 rd_2 rfl (by decide) rfl ?_
          refine w_iload gz_96_43 rfl ?_
          refine w_inv (k := 1) (as := [(0, p16_0)]) (r := []) (x := 98) (ls0 := [(2, 98), (0, p16_0), (9, 0)]) gz_96_45 gm_97 rfl is_98 rd_8 rfl rfl rfl rfl rfl (c_View_rowOf5 (d := d) (x0 := 98) (x1 := p16_0) is_98 (by omega) (by omega) (fun xp12 => ?_) (fun v13 w14 w15 w16 w17 xp18 => ?_))
          ·
            show wp l rho (d + 2) 96 48 [(2, 94), (2, x1), (1, z16_l2), (9, 0), (0, p16_0), (9, 0)] [(0, (-1))] h Q
            have ro := xp12
            refine w_istore (ls' := [(2, 94), (2, x1), (1, z16_l2), (9, 0), (0, p16_0), (0, (-1))]) gz_96_48 gm_96 rfl rfl rfl ?_
            refine w_aload_n gz_96_50 rfl ?_
            refine v_getI (j := 14) gz_96_51 rfl is_94 rd_2 rfl (fun v19 ev19 pv19 qv19 => ?_)
            refine w_ifne (t := 102) gz_96_54 rfl (fun u20 => ?_) (fun u20 => ?_)
            ·
              have tk : TlK h p16_0 := by first | exact Or.inl (by omega) | exact Or.inr ⟨_, ro, Or.inl ⟨by omega, by omega⟩⟩ | exact Or.inr ⟨_, ro, Or.inr ⟨by omega, by omega, ce (by omega)⟩⟩
              refine w_lload_n gz_96_102 rfl ?_
              refine w_aload_n gz_96_103 rfl ?_
              refine w_getX (v := 98) gz_96_104 is_94 rd_2 rfl (by decide) rfl ?_
              refine w_getX (v := 101) gz_96_107 is_98 rd_8 rfl (by decide) rfl ?_
              refine w_iload gz_96_110 rfl ?_
              refine w_lald gz_96_112 is_101 rd_44 (by omega) (by omega) (fun v23 ev23 pv23 => ?_)
              refine w_lorX gz_96_113 (fun v24 ev24 pv24 => ?_)
              refine w_lstore_n (ls' := [(2, 94), (2, x1), (1, v24), (9, 0), (0, p16_0), (0, (-1))]) gz_96_114 gm_96 rfl rfl rfl ?_
              refine w_iinc (ls' := [(2, 94), (2, x1), (1, v24), (9, 0), (0, (p16_0 + 1)), (0, (-1))]) gz_96_115 rfl gm_96 rfl rfl rfl ⟨by omega, by omega⟩ ?_
              refine w_goto (t := 16) gz_96_118 rfl ?_
              refine w_weak (ls' := [(2, 94), (2, x1), (1, v24), (9, 0), (0, (p16_0 + 1)), (9, 0)]) (wk_e (wk_e (wk_e (wk_9 (wk_e (wk_9 wk_n)))))) ?_
              exact ih_16_0 (v24) ((p16_0 + 1)) (by omega) (by omega) (ca1_7_16_0.trans (by omega)) (by first | exact TeI_0 rfl | exact TeI_n te_16_0 (Or.inl (by omega)) | exact TeI_y (by omega) (by assumption) te_16_0 (by omega) tk (by omega) | exact TeI_n te_16_0 (Or.inr (TlN (by omega) ro (by first | exact Or.inl ⟨by omega, by omega⟩ | exact Or.inr ⟨by omega, Or.inl (by omega)⟩ | exact Or.inr ⟨by omega, Or.inr (fun z => zqCmp_ne cq (by omega) (by rw [z16]; exact z))⟩))) | assumption | omega) (by omega)
            ·
              refine w_iload gz_96_57 rfl ?_
              refine w_iconst gz_96_59 (by decide) ?_
              refine w_icne (t := 74) gz_96_60 rfl (fun u25 => by exfalso; omega) (fun u25 => ?_)
              refine w_aload_n gz_96_63 rfl ?_
              refine v_getI (j := 15) gz_96_64 rfl is_94 rd_2 rfl (fun v26 ev26 pv26 qv26 => ?_)
              refine w_iconst gz_96_67 (by decide) ?_
              refine w_icne (t := 115) gz_96_68 rfl (fun u27 => ?_) (fun u27 => ?_)
              ·
                refine w_iinc (ls' := [(2, 94), (2, x1), (1, z16_l2), (9, 0), (0, (p16_0 + 1)), (0, (-1))]) gz_96_115 rfl gm_96 rfl rfl rfl ⟨by omega, by omega⟩ ?_
                refine w_goto (t := 16) gz_96_118 rfl ?_
                refine w_weak (ls' := [(2, 94), (2, x1), (1, z16_l2), (9, 0), (0, (p16_0 + 1)), (9, 0)]) (wk_e (wk_e (wk_e (wk_9 (wk_e (wk_9 wk_n)))))) ?_
                exact ih_16_0 (z16_l2) ((p16_0 + 1)) (by omega) (by omega) (ca1_7_16_0.trans (by omega)) (by first | exact TeI_0 rfl | exact TeI_n te_16_0 (Or.inl (by omega)) | exact TeI_y (by omega) (by assumption) te_16_0 (by omega) tk (by omega) | exact TeI_n te_16_0 (Or.inr (TlN (by omega) ro (by first | exact Or.inl ⟨by omega, by omega⟩ | exact Or.inr ⟨by omega, Or.inl (by omega)⟩ | exact Or.inr ⟨by omega, Or.inr (fun z => zqCmp_ne cq (by omega) (by rw [z16]; exact z))⟩))) | assumption | omega) (by omega)
              ·
                refine w_goto (t := 102) gz_96_71 rfl ?_
                have tk : TlK h p16_0 := by first | exact Or.inl (by omega) | exact Or.inr ⟨_, ro, Or.inl ⟨by omega, by omega⟩⟩ | exact Or.inr ⟨_, ro, Or.inr ⟨by omega, by omega, ce (by omega)⟩⟩
                refine w_lload_n gz_96_102 rfl ?_
                refine w_aload_n gz_96_103 rfl ?_
                refine w_getX (v := 98) gz_96_104 is_94 rd_2 rfl (by decide) rfl ?_
                refine w_getX (v := 101) gz_96_107 is_98 rd_8 rfl (by decide) rfl ?_
                refine w_iload gz_96_110 rfl ?_
                refine w_lald gz_96_112 is_101 rd_44 (by omega) (by omega) (fun v30 ev30 pv30 => ?_)
                refine w_lorX gz_96_113 (fun v31 ev31 pv31 => ?_)
                refine w_lstore_n (ls' := [(2, 94), (2, x1), (1, v31), (9, 0), (0, p16_0), (0, (-1))]) gz_96_114 gm_96 rfl rfl rfl ?_
                refine w_iinc (ls' := [(2, 94), (2, x1), (1, v31), (9, 0), (0, (p16_0 + 1)), (0, (-1))]) gz_96_115 rfl gm_96 rfl rfl rfl ⟨by omega, by omega⟩ ?_
                refine w_goto (t := 16) gz_96_118 rfl ?_
                refine w_weak (ls' := [(2, 94), (2, x1), (1, v31), (9, 0), (0, (p16_0 + 1)), (9, 0)]) (wk_e (wk_e (wk_e (wk_9 (wk_e (wk_9 wk_n)))))) ?_
                exact ih_16_0 (v31) ((p16_0 + 1)) (by omega) (by omega) (ca1_7_16_0.trans (by omega)) (by first | exact TeI_0 rfl | exact TeI_n te_16_0 (Or.inl (by omega)) | exact TeI_y (by omega) (by assumption) te_16_0 (by omega) tk (by omega) | exact TeI_n te_16_0 (Or.inr (TlN (by omega) ro (by first | exact Or.inl ⟨by omega, by omega⟩ | exact Or.inr ⟨by omega, Or.inl (by omega)⟩ | exact Or.inr ⟨by omega, Or.inr (fun z => zqCmp_ne cq (by omega) (by rw [z16]; exact z))⟩))) | assumption | omega) (by omega)
          ·
            show wp l rho (d + 2) 96 48 [(2, 94), (2, x1), (1, z16_l2), (9, 0), (0, p16_0), (9, 0)] [(0, v13)] h Q
            have ro := xp18
            refine w_istore (ls' := [(2, 94), (2, x1), (1, z16_l2), (9, 0), (0, p16_0), (0, v13)]) gz_96_48 gm_96 rfl rfl rfl ?_
            refine w_aload_n gz_96_50 rfl ?_
            refine v_getI (j := 14) gz_96_51 rfl is_94 rd_2 rfl (fun v32 ev32 pv32 qv32 => ?_)
            refine w_ifne (t := 102) gz_96_54 rfl (fun u33 => ?_) (fun u33 => ?_)
            ·
              have tk : TlK h p16_0 := by first | exact Or.inl (by omega) | exact Or.inr ⟨_, ro, Or.inl ⟨by omega, by omega⟩⟩ | exact Or.inr ⟨_, ro, Or.inr ⟨by omega, by omega, ce (by omega)⟩⟩
              refine w_lload_n gz_96_102 rfl ?_
              refine w_aload_n gz_96_103 rfl ?_
              refine w_getX (v := 98) gz_96_104 is_94 rd_2 rfl (by decide) rfl ?_
              refine w_getX (v := 101) gz_96_107 is_98 rd_8 rfl (by decide) rfl ?_
              refine w_iload gz_96_110 rfl ?_
              refine w_lald gz_96_112 is_101 rd_44 (by omega) (by omega) (fun v36 ev36 pv36 => ?_)
              refine w_lorX gz_96_113 (fun v37 ev37 pv37 => ?_)
              refine w_lstore_n (ls' := [(2, 94), (2, x1), (1, v37), (9, 0), (0, p16_0), (0, v13)]) gz_96_114 gm_96 rfl rfl rfl ?_
              refine w_iinc (ls' := [(2, 94), (2, x1), (1, v37), (9, 0), (0, (p16_0 + 1)), (0, v13)]) gz_96_115 rfl gm_96 rfl rfl rfl ⟨by omega, by omega⟩ ?_
              refine w_goto (t := 16) gz_96_118 rfl ?_
              refine w_weak (ls' := [(2, 94), (2, x1), (1, v37), (9, 0), (0, (p16_0 + 1)), (9, 0)]) (wk_e (wk_e (wk_e (wk_9 (wk_e (wk_9 wk_n)))))) ?_
              exact ih_16_0 (v37) ((p16_0 + 1)) (by omega) (by omega) (ca1_7_16_0.trans (by omega)) (by first | exact TeI_0 rfl | exact TeI_n te_16_0 (Or.inl (by omega)) | exact TeI_y (by omega) (by assumption) te_16_0 (by omega) tk (by omega) | exact TeI_n te_16_0 (Or.inr (TlN (by omega) ro (by first | exact Or.inl ⟨by omega, by omega⟩ | exact Or.inr ⟨by omega, Or.inl (by omega)⟩ | exact Or.inr ⟨by omega, Or.inr (fun z => zqCmp_ne cq (by omega) (by rw [z16]; exact z))⟩))) | assumption | omega) (by omega)
            ·
              refine w_iload gz_96_57 rfl ?_
              refine w_iconst gz_96_59 (by decide) ?_
              refine w_icne (t := 74) gz_96_60 rfl (fun u38 => ?_) (fun u38 => by exfalso; omega)
              refine w_aload_n gz_96_74 rfl ?_
              refine v_getI (j := 15) gz_96_75 rfl is_94 rd_2 rfl (fun v39 ev39 pv39 qv39 => ?_)
              refine w_iconst gz_96_78 (by decide) ?_
              refine w_iceq (t := 115) gz_96_79 rfl (fun u40 => ?_) (fun u40 => ?_)
              ·
                refine w_iinc (ls' := [(2, 94), (2, x1), (1, z16_l2), (9, 0), (0, (p16_0 + 1)), (0, v13)]) gz_96_115 rfl gm_96 rfl rfl rfl ⟨by omega, by omega⟩ ?_
                refine w_goto (t := 16) gz_96_118 rfl ?_
                refine w_weak (ls' := [(2, 94), (2, x1), (1, z16_l2), (9, 0), (0, (p16_0 + 1)), (9, 0)]) (wk_e (wk_e (wk_e (wk_9 (wk_e (wk_9 wk_n)))))) ?_
                exact ih_16_0 (z16_l2) ((p16_0 + 1)) (by omega) (by omega) (ca1_7_16_0.trans (by omega)) (by first | exact TeI_0 rfl | exact TeI_n te_16_0 (Or.inl (by omega)) | exact TeI_y (by omega) (by assumption) te_16_0 (by omega) tk (by omega) | exact TeI_n te_16_0 (Or.inr (TlN (by omega) ro (by first | exact Or.inl ⟨by omega, by omega⟩ | exact Or.inr ⟨by omega, Or.inl (by omega)⟩ | exact Or.inr ⟨by omega, Or.inr (fun z => zqCmp_ne cq (by omega) (by rw [z16]; exact z))⟩))) | assumption | omega) (by omega)
              ·
                refine w_aload_n gz_96_82 rfl ?_
                refine w_getX (v := 98) gz_96_83 is_94 rd_2 rfl (by decide) rfl ?_
                refine w_iload gz_96_86 rfl ?_
                refine w_aload_n gz_96_88 rfl ?_
                refine w_getX (v := 98) gz_96_89 is_94 rd_2 rfl (by decide) rfl ?_
                refine w_aload_n gz_96_92 rfl ?_
                refine v_getI (j := 16) gz_96_93 rfl is_94 rd_2 rfl (fun v43 ev43 pv43 qv43 => ?_)
                have rp : 0 ≤ v13 ∧ v13 < h 98 0 := by rcases ro with ⟨z, _⟩ | ⟨z, y, _⟩ <;> omega
                have hb1 : zqBe (zqE h 98 (h 98 1) (v13).toNat).2 := hbn _ (by omega)
                have hb2 : zqBe (zqE h 98 (h 98 1) (v43).toNat).2 := hbn _ (by omega)
                have hi44 : 0 ≤ v43 := by omega
                have hi45 : v43 ≤ 9 := by omega
                refine w_inv (k := 2) (as := [(0, v43), (2, 98), (0, v13)]) (r := []) (x := 98) (ls0 := [(2, 98), (0, v13), (2, 98), (0, v43), (9, 0), (9, 0)]) gz_96_96 gm_80 rfl is_98 rd_8 rfl rfl rfl rfl rfl (c_View_compare5 (d := (d + 1)) (x0 := 98) (x1 := v13) (x2 := 98) (x3 := v43) is_98 (by omega) (by omega) (by omega) (by omega) is_98 (by omega) (by omega) (by omega) (by omega) (by first | assumption | exact no_such_saying | exact Fp_told (by omega) (by omega) | omega | (subst_vars; omega) | omega) (by first | assumption | exact no_such_saying | exact Fp_told (by omega) (by omega) | omega | (subst_vars; omega) | omega) (fun xp46 => ?_) (fun v47 w48 w49 w50 w51 xp52 => ?_))
                ·
                  show wp l rho (d + 2) 96 99 [(2, 94), (2, x1), (1, z16_l2), (9, 0), (0, p16_0), (0, v13)] [(0, 0)] h Q
                  have cq := xp46
                  have z16 : v43 = h 94 16 := by omega
                  have ce := fun q => (by have z := cq.1 q; rw [z16] at z; exact z)
                  refine w_ifne (t := 115) gz_96_99 rfl (fun u53 => by exfalso; omega) (fun u53 => ?_)
                  have tk : TlK h p16_0 := by first | exact Or.inl (by omega) | exact Or.inr ⟨_, ro, Or.inl ⟨by omega, by omega⟩⟩ | exact Or.inr ⟨_, ro, Or.inr ⟨by omega, by omega, ce (by omega)⟩⟩
                  refine w_lload_n gz_96_102 rfl ?_
                  refine w_aload_n gz_96_103 rfl ?_
                  refine w_getX (v := 98) gz_96_104 is_94 rd_2 rfl (by decide) rfl ?_
                  refine w_getX (v := 101) gz_96_107 is_98 rd_8 rfl (by decide) rfl ?_
                  refine w_iload gz_96_110 rfl ?_
                  refine w_lald gz_96_112 is_101 rd_44 (by omega) (by omega) (fun v56 ev56 pv56 => ?_)
                  refine w_lorX gz_96_113 (fun v57 ev57 pv57 => ?_)
                  refine w_lstore_n (ls' := [(2, 94), (2, x1), (1, v57), (9, 0), (0, p16_0), (0, v13)]) gz_96_114 gm_96 rfl rfl rfl ?_
                  refine w_iinc (ls' := [(2, 94), (2, x1), (1, v57), (9, 0), (0, (p16_0 + 1)), (0, v13)]) gz_96_115 rfl gm_96 rfl rfl rfl ⟨by omega, by omega⟩ ?_
                  refine w_goto (t := 16) gz_96_118 rfl ?_
                  refine w_weak (ls' := [(2, 94), (2, x1), (1, v57), (9, 0), (0, (p16_0 + 1)), (9, 0)]) (wk_e (wk_e (wk_e (wk_9 (wk_e (wk_9 wk_n)))))) ?_
                  exact ih_16_0 (v57) ((p16_0 + 1)) (by omega) (by omega) (ca1_7_16_0.trans (by omega)) (by first | exact TeI_0 rfl | exact TeI_n te_16_0 (Or.inl (by omega)) | exact TeI_y (by omega) (by assumption) te_16_0 (by omega) tk (by omega) | exact TeI_n te_16_0 (Or.inr (TlN (by omega) ro (by first | exact Or.inl ⟨by omega, by omega⟩ | exact Or.inr ⟨by omega, Or.inl (by omega)⟩ | exact Or.inr ⟨by omega, Or.inr (fun z => zqCmp_ne cq (by omega) (by rw [z16]; exact z))⟩))) | assumption | omega) (by omega)
                ·
                  show wp l rho (d + 2) 96 99 [(2, 94), (2, x1), (1, z16_l2), (9, 0), (0, p16_0), (0, v13)] [(0, v47)] h Q
                  have cq := xp52
                  have z16 : v43 = h 94 16 := by omega
                  have ce := fun q => (by have z := cq.1 q; rw [z16] at z; exact z)
                  refine w_ifne (t := 115) gz_96_99 rfl (fun u58 => ?_) (fun u58 => ?_)
                  ·
                    refine w_iinc (ls' := [(2, 94), (2, x1), (1, z16_l2), (9, 0), (0, (p16_0 + 1)), (0, v13)]) gz_96_115 rfl gm_96 rfl rfl rfl ⟨by omega, by omega⟩ ?_
                    refine w_goto (t := 16) gz_96_118 rfl ?_
                    refine w_weak (ls' := [(2, 94), (2, x1), (1, z16_l2), (9, 0), (0, (p16_0 + 1)), (9, 0)]) (wk_e (wk_e (wk_e (wk_9 (wk_e (wk_9 wk_n)))))) ?_
                    exact ih_16_0 (z16_l2) ((p16_0 + 1)) (by omega) (by omega) (ca1_7_16_0.trans (by omega)) (by first | exact TeI_0 rfl | exact TeI_n te_16_0 (Or.inl (by omega)) | exact TeI_y (by omega) (by assumption) te_16_0 (by omega) tk (by omega) | exact TeI_n te_16_0 (Or.inr (TlN (by omega) ro (by first | exact Or.inl ⟨by omega, by omega⟩ | exact Or.inr ⟨by omega, Or.inl (by omega)⟩ | exact Or.inr ⟨by omega, Or.inr (fun z => zqCmp_ne cq (by omega) (by rw [z16]; exact z))⟩))) | assumption | omega) (by omega)
                  ·
                    have tk : TlK h p16_0 := by first | exact Or.inl (by omega) | exact Or.inr ⟨_, ro, Or.inl ⟨by omega, by omega⟩⟩ | exact Or.inr ⟨_, ro, Or.inr ⟨by omega, by omega, ce (by omega)⟩⟩
                    refine w_lload_n gz_96_102 rfl ?_
                    refine w_aload_n gz_96_103 rfl ?_
                    refine w_getX (v := 98) gz_96_104 is_94 rd_2 rfl (by decide) rfl ?_
                    refine w_getX (v := 101) gz_96_107 is_98 rd_8 rfl (by decide) rfl ?_
                    refine w_iload gz_96_110 rfl ?_
                    refine w_lald gz_96_112 is_101 rd_44 (by omega) (by omega) (fun v61 ev61 pv61 => ?_)
                    refine w_lorX gz_96_113 (fun v62 ev62 pv62 => ?_)
                    refine w_lstore_n (ls' := [(2, 94), (2, x1), (1, v62), (9, 0), (0, p16_0), (0, v13)]) gz_96_114 gm_96 rfl rfl rfl ?_
                    refine w_iinc (ls' := [(2, 94), (2, x1), (1, v62), (9, 0), (0, (p16_0 + 1)), (0, v13)]) gz_96_115 rfl gm_96 rfl rfl rfl ⟨by omega, by omega⟩ ?_
                    refine w_goto (t := 16) gz_96_118 rfl ?_
                    refine w_weak (ls' := [(2, 94), (2, x1), (1, v62), (9, 0), (0, (p16_0 + 1)), (9, 0)]) (wk_e (wk_e (wk_e (wk_9 (wk_e (wk_9 wk_n)))))) ?_
                    exact ih_16_0 (v62) ((p16_0 + 1)) (by omega) (by omega) (ca1_7_16_0.trans (by omega)) (by first | exact TeI_0 rfl | exact TeI_n te_16_0 (Or.inl (by omega)) | exact TeI_y (by omega) (by assumption) te_16_0 (by omega) tk (by omega) | exact TeI_n te_16_0 (Or.inr (TlN (by omega) ro (by first | exact Or.inl ⟨by omega, by omega⟩ | exact Or.inr ⟨by omega, Or.inl (by omega)⟩ | exact Or.inr ⟨by omega, Or.inr (fun z => zqCmp_ne cq (by omega) (by rw [z16]; exact z))⟩))) | assumption | omega) (by omega)
  refine w_aload_n gz_96_0 rfl ?_
  refine v_getI (j := 7) gz_96_1 rfl t1 rd_4 rfl (fun v63 ev63 pv63 qv63 => ?_)
  refine w_ifeq (t := 11) gz_96_4 rfl (fun u64 => ?_) (fun u64 => ?_)
  ·
    refine w_lconst gz_96_11 ?_
    refine w_lstore_n (ls' := [(2, 94), (2, x1), (1, (((0 : Fin 2).val : Nat) : Int)), (9, 0), (9, 0), (9, 0)]) gz_96_12 gm_96 rfl rfl rfl ?_
    refine w_iconst gz_96_13 (by decide) ?_
    refine w_istore (ls' := [(2, 94), (2, x1), (1, (((0 : Fin 2).val : Nat) : Int)), (9, 0), (0, 0), (9, 0)]) gz_96_14 gm_96 rfl rfl rfl ?_
    exact J16_0 21 ((((0 : Fin 2).val : Nat) : Int)) (0) (by omega) (by omega) (ev63.symm.trans (by omega)) (by first | exact TeI_0 rfl | exact TeI_n te_16_0 (Or.inl (by omega)) | exact TeI_y (by omega) (by assumption) te_16_0 (by omega) tk (by omega) | exact TeI_n te_16_0 (Or.inr (TlN (by omega) ro (by first | exact Or.inl ⟨by omega, by omega⟩ | exact Or.inr ⟨by omega, Or.inl (by omega)⟩ | exact Or.inr ⟨by omega, Or.inr (fun z => zqCmp_ne cq (by omega) (by rw [z16]; exact z))⟩))) | assumption | omega) (by omega)
  ·
    refine w_ldc2M gz_96_7 (fun v65 ev65 pv65 => ?_)
    exact w_lret gz_96_10 gm_96 (k0 (v65) (by first | exact ⟨(fun _ => by omega), (fun z => by exfalso; omega)⟩ | exact ⟨(fun z => by exfalso; omega), (fun _ => by have q := te_16_0; rw [show 0 = 20 by omega] at q; exact q)⟩ | assumption | omega))
end MYNView_rowOf5
