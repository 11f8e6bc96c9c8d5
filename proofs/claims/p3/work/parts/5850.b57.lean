/-! contracts, printed by wip/gen/gy.py -/
section MYNDesk_tryRowsThatGo5
theorem c_Desk_tryRowsThatGo5 {l : Launch} {rho : Nat → Int32} {d : Nat} {h : my_H} {Q : my_H → my_V → Prop} {x1 x2 x3 : Int} (t1 : my_is 6 x1) (a2 : 0 ≤ x2) (b2 : x2 ≤ 5) (n_Lst : Lst h) (n_Ln : Ln h) (n_Td : Td h x2) (hk : SrC h x2) (htp : TlP h x2 x3) (hd : DkE h (h 2) (LLh h x2)) (hw : ∀ j : Int, 0 ≤ j → j < 240 → h (x1 + 1) j = h 96 j) (hz : ∀ j : Int, 0 ≤ j → j < 3 → h (x1 + 2) j = h 97 j) (xb : zqXf x1) (k0 : ∀ (h' : my_H), my_fr [(2, 11), (7, 0), (7, 1), (7, 2), (7, 3), (7, 4), (7, 5), (8, 0), (8, 1), (30, -1), (31, -1), (42, -1), (43, -1), (44, -1)] h h' → TgI h h' x2 60 → h' 111 4 = -1 ∧ h' 111 5 = -1 → (∀ k j : Int, 0 ≤ k → (k < 94 ∨ 120 ≤ k ∧ k < 151) → h' k j = h k j) → Lst h' → Q h' (9, 0)) : wp l rho (d + 4) 104 0 [(2, 94), (2, x1), (0, x2), (1, x3), (9, 0), (9, 0), (9, 0), (9, 0), (9, 0)] [] h Q := by
  have xb0 := t1.1
  have J10_0 : ∀ (n : Nat) (z10_l3 p10_0 : Int) (h10_0 : my_H), my_fr [(2, 11), (7, 0), (7, 1), (7, 2), (7, 3), (7, 4), (7, 5), (8, 0), (8, 1), (30, -1), (31, -1), (42, -1), (43, -1), (44, -1)] h h10_0 → 0 ≤ p10_0 → p10_0 ≤ 3 → Lst h10_0 → Ln h10_0 → Td h10_0 x2 → z10_l3 = x3 → h10_0 111 4 = -1 → h10_0 111 5 = -1 → (∀ k j : Int, 0 ≤ k → (k < 94 ∨ 120 ≤ k ∧ k < 151) → h10_0 k j = h k j) → TgI h h10_0 x2 (20 * p10_0) → 4 - p10_0 ≤ (n : Int) → wp l rho (d + 4) 104 10 [(2, 94), (2, x1), (0, x2), (1, z10_l3), (9, 0), (0, p10_0), (9, 0), (9, 0), (9, 0)] [] h10_0 Q := by
    intro n
    induction n with
    | zero => intro z10_l3 p10_0 h10_0 gh_10_0 q0_10_0 q1_10_0 n_Lst_10_0 n_Ln_10_0 n_Td_10_0 tl_10_0 k4_10_0 k5_10_0 bf_10_0 tg_10_0 hm_10_0; exfalso; omega
    | succ n ih_10_0 =>
      intro z10_l3 p10_0 h10_0 gh_10_0 q0_10_0 q1_10_0 n_Lst_10_0 n_Ln_10_0 n_Td_10_0 tl_10_0 k4_10_0 k5_10_0 bf_10_0 tg_10_0 hm_10_0
      have J36_0 : ∀ (n : Nat) (z36_l3 p36_0 p36_1 : Int) (h36_0 : my_H), my_fr [(2, 11), (7, 0), (7, 1), (7, 2), (7, 3), (7, 4), (7, 5), (8, 0), (8, 1), (30, -1), (31, -1), (42, -1), (43, -1), (44, -1)] h h36_0 → p10_0 ≤ 2 → 0 ≤ p36_0 → p36_0 ≤ 1 → 0 ≤ p36_1 → p36_1 ≤ 20 → Lst h36_0 → Ln h36_0 → Td h36_0 x2 → z36_l3 = x3 → h36_0 111 4 = -1 → h36_0 111 5 = -1 → (∀ k j : Int, 0 ≤ k → (k < 94 ∨ 120 ≤ k ∧ k < 151) → h36_0 k j = h k j) → TgI h h36_0 x2 (20 * p10_0 + p36_1) → ((p36_0 ≠ 0 → zqlb (h (h 27 x2) 6) p10_0) ∧ (p36_0 = 0 → ¬ zqlb (h (h 27 x2) 6) p10_0)) → 21 - p36_1 ≤ (n : Int) → wp l rho (d + 4) 104 36 [(2, 94), (2, x1), (0, x2), (1, z36_l3), (9, 0), (0, p10_0), (0, p36_0), (0, p36_1), (9, 0)] [] h36_0 Q := by
        intro n
        induction n with
        | zero => intro z36_l3 p36_0 p36_1 h36_0 gh_36_0 q0_36_0 q1_36_0 q2_36_0 q3_36_0 q4_36_0 n_Lst_36_0 n_Ln_36_0 n_Td_36_0 tl_36_0 k4_36_0 k5_36_0 bf_36_0 tg_36_0 un_36_0 hm_36_0; exfalso; omega
        | succ n ih_36_0 =>
          intro z36_l3 p36_0 p36_1 h36_0 gh_36_0 q0_36_0 q1_36_0 q2_36_0 q3_36_0 q4_36_0 n_Lst_36_0 n_Ln_36_0 n_Td_36_0 tl_36_0 k4_36_0 k5_36_0 bf_36_0 tg_36_0 un_36_0 hm_36_0
          refine w_iload gz_104_36 rfl ?_
          refine w_bipush gz_104_38 (by decide) ?_
          refine w_icge (t := 199) gz_104_40 rfl (fun u1 => ?_) (fun u1 => ?_)
          ·
            refine w_iinc (ls' := [(2, 94), (2, x1), (0, x2), (1, z36_l3), (9, 0), (0, (p10_0 + 1)), (0, p36_0), (0, p36_1), (9, 0)]) gz_104_199 rfl gm_104 rfl rfl rfl ⟨by omega, by omega⟩ ?_
            refine w_goto (t := 10) gz_104_202 rfl ?_
            have a96 : ∀ j : Int, h36_0 96 j = h36_0 96 j := fun _ => rfl
            have a97 : ∀ j : Int, h36_0 97 j = h36_0 97 j := fun _ => rfl
            have a99 : ∀ j : Int, h36_0 99 j = h36_0 99 j := fun _ => rfl
            have a101 : ∀ j : Int, h36_0 101 j = h36_0 101 j := fun _ => rfl
            have a103 : ∀ j : Int, h36_0 103 j = h36_0 103 j := fun _ => rfl
            have bf9 : ∀ k j : Int, 0 ≤ k → (k < 94 ∨ 120 ≤ k ∧ k < 151) → h36_0 k j = h k j := fun k j k0 k1 => (bf_36_0 k j k0 k1)
            have kp9 : KpS h36_0 h36_0 := KpS.rf
            refine w_weak (ls' := [(2, 94), (2, x1), (0, x2), (1, z36_l3), (9, 0), (0, (p10_0 + 1)), (9, 0), (9, 0), (9, 0)]) (wk_e (wk_e (wk_e (wk_e (wk_9 (wk_e (wk_9 (wk_9 (wk_9 wk_n))))))))) ?_
            exact ih_10_0 (z36_l3) ((p10_0 + 1)) h36_0 (gh_36_0) (by omega) (by omega) n_Lst_36_0 n_Ln_36_0 n_Td_36_0 (by first | rfl | exact tl_10_0 | exact tl_36_0 | assumption | omega) (by omega) (by omega) (bf9) (by first | exact TgI_to (TgI_0 hd a96 a97 kp9) (by omega) | exact TgI_to tg_10_0 (by omega) | exact TgI_to (TgI_n (by omega) tg_36_0 tg_36_0.1 tg_36_0.2.1 KpS.rf (Q2_no (hsI.2 (by omega)))) (by omega) | exact TgI_to (TgI_n (by omega) tg_36_0 tg_36_0.1 tg_36_0.2.1 KpS.rf (Q2_nt hk htp (by omega) (by omega) (by rw [← tl_36_0]; exact hb2.1 (by assumption)) (by have z := tg_36_0.2.2.1.2.1; omega))) (by omega) | exact TgI_to (TgI_n (by omega) tg_36_0 e96f e97f kp9 (fun z => sa (qI.mpr z))) (by omega) | exact TgI_to (TgI_n (by omega) tg_36_0 e96f e97f kp9 (Q2_la (fun z => by obtain ⟨p, a, b, c, d, e⟩ := fb; exact d (laN z p a b)))) (by omega) | exact TgI_to (TgI_y (a := 0) (b := 0) (by omega) tg_36_0 e96f e97f kp7 no8 kpp sm9 (KpS_cp fc96 fc97) (by omega) (by omega) (by omega) (by omega) pr8 (by omega) q7) (by omega) | exact TgI_to (TgI_s (r2 := 20 * (p10_0 + 1)) (by omega) (by omega) tg_36_0 (fun p a b => Q2_un hk (by omega) (by omega) (un_36_0.2 (by omega)) p (by omega) (by omega))) (by omega) | exact TgI_to tg_36_0 (by omega) | exact TgI_e hk (by omega) (by omega) (by omega) tg_36_0 (by omega) (by omega) (by omega) | assumption | omega) (by omega)
          ·
            refine w_iload gz_104_43 rfl ?_
            refine w_ifeq (t := 199) gz_104_45 rfl (fun u2 => ?_) (fun u2 => ?_)
            ·
              refine w_iinc (ls' := [(2, 94), (2, x1), (0, x2), (1, z36_l3), (9, 0), (0, (p10_0 + 1)), (0, p36_0), (0, p36_1), (9, 0)]) gz_104_199 rfl gm_104 rfl rfl rfl ⟨by omega, by omega⟩ ?_
              refine w_goto (t := 10) gz_104_202 rfl ?_
              have a96 : ∀ j : Int, h36_0 96 j = h36_0 96 j := fun _ => rfl
              have a97 : ∀ j : Int, h36_0 97 j = h36_0 97 j := fun _ => rfl
              have a99 : ∀ j : Int, h36_0 99 j = h36_0 99 j := fun _ => rfl
              have a101 : ∀ j : Int, h36_0 101 j = h36_0 101 j := fun _ => rfl
              have a103 : ∀ j : Int, h36_0 103 j = h36_0 103 j := fun _ => rfl
              have bf9 : ∀ k j : Int, 0 ≤ k → (k < 94 ∨ 120 ≤ k ∧ k < 151) → h36_0 k j = h k j := fun k j k0 k1 => (bf_36_0 k j k0 k1)
              have kp9 : KpS h36_0 h36_0 := KpS.rf
              refine w_weak (ls' := [(2, 94), (2, x1), (0, x2), (1, z36_l3), (9, 0), (0, (p10_0 + 1)), (9, 0), (9, 0), (9, 0)]) (wk_e (wk_e (wk_e (wk_e (wk_9 (wk_e (wk_9 (wk_9 (wk_9 wk_n))))))))) ?_
              exact ih_10_0 (z36_l3) ((p10_0 + 1)) h36_0 (gh_36_0) (by omega) (by omega) n_Lst_36_0 n_Ln_36_0 n_Td_36_0 (by first | rfl | exact tl_10_0 | exact tl_36_0 | assumption | omega) (by omega) (by omega) (bf9) (by first | exact TgI_to (TgI_0 hd a96 a97 kp9) (by omega) | exact TgI_to tg_10_0 (by omega) | exact TgI_to (TgI_n (by omega) tg_36_0 tg_36_0.1 tg_36_0.2.1 KpS.rf (Q2_no (hsI.2 (by omega)))) (by omega) | exact TgI_to (TgI_n (by omega) tg_36_0 tg_36_0.1 tg_36_0.2.1 KpS.rf (Q2_nt hk htp (by omega) (by omega) (by rw [← tl_36_0]; exact hb2.1 (by assumption)) (by have z := tg_36_0.2.2.1.2.1; omega))) (by omega) | exact TgI_to (TgI_n (by omega) tg_36_0 e96f e97f kp9 (fun z => sa (qI.mpr z))) (by omega) | exact TgI_to (TgI_n (by omega) tg_36_0 e96f e97f kp9 (Q2_la (fun z => by obtain ⟨p, a, b, c, d, e⟩ := fb; exact d (laN z p a b)))) (by omega) | exact TgI_to (TgI_y (a := 0) (b := 0) (by omega) tg_36_0 e96f e97f kp7 no8 kpp sm9 (KpS_cp fc96 fc97) (by omega) (by omega) (by omega) (by omega) pr8 (by omega) q7) (by omega) | exact TgI_to (TgI_s (r2 := 20 * (p10_0 + 1)) (by omega) (by omega) tg_36_0 (fun p a b => Q2_un hk (by omega) (by omega) (un_36_0.2 (by omega)) p (by omega) (by omega))) (by omega) | exact TgI_to tg_36_0 (by omega) | exact TgI_e hk (by omega) (by omega) (by omega) tg_36_0 (by omega) (by omega) (by omega) | assumption | omega) (by omega)
            ·
              refine w_aload_n gz_104_48 rfl ?_
              refine w_inv (k := 0) (as := []) (r := []) (x := 94) (ls0 := [(2, 94)]) gz_104_49 gm_100 rfl is_94 rd_2 rfl rfl rfl rfl rfl (c_Desk_isEnough5 (d := (d + 3))   (fun w3 w4 xp5 => ?_) (fun w6 xp7 => ?_))
              ·
                show wp l rho (d + 4) 104 52 [(2, 94), (2, x1), (0, x2), (1, z36_l3), (9, 0), (0, p10_0), (0, p36_0), (0, p36_1), (9, 0)] [(0, 0)] h36_0 Q
                have en8 := xp5
                refine w_ifne (t := 199) gz_104_52 rfl (fun u8 => by exfalso; omega) (fun u8 => ?_)
                have no8 : h36_0 94 13 = 0 ∨ h36_0 112 0 = -1 ∨ 1 < h36_0 112 0 := by first | assumption | exact Or.inl (by omega) | exact Or.inr (Or.inl (by omega)) | exact Or.inr (Or.inr (by omega))
                refine w_lload_n gz_104_55 rfl ?_
                refine w_iload gz_104_56 rfl ?_
                refine w_bipush gz_104_58 (by decide) ?_
                refine w_imul gz_104_60 ⟨by omega, by omega⟩ ?_
                refine w_iload gz_104_61 rfl ?_
                refine w_iadd gz_104_63 ⟨by omega, by omega⟩ ?_
                refine w_inS (k := 0) (as := [(0, ((p10_0 * 20) + p36_1)), (1, z36_l3)]) (r := []) (ls0 := [(1, z36_l3), (9, 0), (0, ((p10_0 * 20) + p36_1))]) gz_104_64 gm_69 rfl rfl rfl rfl rfl rfl ?_
                refine w_lload_n gz_69_0 rfl ?_
                refine w_iload_n gz_69_1 rfl ?_
                refine w_lshrX gz_69_2 (fun v9 ev9 pv9 => ?_)
                refine w_lconst gz_69_3 ?_
                refine w_landX gz_69_4 (fun v10 ev10 pv10 => ?_)
                refine w_lconst gz_69_5 ?_
                refine w_lcmpE gz_69_6 (fun v11 pv11 qv11 xv11 => ?_)
                refine w_ifeq (t := 14) gz_69_7 rfl (fun u12 => ?_) (fun u12 => ?_)
                ·
                  refine w_iconst gz_69_14 (by decide) ?_
                  refine w_bret gz_69_15 gm_69 (by omega) (by omega) ?_
                  show wp l rho (d + 4) 104 67 [(2, 94), (2, x1), (0, x2), (1, z36_l3), (9, 0), (0, p10_0), (0, p36_0), (0, p36_1), (9, 0)] [(0, 0)] h36_0 Q
                  have hb2 := hasBit_z (M := z36_l3) (C := 20 * p10_0 + p36_1) (by assumption) (by assumption) (by assumption) (by omega) (by omega) (by omega) (by omega)
                  refine w_istore (ls' := [(2, 94), (2, x1), (0, x2), (1, z36_l3), (9, 0), (0, p10_0), (0, p36_0), (0, p36_1), (0, 0)]) gz_104_67 gm_104 rfl rfl rfl ?_
                  refine w_aload_n gz_104_69 rfl ?_
                  refine w_iload gz_104_70 rfl ?_
                  refine w_iload gz_104_72 rfl ?_
                  refine w_inv (k := 0) (as := [(0, p36_1), (0, p10_0)]) (r := []) (x := x1) (ls0 := [(2, x1), (0, p10_0), (0, p36_1)]) gz_104_74 gm_15 rfl t1 rd_6 rfl rfl rfl rfl rfl ?_
                  refine w_iload_n gz_15_0 rfl ?_
                  refine w_iflt (t := 31) gz_15_1 rfl (fun u13 => by exfalso; omega) (fun u13 => ?_)
                  refine w_iload_n gz_15_4 rfl ?_
                  refine w_bipush gz_15_5 (by decide) ?_
                  refine w_icge (t := 31) gz_15_7 rfl (fun u14 => by exfalso; omega) (fun u14 => ?_)
                  refine w_aload_n gz_15_10 rfl ?_
                  refine w_getX (v := (x1 + 1)) gz_15_11 t1 rd_6 rfl (by decide) rfl ?_
                  refine w_iload_n gz_15_14 rfl ?_
                  refine w_bipush gz_15_15 (by decide) ?_
                  refine w_imul gz_15_17 ⟨by omega, by omega⟩ ?_
                  refine w_iload_n gz_15_18 rfl ?_
                  refine w_iadd gz_15_19 ⟨by omega, by omega⟩ ?_
                  refine w_iconst gz_15_20 (by decide) ?_
                  refine w_imul gz_15_21 ⟨by omega, by omega⟩ ?_
                  refine w_iald gz_15_22 (ix_6_1 t1) rd_30 (by omega) (by omega) (fun v16 ev16 pv16 qv16 => ?_)
                  have hhas : h36_0 (x1 + 1) (80 * p10_0 + 4 * p36_1) = v16 := by rw [show (80 * p10_0 + 4 * p36_1 : Int) = (((p10_0 * 20) + p36_1) * 4) by omega]; omega
                  refine w_iconst gz_15_23 (by decide) ?_
                  refine w_iceq (t := 31) gz_15_24 rfl (fun u17 => ?_) (fun u17 => ?_)
                  ·
                    refine w_iconst gz_15_31 (by decide) ?_
                    refine w_bret gz_15_32 gm_15 (by omega) (by omega) ?_
                    show wp l rho (d + 4) 104 77 [(2, 94), (2, x1), (0, x2), (1, z36_l3), (9, 0), (0, p10_0), (0, p36_0), (0, p36_1), (0, 0)] [(0, 0)] h36_0 Q
                    have hsI := Hs_i (w := p10_0) (k := p36_1) (by omega) (by omega) ((hw _ (by omega) (by omega)).symm.trans ((bf_36_0 (x1 + 1) (80 * p10_0 + 4 * p36_1) xb.z1 xb.f1).symm.trans hhas))
                    refine w_ifeq (t := 193) gz_104_77 rfl (fun u18 => ?_) (fun u18 => by exfalso; omega)
                    refine w_iinc (ls' := [(2, 94), (2, x1), (0, x2), (1, z36_l3), (9, 0), (0, p10_0), (0, p36_0), (0, (p36_1 + 1)), (0, 0)]) gz_104_193 rfl gm_104 rfl rfl rfl ⟨by omega, by omega⟩ ?_
                    refine w_goto (t := 36) gz_104_196 rfl ?_
                    have ce19 : h36_0 94 13 = (h36_0 94 13) := (rfl : h36_0 94 13 = h36_0 94 13)
                    have a99 : ∀ j : Int, h36_0 99 j = h36_0 99 j := fun _ => rfl
                    have a101 : ∀ j : Int, h36_0 101 j = h36_0 101 j := fun _ => rfl
                    have a103 : ∀ j : Int, h36_0 103 j = h36_0 103 j := fun _ => rfl
                    have bf9 : ∀ k j : Int, 0 ≤ k → (k < 94 ∨ 120 ≤ k ∧ k < 151) → h36_0 k j = h k j := fun k j k0 k1 => (bf_36_0 k j k0 k1)
                    have kp9 : KpS h36_0 h36_0 := KpS.rf
                    refine w_weak (ls' := [(2, 94), (2, x1), (0, x2), (1, z36_l3), (9, 0), (0, p10_0), (0, p36_0), (0, (p36_1 + 1)), (9, 0)]) (wk_e (wk_e (wk_e (wk_e (wk_9 (wk_e (wk_e (wk_e (wk_9 wk_n))))))))) ?_
                    exact ih_36_0 (z36_l3) (p36_0) ((p36_1 + 1)) h36_0 (gh_36_0) (by omega) (by omega) (by omega) (by omega) (by omega) n_Lst_36_0 n_Ln_36_0 n_Td_36_0 (by first | rfl | exact tl_10_0 | exact tl_36_0 | assumption | omega) (by omega) (by omega) (bf9) (by first | exact TgI_to (TgI_0 hd a96 a97 kp9) (by omega) | exact TgI_to tg_10_0 (by omega) | exact TgI_to (TgI_n (by omega) tg_36_0 tg_36_0.1 tg_36_0.2.1 KpS.rf (Q2_no (hsI.2 (by omega)))) (by omega) | exact TgI_to (TgI_n (by omega) tg_36_0 tg_36_0.1 tg_36_0.2.1 KpS.rf (Q2_nt hk htp (by omega) (by omega) (by rw [← tl_36_0]; exact hb2.1 (by assumption)) (by have z := tg_36_0.2.2.1.2.1; omega))) (by omega) | exact TgI_to (TgI_n (by omega) tg_36_0 e96f e97f kp9 (fun z => sa (qI.mpr z))) (by omega) | exact TgI_to (TgI_n (by omega) tg_36_0 e96f e97f kp9 (Q2_la (fun z => by obtain ⟨p, a, b, c, d, e⟩ := fb; exact d (laN z p a b)))) (by omega) | exact TgI_to (TgI_y (a := 0) (b := 0) (by omega) tg_36_0 e96f e97f kp7 no8 kpp sm9 (KpS_cp fc96 fc97) (by omega) (by omega) (by omega) (by omega) pr8 (by omega) q7) (by omega) | exact TgI_to (TgI_s (r2 := 20 * p10_0) (by omega) (by omega) tg_36_0 (fun p a b => Q2_un hk (by omega) (by omega) (un_36_0.2 (by omega)) p (by omega) (by omega))) (by omega) | exact TgI_to tg_36_0 (by omega) | exact TgI_e hk (by omega) (by omega) (by omega) tg_36_0 (by omega) (by omega) (by omega) | assumption | omega) (by first | exact un_36_0 | exact ⟨(fun _ => hb1.2 (by assumption)), (fun z => by exfalso; omega)⟩ | exact ⟨(fun z => by exfalso; omega), (fun _ => hb1.1 (by assumption))⟩ | assumption | omega) (by omega)
                  ·
                    refine w_iconst gz_15_27 (by decide) ?_
                    refine w_goto (t := 32) gz_15_28 rfl ?_
                    refine w_bret gz_15_32 gm_15 (by omega) (by omega) ?_
                    show wp l rho (d + 4) 104 77 [(2, 94), (2, x1), (0, x2), (1, z36_l3), (9, 0), (0, p10_0), (0, p36_0), (0, p36_1), (0, 0)] [(0, 1)] h36_0 Q
                    have hsI := Hs_i (w := p10_0) (k := p36_1) (by omega) (by omega) ((hw _ (by omega) (by omega)).symm.trans ((bf_36_0 (x1 + 1) (80 * p10_0 + 4 * p36_1) xb.z1 xb.f1).symm.trans hhas))
                    refine w_ifeq (t := 193) gz_104_77 rfl (fun u20 => by exfalso; omega) (fun u20 => ?_)
                    refine w_iload gz_104_80 rfl ?_
                    refine w_ifne (t := 95) gz_104_82 rfl (fun u21 => by exfalso; omega) (fun u21 => ?_)
                    refine w_aload_n gz_104_85 rfl ?_
                    refine v_getI (j := 14) gz_104_86 rfl is_94 rd_2 rfl (fun v22 ev22 pv22 qv22 => ?_)
                    refine w_ifne (t := 95) gz_104_89 rfl (fun u23 => ?_) (fun u23 => ?_)
                    ·
                      refine w_aload_n gz_104_95 rfl ?_
                      refine w_getX (v := 95) gz_104_96 is_94 rd_2 rfl (by decide) rfl ?_
                      refine w_iload gz_104_99 rfl ?_
                      refine w_iload gz_104_101 rfl ?_
                      have hs8 := hsI.1 (by omega)
                      have as8 : h36_0 94 14 = h 94 14 := tg_36_0.2.2.1.2.1
                      have un8 : zqlb (h (h 27 x2) 6) ((20 * p10_0 + p36_1) / 20) := by
                        rw [show (20 * p10_0 + p36_1) / 20 = p10_0 by omega]
                        exact un_36_0.1 (by omega)
                      refine w_inv (k := 2) (as := [(0, p36_1), (0, p10_0)]) (r := []) (x := 95) (ls0 := [(2, 95), (0, p10_0), (0, p36_1), (9, 0), (9, 0)]) gz_104_103 gm_23 rfl is_95 rd_6 rfl rfl rfl rfl rfl (c_Rows_drop5 (d := (d + 2)) (x0 := 95) (x1 := p10_0) (x2 := p36_1) is_95 (by omega) (by omega) (by omega) (by omega) ((by have q := SrC_sz hk p10_0 (by omega) (by omega); have e := tg_36_0.2.1 p10_0; show 0 ≤ h36_0 97 p10_0 ∧ h36_0 97 p10_0 ≤ 10; omega)) (fun h25 frh25 fxh25 xp26 xp27 => ?_))
                      have gh25 : my_fr [(2, 11), (7, 0), (7, 1), (7, 2), (7, 3), (7, 4), (7, 5), (8, 0), (8, 1), (30, -1), (31, -1), (42, -1), (43, -1), (44, -1)] h h25 := my_fr.tr gh_36_0 (frh25.mo rfl)
                      have Lst_h25 : Lst h25 := Lst_ag (my_ag.fr frh25 rfl) n_Lst_36_0
                      have Ln_h25 : Ln h25 := Ln_ag (my_ag.fr frh25 rfl) n_Ln_36_0
                      have Td_h25 : Td h25 x2 := Td_ag (my_ag.fr frh25 rfl) n_Ln_36_0 n_Td_36_0
                      show wp l rho (d + 4) 104 106 [(2, 94), (2, x1), (0, x2), (1, z36_l3), (9, 0), (0, p10_0), (0, p36_0), (0, p36_1), (0, 0)] [] h25 Q
                      have e8 : h25 96 = zqDrop (h 96) ((20 * p10_0 + p36_1) / 20) ((20 * p10_0 + p36_1) % 20) := funext fun j => (xp26 j).trans (by rw [show h36_0 (95 + 1) = h 96 from funext tg_36_0.1, show (20 * p10_0 + p36_1) / 20 = p10_0 by omega, show (20 * p10_0 + p36_1) % 20 = p36_1 by omega])
                      have e7d := xp27
                      refine w_aload_n gz_104_106 rfl ?_
                      refine w_getX (v := 1) gz_104_107 is_94 rd_2 rfl (by decide) rfl ?_
                      refine w_aload_n gz_104_110 rfl ?_
                      refine w_getX (v := 95) gz_104_111 is_94 rd_2 rfl (by decide) rfl ?_
                      refine w_inv (k := 4) (as := [(2, 95)]) (r := []) (x := 1) (ls0 := [(2, 1), (2, 95), (9, 0), (9, 0), (9, 0), (9, 0)]) gz_104_114 gm_19 rfl is_1 rd_3 rfl rfl rfl rfl rfl (c_Laws_firstBroken5 (d := (d + 1)) (x1 := 95) is_95 (fun xp30 => ?_) (fun v31 w32 w33 xp34 => ?_))
                      ·
                        show wp l rho (d + 4) 104 117 [(2, 94), (2, x1), (0, x2), (1, z36_l3), (9, 0), (0, p10_0), (0, p36_0), (0, p36_1), (0, 0)] [(0, (-1))] h25 Q
                        have fb := xp30
                        have laI := Lw_drop hk (r := (20 * p10_0 + p36_1)) (g := h25) (by omega) (by omega) e8 (zqCA_e (fun j => my_fr.at gh25 pis_2 rfl) (fun j => my_fr.at gh25 pis_3 rfl) (fun j => my_fr.at gh25 pis_4 rfl) (fun j => my_fr.at gh25 pis_5 rfl) (fun j => my_fr.at gh25 pis_6 rfl))
                        have laN := fun (z : zqLf (zqCA h) (zqDrop (h 96) ((20 * p10_0 + p36_1) / 20) ((20 * p10_0 + p36_1) % 20))) => laI.mpr z
                        refine w_iconst gz_104_117 (by decide) ?_
                        refine w_icne (t := 185) gz_104_118 rfl (fun u35 => by exfalso; omega) (fun u35 => ?_)
                        have la8 := laI.mp fb
                        refine w_iload gz_104_121 rfl ?_
                        refine w_ifeq (t := 152) gz_104_123 rfl (fun u36 => ?_) (fun u36 => by exfalso; omega)
                        refine w_aload_n gz_104_152 rfl ?_
                        refine w_getX (v := 111) gz_104_153 is_94 rd_2 rfl (by decide) rfl ?_
                        refine w_iload gz_104_156 rfl ?_
                        refine v_putI (j := 2) gz_104_158 rfl is_111 rd_7 rfl (by omega) (by omega) rfl (fun h38 fh38 => ?_)
                        have gh38 : my_fr [(2, 11), (7, 0), (7, 1), (7, 2), (7, 3), (7, 4), (7, 5), (8, 0), (8, 1), (30, -1), (31, -1), (42, -1), (43, -1), (44, -1)] h h38 := my_fr.up gh25 is_111 fh38 rfl
                        have Lst_h38 : Lst h38 := Lst_ne fh38 (by decide) Lst_h25
                        have Ln_h38 : Ln h38 := Ln_ag (my_ag.up fh38 is_111 rfl) Ln_h25
                        have Td_h38 : Td h38 x2 := Td_ag (my_ag.up fh38 is_111 rfl) Ln_h25 Td_h25
                        refine w_aload_n gz_104_161 rfl ?_
                        refine w_getX (v := 111) gz_104_162 is_94 rd_2 rfl (by decide) rfl ?_
                        refine w_iload gz_104_165 rfl ?_
                        refine v_putI (j := 3) gz_104_167 rfl is_111 rd_7 rfl (by omega) (by omega) rfl (fun h40 fh40 => ?_)
                        have gh40 : my_fr [(2, 11), (7, 0), (7, 1), (7, 2), (7, 3), (7, 4), (7, 5), (8, 0), (8, 1), (30, -1), (31, -1), (42, -1), (43, -1), (44, -1)] h h40 := my_fr.up gh38 is_111 fh40 rfl
                        have Lst_h40 : Lst h40 := Lst_ne fh40 (by decide) Lst_h38
                        have Ln_h40 : Ln h40 := Ln_ag (my_ag.up fh40 is_111 rfl) Ln_h38
                        have Td_h40 : Td h40 x2 := Td_ag (my_ag.up fh40 is_111 rfl) Ln_h38 Td_h38
                        refine w_aload_n gz_104_170 rfl ?_
                        refine w_iconst gz_104_171 (by decide) ?_
                        refine w_aload_n gz_104_172 rfl ?_
                        refine w_getX (v := 1) gz_104_173 is_94 rd_2 rfl (by decide) rfl ?_
                        refine w_getX (v := 2) gz_104_176 is_1 rd_3 rfl (by decide) rfl ?_
                        refine w_iload gz_104_179 rfl ?_
                        refine w_iald gz_104_181 is_2 rd_25 (by omega) (by omega) (fun v43 ev43 pv43 qv43 => ?_)
                        have ce44 : h40 111 2 = p10_0 := ((my_up_fld fh40 (by decide)).trans (my_up_self fh38))
                        have ce45 : h40 111 3 = p36_1 := (my_up_self fh40)
                        have ce46 : h40 111 4 = h36_0 111 4 := ((my_up_fld fh40 (by decide)).trans ((my_up_fld fh38 (by decide)).trans ((my_fr.at frh25 is_111 rfl).trans (rfl : h36_0 111 4 = h36_0 111 4))))
                        have ce47 : h40 111 5 = h36_0 111 5 := ((my_up_fld fh40 (by decide)).trans ((my_up_fld fh38 (by decide)).trans ((my_fr.at frh25 is_111 rfl).trans (rfl : h36_0 111 5 = h36_0 111 5))))
                        have ce48 : h40 94 11 = h36_0 94 11 := ((my_up_role fh40 is_94 is_111 rfl).trans ((my_up_role fh38 is_94 is_111 rfl).trans ((my_fr.at frh25 is_94 rfl).trans (rfl : h36_0 94 11 = h36_0 94 11))))
                        have ce49 : h40 94 12 = h36_0 94 12 := ((my_up_role fh40 is_94 is_111 rfl).trans ((my_up_role fh38 is_94 is_111 rfl).trans ((my_fr.at frh25 is_94 rfl).trans (rfl : h36_0 94 12 = h36_0 94 12))))
                        have ce50 : h40 94 13 = (h36_0 94 13) := ((my_up_role fh40 is_94 is_111 rfl).trans ((my_up_role fh38 is_94 is_111 rfl).trans ((my_fr.at frh25 is_94 rfl).trans (rfl : h36_0 94 13 = h36_0 94 13))))
                        have ce51 : h40 94 14 = v22 := ((my_up_role fh40 is_94 is_111 rfl).trans ((my_up_role fh38 is_94 is_111 rfl).trans ((my_fr.at frh25 is_94 rfl).trans ev22.symm)))
                        have ce52 : h40 94 15 = h36_0 94 15 := ((my_up_role fh40 is_94 is_111 rfl).trans ((my_up_role fh38 is_94 is_111 rfl).trans ((my_fr.at frh25 is_94 rfl).trans (rfl : h36_0 94 15 = h36_0 94 15))))
                        have ce53 : h40 94 16 = h36_0 94 16 := ((my_up_role fh40 is_94 is_111 rfl).trans ((my_up_role fh38 is_94 is_111 rfl).trans ((my_fr.at frh25 is_94 rfl).trans (rfl : h36_0 94 16 = h36_0 94 16))))
                        have ce54 : h40 98 0 = h36_0 98 0 := ((my_up_role fh40 is_98 is_111 rfl).trans ((my_up_role fh38 is_98 is_111 rfl).trans ((my_fr.at frh25 is_98 rfl).trans (rfl : h36_0 98 0 = h36_0 98 0))))
                        have ce55 : h40 98 1 = h36_0 98 1 := ((my_up_role fh40 is_98 is_111 rfl).trans ((my_up_role fh38 is_98 is_111 rfl).trans ((my_fr.at frh25 is_98 rfl).trans (rfl : h36_0 98 1 = h36_0 98 1))))
                        have ce56 : h40 102 0 = h36_0 102 0 := ((my_up_role fh40 is_102 is_111 rfl).trans ((my_up_role fh38 is_102 is_111 rfl).trans ((my_fr.at frh25 is_102 rfl).trans (rfl : h36_0 102 0 = h36_0 102 0))))
                        have ce57 : h40 102 1 = h36_0 102 1 := ((my_up_role fh40 is_102 is_111 rfl).trans ((my_up_role fh38 is_102 is_111 rfl).trans ((my_fr.at frh25 is_102 rfl).trans (rfl : h36_0 102 1 = h36_0 102 1))))
                        have ce58 : h40 112 0 = h36_0 112 0 := ((my_up_fld fh40 (by decide)).trans ((my_up_fld fh38 (by decide)).trans ((my_fr.at frh25 is_112 rfl).trans (rfl : h36_0 112 0 = h36_0 112 0))))
                        have ce59 : h40 112 1 = h36_0 112 1 := ((my_up_fld fh40 (by decide)).trans ((my_up_fld fh38 (by decide)).trans ((my_fr.at frh25 is_112 rfl).trans (rfl : h36_0 112 1 = h36_0 112 1))))
                        have ce60 : h40 112 2 = h36_0 112 2 := ((my_up_fld fh40 (by decide)).trans ((my_up_ne fh38 (by omega)).trans ((my_fr.at frh25 is_112 rfl).trans (rfl : h36_0 112 2 = h36_0 112 2))))
                        have ce61 : h40 112 3 = h36_0 112 3 := ((my_up_ne fh40 (by omega)).trans ((my_up_fld fh38 (by decide)).trans ((my_fr.at frh25 is_112 rfl).trans (rfl : h36_0 112 3 = h36_0 112 3))))
                        have ce62 : h40 112 4 = h36_0 112 4 := ((my_up_fld fh40 (by decide)).trans ((my_up_fld fh38 (by decide)).trans ((my_fr.at frh25 is_112 rfl).trans (rfl : h36_0 112 4 = h36_0 112 4))))
                        have ce63 : h40 112 5 = h36_0 112 5 := ((my_up_fld fh40 (by decide)).trans ((my_up_fld fh38 (by decide)).trans ((my_fr.at frh25 is_112 rfl).trans (rfl : h36_0 112 5 = h36_0 112 5))))
                        have ce64 : h40 113 0 = h36_0 113 0 := ((my_up_fld fh40 (by decide)).trans ((my_up_fld fh38 (by decide)).trans ((my_fr.at frh25 is_113 rfl).trans (rfl : h36_0 113 0 = h36_0 113 0))))
                        have ce65 : h40 113 1 = h36_0 113 1 := ((my_up_fld fh40 (by decide)).trans ((my_up_fld fh38 (by decide)).trans ((my_fr.at frh25 is_113 rfl).trans (rfl : h36_0 113 1 = h36_0 113 1))))
                        have ce66 : h40 113 2 = h36_0 113 2 := ((my_up_fld fh40 (by decide)).trans ((my_up_ne fh38 (by omega)).trans ((my_fr.at frh25 is_113 rfl).trans (rfl : h36_0 113 2 = h36_0 113 2))))
                        have ce67 : h40 113 3 = h36_0 113 3 := ((my_up_ne fh40 (by omega)).trans ((my_up_fld fh38 (by decide)).trans ((my_fr.at frh25 is_113 rfl).trans (rfl : h36_0 113 3 = h36_0 113 3))))
                        have ce68 : h40 113 4 = h36_0 113 4 := ((my_up_fld fh40 (by decide)).trans ((my_up_fld fh38 (by decide)).trans ((my_fr.at frh25 is_113 rfl).trans (rfl : h36_0 113 4 = h36_0 113 4))))
                        have ce69 : h40 113 5 = h36_0 113 5 := ((my_up_fld fh40 (by decide)).trans ((my_up_fld fh38 (by decide)).trans ((my_fr.at frh25 is_113 rfl).trans (rfl : h36_0 113 5 = h36_0 113 5))))
                        have a99 : ∀ j : Int, h40 99 j = h36_0 99 j := fun j => ((my_up_role fh40 is_99 is_111 rfl).trans ((my_up_role fh38 is_99 is_111 rfl).trans ((my_fr.at frh25 is_99 rfl).trans (rfl : h36_0 99 j = h36_0 99 j))))
                        have a101 : ∀ j : Int, h40 101 j = h36_0 101 j := fun j => ((my_up_role fh40 is_101 is_111 rfl).trans ((my_up_role fh38 is_101 is_111 rfl).trans ((my_fr.at frh25 is_101 rfl).trans (rfl : h36_0 101 j = h36_0 101 j))))
                        have a103 : ∀ j : Int, h40 103 j = h36_0 103 j := fun j => ((my_up_role fh40 is_103 is_111 rfl).trans ((my_up_role fh38 is_103 is_111 rfl).trans ((my_fr.at frh25 is_103 rfl).trans (rfl : h36_0 103 j = h36_0 103 j))))
                        have kp7 : KpS h36_0 h40 := ⟨⟨by omega, by omega, by omega, by omega, by omega, by omega, by omega, by omega, a99, a101, a103⟩, ⟨by omega, by omega⟩, ⟨by omega, by omega, by omega, by omega, by omega, by omega⟩, ⟨by omega, by omega, by omega, by omega, by omega, by omega⟩⟩
                        have hf7 : 0 ≤ h40 94 11 ∧ h40 94 11 ≤ 100000 := by
                          have q := TgI_f (by omega) tg_36_0 no8
                          have e := kp7.2.1.1
                          omega
                        have pr8 : v43 = h 2 ((20 * p10_0 + p36_1) / 20) := by
                          have q : h40 2 p10_0 = h 2 p10_0 := my_fr.at gh40 pis_2 rfl
                          rw [show (20 * p10_0 + p36_1) / 20 = p10_0 by omega]
                          omega
                        have q7 : Q2h h x2 (20 * p10_0 + p36_1) := by first | exact qI.mp sa | exact Q2_ta hk htp (by omega) (by omega) (by rw [← tl_36_0]; exact hb2.1 (by assumption)) (by omega) un8 hs8 la8
                        refine w_inv (k := 0) (as := [(0, v43), (0, 2)]) (r := []) (x := 94) (ls0 := [(2, 94), (0, 2), (0, v43)]) gz_104_182 gm_94 rfl is_94 rd_2 rfl rfl rfl rfl rfl (c_Desk_keep5 (d := (d + 2)) (x1 := 2) (x2 := v43) (by omega) (by omega) (by omega) (by omega) Lst_h40 (by first | assumption | exact no_such_saying | exact Fp_told (by omega) (by omega) | omega | (subst_vars; omega) | omega) (by first | assumption | exact no_such_saying | exact Fp_told (by omega) (by omega) | omega | (subst_vars; omega) | omega) (by first | assumption | exact no_such_saying | exact Fp_told (by omega) (by omega) | omega | (subst_vars; omega) | omega) (hf7) (fun h70 frh70 w71 w72 xp73 xp74 xp75 xp76 xp77 Lst_h70t78 => ?_))
                        have gh70 : my_fr [(2, 11), (7, 0), (7, 1), (7, 2), (7, 3), (7, 4), (7, 5), (8, 0), (8, 1), (30, -1), (31, -1), (42, -1), (43, -1), (44, -1)] h h70 := my_fr.tr gh40 (frh70.mo rfl)
                        have Ln_h70 : Ln h70 := Ln_ag (my_ag.fr frh70 rfl) Ln_h40
                        have Td_h70 : Td h70 x2 := Td_ag (my_ag.fr frh70 rfl) Ln_h40 Td_h40
                        show wp l rho (d + 4) 104 185 [(2, 94), (2, x1), (0, x2), (1, z36_l3), (9, 0), (0, p10_0), (0, p36_0), (0, p36_1), (0, 0)] [] h70 Q
                        have kpp := xp77
                        have sm9 := SmV_keep frh70
                        have bfB : ∀ k j : Int, 0 ≤ k → (k < 94 ∨ 120 ≤ k ∧ k < 151) → h70 k j = h k j := fun k j k0 k1 => (((bg_fr frh70 (by decide +kernel) k j k0 k1).trans ((my_up_ne fh40 (by omega)).trans ((my_up_ne fh38 (by omega)).trans (my_fx.at fxh25 (by omega))))).trans (bf_36_0 k j k0 k1))
                        have o96 : ∀ j : Int, (j < 0 ∨ 240 ≤ j) → h70 96 j = h 96 j := fun j hj => (((my_fr.at frh70 is_96 rfl).trans ((my_up_ne fh40 (by omega)).trans (my_up_ne fh38 (by omega)))).trans ((congrFun e8 j).trans (zqDrop_off j (by omega))))
                        have o97 : ∀ j : Int, (j < 0 ∨ 3 ≤ j) → h70 97 j = h 97 j := fun j hj => (((my_fr.at frh70 is_97 rfl).trans ((my_up_ne fh40 (by omega)).trans (my_up_ne fh38 (by omega)))).trans ((e7d j).trans (by rw [if_neg (by omega)]; exact tg_36_0.2.1 j)))
                        refine w_aload_n gz_104_185 rfl ?_
                        refine w_getX (v := 95) gz_104_186 is_94 rd_2 rfl (by decide) rfl ?_
                        refine w_aload_n gz_104_189 rfl ?_
                        refine w_inv (k := 0) (as := [(2, x1)]) (r := []) (x := 95) (ls0 := [(2, 95), (2, x1)]) gz_104_190 gm_25 rfl is_95 rd_6 rfl rfl rfl rfl rfl ?_
                        refine w_aload_n gz_25_0 rfl ?_
                        refine w_getX (v := (x1 + 1)) gz_25_1 t1 rd_6 rfl (by decide) rfl ?_
                        refine w_iconst gz_25_4 (by decide) ?_
                        refine w_aload_n gz_25_5 rfl ?_
                        refine w_getX (v := 96) gz_25_6 is_95 rd_6 rfl (by decide) rfl ?_
                        refine w_iconst gz_25_9 (by decide) ?_
                        refine w_aload_n gz_25_10 rfl ?_
                        refine w_getX (v := 96) gz_25_11 is_95 rd_6 rfl (by decide) rfl ?_
                        refine v_alen (j := 240) gz_25_14 rfl is_96 rd_30 (by decide) ?_
                        refine w_cpU gz_25_15 (ix_6_1 t1) rd_30 is_96 rd_30 (by omega) (by omega) (by omega) (by omega) (by omega) rfl (by decide) (by decide) (fun h83 fh83 => ?_)
                        have gh83 : my_fr [(2, 11), (7, 0), (7, 1), (7, 2), (7, 3), (7, 4), (7, 5), (8, 0), (8, 1), (30, -1), (31, -1), (42, -1), (43, -1), (44, -1)] h h83 := my_fr.cp gh70 is_96 fh83 rfl
                        have Ln_h83 : Ln h83 := Ln_ag (my_ag.cp fh83 is_96 rfl) Ln_h70
                        have Td_h83 : Td h83 x2 := Td_ag (my_ag.cp fh83 is_96 rfl) Ln_h70 Td_h70
                        have Lst_h83 : Lst h83 := Lst_ag (my_ag.cp fh83 is_96 rfl) Lst_h70t78
                        have fc96 := fh83
                        refine w_aload_n gz_25_18 rfl ?_
                        refine w_getX (v := (x1 + 2)) gz_25_19 t1 rd_6 rfl (by decide) rfl ?_
                        refine w_iconst gz_25_22 (by decide) ?_
                        refine w_aload_n gz_25_23 rfl ?_
                        refine w_getX (v := 97) gz_25_24 is_95 rd_6 rfl (by decide) rfl ?_
                        refine w_iconst gz_25_27 (by decide) ?_
                        refine w_aload_n gz_25_28 rfl ?_
                        refine w_getX (v := 97) gz_25_29 is_95 rd_6 rfl (by decide) rfl ?_
                        refine v_alen (j := 3) gz_25_32 rfl is_97 rd_31 (by decide) ?_
                        refine w_cpU gz_25_33 (ix_6_2 t1) rd_31 is_97 rd_31 (by omega) (by omega) (by omega) (by omega) (by omega) rfl (by decide) (by decide) (fun h87 fh87 => ?_)
                        have gh87 : my_fr [(2, 11), (7, 0), (7, 1), (7, 2), (7, 3), (7, 4), (7, 5), (8, 0), (8, 1), (30, -1), (31, -1), (42, -1), (43, -1), (44, -1)] h h87 := my_fr.cp gh83 is_97 fh87 rfl
                        have Ln_h87 : Ln h87 := Ln_ag (my_ag.cp fh87 is_97 rfl) Ln_h83
                        have Td_h87 : Td h87 x2 := Td_ag (my_ag.cp fh87 is_97 rfl) Ln_h83 Td_h83
                        have Lst_h87 : Lst h87 := Lst_ag (my_ag.cp fh87 is_97 rfl) Lst_h83
                        have fc97 := fh87
                        refine w_vret gz_25_36 gm_25 ?_
                        show wp l rho (d + 4) 104 193 [(2, 94), (2, x1), (0, x2), (1, z36_l3), (9, 0), (0, p10_0), (0, p36_0), (0, p36_1), (0, 0)] [] h87 Q
                        refine w_iinc (ls' := [(2, 94), (2, x1), (0, x2), (1, z36_l3), (9, 0), (0, p10_0), (0, p36_0), (0, (p36_1 + 1)), (0, 0)]) gz_104_193 rfl gm_104 rfl rfl rfl ⟨by omega, by omega⟩ ?_
                        refine w_goto (t := 36) gz_104_196 rfl ?_
                        have ce88 : h87 111 4 = h70 111 4 := ((my_cp_role fh87 is_111 is_97 rfl).trans ((my_cp_role fh83 is_111 is_96 rfl).trans (rfl : h70 111 4 = h70 111 4)))
                        have ce89 : h87 111 5 = h70 111 5 := ((my_cp_role fh87 is_111 is_97 rfl).trans ((my_cp_role fh83 is_111 is_96 rfl).trans (rfl : h70 111 5 = h70 111 5)))
                        have ce90 : h87 94 11 = (h70 94 11) := ((my_cp_role fh87 is_94 is_97 rfl).trans ((my_cp_role fh83 is_94 is_96 rfl).trans (rfl : h70 94 11 = h70 94 11)))
                        have ce91 : h87 94 12 = h36_0 94 12 := ((my_cp_role fh87 is_94 is_97 rfl).trans ((my_cp_role fh83 is_94 is_96 rfl).trans ((my_fr.at frh70 is_94 rfl).trans ((my_up_role fh40 is_94 is_111 rfl).trans ((my_up_role fh38 is_94 is_111 rfl).trans ((my_fr.at frh25 is_94 rfl).trans (rfl : h36_0 94 12 = h36_0 94 12)))))))
                        have ce92 : h87 94 13 = (h36_0 94 13) := ((my_cp_role fh87 is_94 is_97 rfl).trans ((my_cp_role fh83 is_94 is_96 rfl).trans ((my_fr.at frh70 is_94 rfl).trans ((my_up_role fh40 is_94 is_111 rfl).trans ((my_up_role fh38 is_94 is_111 rfl).trans ((my_fr.at frh25 is_94 rfl).trans (rfl : h36_0 94 13 = h36_0 94 13)))))))
                        have ce93 : h87 94 14 = v22 := ((my_cp_role fh87 is_94 is_97 rfl).trans ((my_cp_role fh83 is_94 is_96 rfl).trans ((my_fr.at frh70 is_94 rfl).trans ((my_up_role fh40 is_94 is_111 rfl).trans ((my_up_role fh38 is_94 is_111 rfl).trans ((my_fr.at frh25 is_94 rfl).trans ev22.symm))))))
                        have ce94 : h87 94 15 = h36_0 94 15 := ((my_cp_role fh87 is_94 is_97 rfl).trans ((my_cp_role fh83 is_94 is_96 rfl).trans ((my_fr.at frh70 is_94 rfl).trans ((my_up_role fh40 is_94 is_111 rfl).trans ((my_up_role fh38 is_94 is_111 rfl).trans ((my_fr.at frh25 is_94 rfl).trans (rfl : h36_0 94 15 = h36_0 94 15)))))))
                        have ce95 : h87 94 16 = h36_0 94 16 := ((my_cp_role fh87 is_94 is_97 rfl).trans ((my_cp_role fh83 is_94 is_96 rfl).trans ((my_fr.at frh70 is_94 rfl).trans ((my_up_role fh40 is_94 is_111 rfl).trans ((my_up_role fh38 is_94 is_111 rfl).trans ((my_fr.at frh25 is_94 rfl).trans (rfl : h36_0 94 16 = h36_0 94 16)))))))
                        have ce96 : h87 98 0 = h36_0 98 0 := ((my_cp_role fh87 is_98 is_97 rfl).trans ((my_cp_role fh83 is_98 is_96 rfl).trans ((my_fr.at frh70 is_98 rfl).trans ((my_up_role fh40 is_98 is_111 rfl).trans ((my_up_role fh38 is_98 is_111 rfl).trans ((my_fr.at frh25 is_98 rfl).trans (rfl : h36_0 98 0 = h36_0 98 0)))))))
                        have ce97 : h87 98 1 = h36_0 98 1 := ((my_cp_role fh87 is_98 is_97 rfl).trans ((my_cp_role fh83 is_98 is_96 rfl).trans ((my_fr.at frh70 is_98 rfl).trans ((my_up_role fh40 is_98 is_111 rfl).trans ((my_up_role fh38 is_98 is_111 rfl).trans ((my_fr.at frh25 is_98 rfl).trans (rfl : h36_0 98 1 = h36_0 98 1)))))))
                        have ce98 : h87 102 0 = h36_0 102 0 := ((my_cp_role fh87 is_102 is_97 rfl).trans ((my_cp_role fh83 is_102 is_96 rfl).trans ((my_fr.at frh70 is_102 rfl).trans ((my_up_role fh40 is_102 is_111 rfl).trans ((my_up_role fh38 is_102 is_111 rfl).trans ((my_fr.at frh25 is_102 rfl).trans (rfl : h36_0 102 0 = h36_0 102 0)))))))
                        have ce99 : h87 102 1 = h36_0 102 1 := ((my_cp_role fh87 is_102 is_97 rfl).trans ((my_cp_role fh83 is_102 is_96 rfl).trans ((my_fr.at frh70 is_102 rfl).trans ((my_up_role fh40 is_102 is_111 rfl).trans ((my_up_role fh38 is_102 is_111 rfl).trans ((my_fr.at frh25 is_102 rfl).trans (rfl : h36_0 102 1 = h36_0 102 1)))))))
                        have ce100 : h87 112 0 = h70 112 0 := ((my_cp_role fh87 is_112 is_97 rfl).trans ((my_cp_role fh83 is_112 is_96 rfl).trans (rfl : h70 112 0 = h70 112 0)))
                        have ce101 : h87 112 1 = h70 112 1 := ((my_cp_role fh87 is_112 is_97 rfl).trans ((my_cp_role fh83 is_112 is_96 rfl).trans (rfl : h70 112 1 = h70 112 1)))
                        have ce102 : h87 112 2 = h70 112 2 := ((my_cp_role fh87 is_112 is_97 rfl).trans ((my_cp_role fh83 is_112 is_96 rfl).trans (rfl : h70 112 2 = h70 112 2)))
                        have ce103 : h87 112 3 = h70 112 3 := ((my_cp_role fh87 is_112 is_97 rfl).trans ((my_cp_role fh83 is_112 is_96 rfl).trans (rfl : h70 112 3 = h70 112 3)))
                        have ce104 : h87 112 4 = h70 112 4 := ((my_cp_role fh87 is_112 is_97 rfl).trans ((my_cp_role fh83 is_112 is_96 rfl).trans (rfl : h70 112 4 = h70 112 4)))
                        have ce105 : h87 112 5 = h70 112 5 := ((my_cp_role fh87 is_112 is_97 rfl).trans ((my_cp_role fh83 is_112 is_96 rfl).trans (rfl : h70 112 5 = h70 112 5)))
                        have ce106 : h87 113 0 = h70 113 0 := ((my_cp_role fh87 is_113 is_97 rfl).trans ((my_cp_role fh83 is_113 is_96 rfl).trans (rfl : h70 113 0 = h70 113 0)))
                        have ce107 : h87 113 1 = h70 113 1 := ((my_cp_role fh87 is_113 is_97 rfl).trans ((my_cp_role fh83 is_113 is_96 rfl).trans (rfl : h70 113 1 = h70 113 1)))
                        have ce108 : h87 113 2 = h70 113 2 := ((my_cp_role fh87 is_113 is_97 rfl).trans ((my_cp_role fh83 is_113 is_96 rfl).trans (rfl : h70 113 2 = h70 113 2)))
                        have ce109 : h87 113 3 = h70 113 3 := ((my_cp_role fh87 is_113 is_97 rfl).trans ((my_cp_role fh83 is_113 is_96 rfl).trans (rfl : h70 113 3 = h70 113 3)))
                        have ce110 : h87 113 4 = h70 113 4 := ((my_cp_role fh87 is_113 is_97 rfl).trans ((my_cp_role fh83 is_113 is_96 rfl).trans (rfl : h70 113 4 = h70 113 4)))
                        have ce111 : h87 113 5 = h70 113 5 := ((my_cp_role fh87 is_113 is_97 rfl).trans ((my_cp_role fh83 is_113 is_96 rfl).trans (rfl : h70 113 5 = h70 113 5)))
                        have a99 : ∀ j : Int, h87 99 j = h36_0 99 j := fun j => ((my_cp_role fh87 is_99 is_97 rfl).trans ((my_cp_role fh83 is_99 is_96 rfl).trans ((my_fr.at frh70 is_99 rfl).trans ((my_up_role fh40 is_99 is_111 rfl).trans ((my_up_role fh38 is_99 is_111 rfl).trans ((my_fr.at frh25 is_99 rfl).trans (rfl : h36_0 99 j = h36_0 99 j)))))))
                        have a101 : ∀ j : Int, h87 101 j = h36_0 101 j := fun j => ((my_cp_role fh87 is_101 is_97 rfl).trans ((my_cp_role fh83 is_101 is_96 rfl).trans ((my_fr.at frh70 is_101 rfl).trans ((my_up_role fh40 is_101 is_111 rfl).trans ((my_up_role fh38 is_101 is_111 rfl).trans ((my_fr.at frh25 is_101 rfl).trans (rfl : h36_0 101 j = h36_0 101 j)))))))
                        have a103 : ∀ j : Int, h87 103 j = h36_0 103 j := fun j => ((my_cp_role fh87 is_103 is_97 rfl).trans ((my_cp_role fh83 is_103 is_96 rfl).trans ((my_fr.at frh70 is_103 rfl).trans ((my_up_role fh40 is_103 is_111 rfl).trans ((my_up_role fh38 is_103 is_111 rfl).trans ((my_fr.at frh25 is_103 rfl).trans (rfl : h36_0 103 j = h36_0 103 j)))))))
                        have bf9 : ∀ k j : Int, 0 ≤ k → (k < 94 ∨ 120 ≤ k ∧ k < 151) → h87 k j = h k j := fun k j k0 k1 => (((my_cp_ne fh87 (by omega)).trans ((my_cp_ne fh83 (by omega)).trans ((bg_fr frh70 (by decide +kernel) k j k0 k1).trans ((my_up_ne fh40 (by omega)).trans ((my_up_ne fh38 (by omega)).trans (my_fx.at fxh25 (by omega))))))).trans (bf_36_0 k j k0 k1))
                        have e96f : ∀ j : Int, h87 96 j = h 96 j := fun j => (my_cp_ne fc97 (by omega)).trans (Cf_96 fc96 (fun j a b => (bfB (x1 + 1) j xb.z1 xb.f1).trans (hw j a b)) o96 j)
                        have e97f : ∀ j : Int, h87 97 j = h 97 j := Cf_97 fc97 (fun j a b => (my_cp_ne fc96 (fun z => xb.n2 z.1)).trans ((bfB (x1 + 2) j xb.z2 xb.f2).trans (hz j a b))) (fun j hj => (my_cp_ne fc96 (by omega)).trans (o97 j hj))
                        refine w_weak (ls' := [(2, 94), (2, x1), (0, x2), (1, z36_l3), (9, 0), (0, p10_0), (0, p36_0), (0, (p36_1 + 1)), (9, 0)]) (wk_e (wk_e (wk_e (wk_e (wk_9 (wk_e (wk_e (wk_e (wk_9 wk_n))))))))) ?_
                        exact ih_36_0 (z36_l3) (p36_0) ((p36_1 + 1)) h87 (gh87) (by omega) (by omega) (by omega) (by omega) (by omega) Lst_h87 Ln_h87 Td_h87 (by first | rfl | exact tl_10_0 | exact tl_36_0 | assumption | omega) (by omega) (by omega) (bf9) (by first | exact TgI_to (TgI_0 hd a96 a97 kp9) (by omega) | exact TgI_to tg_10_0 (by omega) | exact TgI_to (TgI_n (by omega) tg_36_0 tg_36_0.1 tg_36_0.2.1 KpS.rf (Q2_no (hsI.2 (by omega)))) (by omega) | exact TgI_to (TgI_n (by omega) tg_36_0 tg_36_0.1 tg_36_0.2.1 KpS.rf (Q2_nt hk htp (by omega) (by omega) (by rw [← tl_36_0]; exact hb2.1 (by assumption)) (by have z := tg_36_0.2.2.1.2.1; omega))) (by omega) | exact TgI_to (TgI_n (by omega) tg_36_0 e96f e97f kp9 (fun z => sa (qI.mpr z))) (by omega) | exact TgI_to (TgI_n (by omega) tg_36_0 e96f e97f kp9 (Q2_la (fun z => by obtain ⟨p, a, b, c, d, e⟩ := fb; exact d (laN z p a b)))) (by omega) | exact TgI_to (TgI_y (a := 0) (b := 0) (by omega) tg_36_0 e96f e97f kp7 no8 kpp sm9 (KpS_cp fc96 fc97) (by omega) (by omega) (by omega) (by omega) pr8 (by omega) q7) (by omega) | exact TgI_to (TgI_s (r2 := 20 * p10_0) (by omega) (by omega) tg_36_0 (fun p a b => Q2_un hk (by omega) (by omega) (un_36_0.2 (by omega)) p (by omega) (by omega))) (by omega) | exact TgI_to tg_36_0 (by omega) | exact TgI_e hk (by omega) (by omega) (by omega) tg_36_0 (by omega) (by omega) (by omega) | assumption | omega) (by first | exact un_36_0 | exact ⟨(fun _ => hb1.2 (by assumption)), (fun z => by exfalso; omega)⟩ | exact ⟨(fun z => by exfalso; omega), (fun _ => hb1.1 (by assumption))⟩ | assumption | omega) (by omega)
                      ·
                        show wp l rho (d + 4) 104 117 [(2, 94), (2, x1), (0, x2), (1, z36_l3), (9, 0), (0, p10_0), (0, p36_0), (0, p36_1), (0, 0)] [(0, v31)] h25 Q
                        have fb := xp34
                        have laI := Lw_drop hk (r := (20 * p10_0 + p36_1)) (g := h25) (by omega) (by omega) e8 (zqCA_e (fun j => my_fr.at gh25 pis_2 rfl) (fun j => my_fr.at gh25 pis_3 rfl) (fun j => my_fr.at gh25 pis_4 rfl) (fun j => my_fr.at gh25 pis_5 rfl) (fun j => my_fr.at gh25 pis_6 rfl))
                        have laN := fun (z : zqLf (zqCA h) (zqDrop (h 96) ((20 * p10_0 + p36_1) / 20) ((20 * p10_0 + p36_1) % 20))) => laI.mpr z
                        refine w_iconst gz_104_117 (by decide) ?_
                        refine w_icne (t := 185) gz_104_118 rfl (fun u112 => ?_) (fun u112 => by exfalso; omega)
                        have bfB : ∀ k j : Int, 0 ≤ k → (k < 94 ∨ 120 ≤ k ∧ k < 151) → h25 k j = h k j := fun k j k0 k1 => ((my_fx.at fxh25 (by omega)).trans (bf_36_0 k j k0 k1))
                        have o96 : ∀ j : Int, (j < 0 ∨ 240 ≤ j) → h25 96 j = h 96 j := fun j hj => ((congrFun e8 j).trans (zqDrop_off j (by omega)))
                        have o97 : ∀ j : Int, (j < 0 ∨ 3 ≤ j) → h25 97 j = h 97 j := fun j hj => ((e7d j).trans (by rw [if_neg (by omega)]; exact tg_36_0.2.1 j))
                        refine w_aload_n gz_104_185 rfl ?_
                        refine w_getX (v := 95) gz_104_186 is_94 rd_2 rfl (by decide) rfl ?_
                        refine w_aload_n gz_104_189 rfl ?_
                        refine w_inv (k := 0) (as := [(2, x1)]) (r := []) (x := 95) (ls0 := [(2, 95), (2, x1)]) gz_104_190 gm_25 rfl is_95 rd_6 rfl rfl rfl rfl rfl ?_
                        refine w_aload_n gz_25_0 rfl ?_
                        refine w_getX (v := (x1 + 1)) gz_25_1 t1 rd_6 rfl (by decide) rfl ?_
                        refine w_iconst gz_25_4 (by decide) ?_
                        refine w_aload_n gz_25_5 rfl ?_
                        refine w_getX (v := 96) gz_25_6 is_95 rd_6 rfl (by decide) rfl ?_
                        refine w_iconst gz_25_9 (by decide) ?_
                        refine w_aload_n gz_25_10 rfl ?_
                        refine w_getX (v := 96) gz_25_11 is_95 rd_6 rfl (by decide) rfl ?_
                        refine v_alen (j := 240) gz_25_14 rfl is_96 rd_30 (by decide) ?_
                        refine w_cpU gz_25_15 (ix_6_1 t1) rd_30 is_96 rd_30 (by omega) (by omega) (by omega) (by omega) (by omega) rfl (by decide) (by decide) (fun h117 fh117 => ?_)
                        have gh117 : my_fr [(2, 11), (7, 0), (7, 1), (7, 2), (7, 3), (7, 4), (7, 5), (8, 0), (8, 1), (30, -1), (31, -1), (42, -1), (43, -1), (44, -1)] h h117 := my_fr.cp gh25 is_96 fh117 rfl
                        have Lst_h117 : Lst h117 := Lst_ag (my_ag.cp fh117 is_96 rfl) Lst_h25
                        have Ln_h117 : Ln h117 := Ln_ag (my_ag.cp fh117 is_96 rfl) Ln_h25
                        have Td_h117 : Td h117 x2 := Td_ag (my_ag.cp fh117 is_96 rfl) Ln_h25 Td_h25
                        have fc96 := fh117
                        refine w_aload_n gz_25_18 rfl ?_
                        refine w_getX (v := (x1 + 2)) gz_25_19 t1 rd_6 rfl (by decide) rfl ?_
                        refine w_iconst gz_25_22 (by decide) ?_
                        refine w_aload_n gz_25_23 rfl ?_
                        refine w_getX (v := 97) gz_25_24 is_95 rd_6 rfl (by decide) rfl ?_
                        refine w_iconst gz_25_27 (by decide) ?_
                        refine w_aload_n gz_25_28 rfl ?_
                        refine w_getX (v := 97) gz_25_29 is_95 rd_6 rfl (by decide) rfl ?_
                        refine v_alen (j := 3) gz_25_32 rfl is_97 rd_31 (by decide) ?_
                        refine w_cpU gz_25_33 (ix_6_2 t1) rd_31 is_97 rd_31 (by omega) (by omega) (by omega) (by omega) (by omega) rfl (by decide) (by decide) (fun h121 fh121 => ?_)
                        have gh121 : my_fr [(2, 11), (7, 0), (7, 1), (7, 2), (7, 3), (7, 4), (7, 5), (8, 0), (8, 1), (30, -1), (31, -1), (42, -1), (43, -1), (44, -1)] h h121 := my_fr.cp gh117 is_97 fh121 rfl
                        have Lst_h121 : Lst h121 := Lst_ag (my_ag.cp fh121 is_97 rfl) Lst_h117
                        have Ln_h121 : Ln h121 := Ln_ag (my_ag.cp fh121 is_97 rfl) Ln_h117
                        have Td_h121 : Td h121 x2 := Td_ag (my_ag.cp fh121 is_97 rfl) Ln_h117 Td_h117
                        have fc97 := fh121
                        refine w_vret gz_25_36 gm_25 ?_
                        show wp l rho (d + 4) 104 193 [(2, 94), (2, x1), (0, x2), (1, z36_l3), (9, 0), (0, p10_0), (0, p36_0), (0, p36_1), (0, 0)] [] h121 Q
                        refine w_iinc (ls' := [(2, 94), (2, x1), (0, x2), (1, z36_l3), (9, 0), (0, p10_0), (0, p36_0), (0, (p36_1 + 1)), (0, 0)]) gz_104_193 rfl gm_104 rfl rfl rfl ⟨by omega, by omega⟩ ?_
                        refine w_goto (t := 36) gz_104_196 rfl ?_
                        have ce122 : h121 111 4 = h36_0 111 4 := ((my_cp_role fh121 is_111 is_97 rfl).trans ((my_cp_role fh117 is_111 is_96 rfl).trans ((my_fr.at frh25 is_111 rfl).trans (rfl : h36_0 111 4 = h36_0 111 4))))
                        have ce123 : h121 111 5 = h36_0 111 5 := ((my_cp_role fh121 is_111 is_97 rfl).trans ((my_cp_role fh117 is_111 is_96 rfl).trans ((my_fr.at frh25 is_111 rfl).trans (rfl : h36_0 111 5 = h36_0 111 5))))
                        have ce124 : h121 94 11 = h36_0 94 11 := ((my_cp_role fh121 is_94 is_97 rfl).trans ((my_cp_role fh117 is_94 is_96 rfl).trans ((my_fr.at frh25 is_94 rfl).trans (rfl : h36_0 94 11 = h36_0 94 11))))
                        have ce125 : h121 94 12 = h36_0 94 12 := ((my_cp_role fh121 is_94 is_97 rfl).trans ((my_cp_role fh117 is_94 is_96 rfl).trans ((my_fr.at frh25 is_94 rfl).trans (rfl : h36_0 94 12 = h36_0 94 12))))
                        have ce126 : h121 94 13 = (h36_0 94 13) := ((my_cp_role fh121 is_94 is_97 rfl).trans ((my_cp_role fh117 is_94 is_96 rfl).trans ((my_fr.at frh25 is_94 rfl).trans (rfl : h36_0 94 13 = h36_0 94 13))))
                        have ce127 : h121 94 14 = v22 := ((my_cp_role fh121 is_94 is_97 rfl).trans ((my_cp_role fh117 is_94 is_96 rfl).trans ((my_fr.at frh25 is_94 rfl).trans ev22.symm)))
                        have ce128 : h121 94 15 = h36_0 94 15 := ((my_cp_role fh121 is_94 is_97 rfl).trans ((my_cp_role fh117 is_94 is_96 rfl).trans ((my_fr.at frh25 is_94 rfl).trans (rfl : h36_0 94 15 = h36_0 94 15))))
                        have ce129 : h121 94 16 = h36_0 94 16 := ((my_cp_role fh121 is_94 is_97 rfl).trans ((my_cp_role fh117 is_94 is_96 rfl).trans ((my_fr.at frh25 is_94 rfl).trans (rfl : h36_0 94 16 = h36_0 94 16))))
                        have ce130 : h121 98 0 = h36_0 98 0 := ((my_cp_role fh121 is_98 is_97 rfl).trans ((my_cp_role fh117 is_98 is_96 rfl).trans ((my_fr.at frh25 is_98 rfl).trans (rfl : h36_0 98 0 = h36_0 98 0))))
                        have ce131 : h121 98 1 = h36_0 98 1 := ((my_cp_role fh121 is_98 is_97 rfl).trans ((my_cp_role fh117 is_98 is_96 rfl).trans ((my_fr.at frh25 is_98 rfl).trans (rfl : h36_0 98 1 = h36_0 98 1))))
                        have ce132 : h121 102 0 = h36_0 102 0 := ((my_cp_role fh121 is_102 is_97 rfl).trans ((my_cp_role fh117 is_102 is_96 rfl).trans ((my_fr.at frh25 is_102 rfl).trans (rfl : h36_0 102 0 = h36_0 102 0))))
                        have ce133 : h121 102 1 = h36_0 102 1 := ((my_cp_role fh121 is_102 is_97 rfl).trans ((my_cp_role fh117 is_102 is_96 rfl).trans ((my_fr.at frh25 is_102 rfl).trans (rfl : h36_0 102 1 = h36_0 102 1))))
                        have ce134 : h121 112 0 = h36_0 112 0 := ((my_cp_role fh121 is_112 is_97 rfl).trans ((my_cp_role fh117 is_112 is_96 rfl).trans ((my_fr.at frh25 is_112 rfl).trans (rfl : h36_0 112 0 = h36_0 112 0))))
                        have ce135 : h121 112 1 = h36_0 112 1 := ((my_cp_role fh121 is_112 is_97 rfl).trans ((my_cp_role fh117 is_112 is_96 rfl).trans ((my_fr.at frh25 is_112 rfl).trans (rfl : h36_0 112 1 = h36_0 112 1))))
                        have ce136 : h121 112 2 = h36_0 112 2 := ((my_cp_role fh121 is_112 is_97 rfl).trans ((my_cp_role fh117 is_112 is_96 rfl).trans ((my_fr.at frh25 is_112 rfl).trans (rfl : h36_0 112 2 = h36_0 112 2))))
                        have ce137 : h121 112 3 = h36_0 112 3 := ((my_cp_role fh121 is_112 is_97 rfl).trans ((my_cp_role fh117 is_112 is_96 rfl).trans ((my_fr.at frh25 is_112 rfl).trans (rfl : h36_0 112 3 = h36_0 112 3))))
                        have ce138 : h121 112 4 = h36_0 112 4 := ((my_cp_role fh121 is_112 is_97 rfl).trans ((my_cp_role fh117 is_112 is_96 rfl).trans ((my_fr.at frh25 is_112 rfl).trans (rfl : h36_0 112 4 = h36_0 112 4))))
                        have ce139 : h121 112 5 = h36_0 112 5 := ((my_cp_role fh121 is_112 is_97 rfl).trans ((my_cp_role fh117 is_112 is_96 rfl).trans ((my_fr.at frh25 is_112 rfl).trans (rfl : h36_0 112 5 = h36_0 112 5))))
                        have ce140 : h121 113 0 = h36_0 113 0 := ((my_cp_role fh121 is_113 is_97 rfl).trans ((my_cp_role fh117 is_113 is_96 rfl).trans ((my_fr.at frh25 is_113 rfl).trans (rfl : h36_0 113 0 = h36_0 113 0))))
                        have ce141 : h121 113 1 = h36_0 113 1 := ((my_cp_role fh121 is_113 is_97 rfl).trans ((my_cp_role fh117 is_113 is_96 rfl).trans ((my_fr.at frh25 is_113 rfl).trans (rfl : h36_0 113 1 = h36_0 113 1))))
                        have ce142 : h121 113 2 = h36_0 113 2 := ((my_cp_role fh121 is_113 is_97 rfl).trans ((my_cp_role fh117 is_113 is_96 rfl).trans ((my_fr.at frh25 is_113 rfl).trans (rfl : h36_0 113 2 = h36_0 113 2))))
                        have ce143 : h121 113 3 = h36_0 113 3 := ((my_cp_role fh121 is_113 is_97 rfl).trans ((my_cp_role fh117 is_113 is_96 rfl).trans ((my_fr.at frh25 is_113 rfl).trans (rfl : h36_0 113 3 = h36_0 113 3))))
                        have ce144 : h121 113 4 = h36_0 113 4 := ((my_cp_role fh121 is_113 is_97 rfl).trans ((my_cp_role fh117 is_113 is_96 rfl).trans ((my_fr.at frh25 is_113 rfl).trans (rfl : h36_0 113 4 = h36_0 113 4))))
                        have ce145 : h121 113 5 = h36_0 113 5 := ((my_cp_role fh121 is_113 is_97 rfl).trans ((my_cp_role fh117 is_113 is_96 rfl).trans ((my_fr.at frh25 is_113 rfl).trans (rfl : h36_0 113 5 = h36_0 113 5))))
                        have a99 : ∀ j : Int, h121 99 j = h36_0 99 j := fun j => ((my_cp_role fh121 is_99 is_97 rfl).trans ((my_cp_role fh117 is_99 is_96 rfl).trans ((my_fr.at frh25 is_99 rfl).trans (rfl : h36_0 99 j = h36_0 99 j))))
                        have a101 : ∀ j : Int, h121 101 j = h36_0 101 j := fun j => ((my_cp_role fh121 is_101 is_97 rfl).trans ((my_cp_role fh117 is_101 is_96 rfl).trans ((my_fr.at frh25 is_101 rfl).trans (rfl : h36_0 101 j = h36_0 101 j))))
                        have a103 : ∀ j : Int, h121 103 j = h36_0 103 j := fun j => ((my_cp_role fh121 is_103 is_97 rfl).trans ((my_cp_role fh117 is_103 is_96 rfl).trans ((my_fr.at frh25 is_103 rfl).trans (rfl : h36_0 103 j = h36_0 103 j))))
                        have bf9 : ∀ k j : Int, 0 ≤ k → (k < 94 ∨ 120 ≤ k ∧ k < 151) → h121 k j = h k j := fun k j k0 k1 => (((my_cp_ne fh121 (by omega)).trans ((my_cp_ne fh117 (by omega)).trans (my_fx.at fxh25 (by omega)))).trans (bf_36_0 k j k0 k1))
                        have kp9 : KpS h36_0 h121 := ⟨⟨by omega, by omega, by omega, by omega, by omega, by omega, by omega, by omega, a99, a101, a103⟩, ⟨by omega, by omega⟩, ⟨by omega, by omega, by omega, by omega, by omega, by omega⟩, ⟨by omega, by omega, by omega, by omega, by omega, by omega⟩⟩
                        have e96f : ∀ j : Int, h121 96 j = h 96 j := fun j => (my_cp_ne fc97 (by omega)).trans (Cf_96 fc96 (fun j a b => (bfB (x1 + 1) j xb.z1 xb.f1).trans (hw j a b)) o96 j)
                        have e97f : ∀ j : Int, h121 97 j = h 97 j := Cf_97 fc97 (fun j a b => (my_cp_ne fc96 (fun z => xb.n2 z.1)).trans ((bfB (x1 + 2) j xb.z2 xb.f2).trans (hz j a b))) (fun j hj => (my_cp_ne fc96 (by omega)).trans (o97 j hj))
                        refine w_weak (ls' := [(2, 94), (2, x1), (0, x2), (1, z36_l3), (9, 0), (0, p10_0), (0, p36_0), (0, (p36_1 + 1)), (9, 0)]) (wk_e (wk_e (wk_e (wk_e (wk_9 (wk_e (wk_e (wk_e (wk_9 wk_n))))))))) ?_
                        exact ih_36_0 (z36_l3) (p36_0) ((p36_1 + 1)) h121 (gh121) (by omega) (by omega) (by omega) (by omega) (by omega) Lst_h121 Ln_h121 Td_h121 (by first | rfl | exact tl_10_0 | exact tl_36_0 | assumption | omega) (by omega) (by omega) (bf9) (by first | exact TgI_to (TgI_0 hd a96 a97 kp9) (by omega) | exact TgI_to tg_10_0 (by omega) | exact TgI_to (TgI_n (by omega) tg_36_0 tg_36_0.1 tg_36_0.2.1 KpS.rf (Q2_no (hsI.2 (by omega)))) (by omega) | exact TgI_to (TgI_n (by omega) tg_36_0 tg_36_0.1 tg_36_0.2.1 KpS.rf (Q2_nt hk htp (by omega) (by omega) (by rw [← tl_36_0]; exact hb2.1 (by assumption)) (by have z := tg_36_0.2.2.1.2.1; omega))) (by omega) | exact TgI_to (TgI_n (by omega) tg_36_0 e96f e97f kp9 (fun z => sa (qI.mpr z))) (by omega) | exact TgI_to (TgI_n (by omega) tg_36_0 e96f e97f kp9 (Q2_la (fun z => by obtain ⟨p, a, b, c, d, e⟩ := fb; exact d (laN z p a b)))) (by omega) | exact TgI_to (TgI_y (a := 0) (b := 0) (by omega) tg_36_0 e96f e97f kp7 no8 kpp sm9 (KpS_cp fc96 fc97) (by omega) (by omega) (by omega) (by omega) pr8 (by omega) q7) (by omega) | exact TgI_to (TgI_s (r2 := 20 * p10_0) (by omega) (by omega) tg_36_0 (fun p a b => Q2_un hk (by omega) (by omega) (un_36_0.2 (by omega)) p (by omega) (by omega))) (by omega) | exact TgI_to tg_36_0 (by omega) | exact TgI_e hk (by omega) (by omega) (by omega) tg_36_0 (by omega) (by omega) (by omega) | assumption | omega) (by first | exact un_36_0 | exact ⟨(fun _ => hb1.2 (by assumption)), (fun z => by exfalso; omega)⟩ | exact ⟨(fun z => by exfalso; omega), (fun _ => hb1.1 (by assumption))⟩ | assumption | omega) (by omega)
                    ·
                      refine w_goto (t := 193) gz_104_92 rfl ?_
                      refine w_iinc (ls' := [(2, 94), (2, x1), (0, x2), (1, z36_l3), (9, 0), (0, p10_0), (0, p36_0), (0, (p36_1 + 1)), (0, 0)]) gz_104_193 rfl gm_104 rfl rfl rfl ⟨by omega, by omega⟩ ?_
                      refine w_goto (t := 36) gz_104_196 rfl ?_
                      have ce146 : h36_0 94 13 = (h36_0 94 13) := (rfl : h36_0 94 13 = h36_0 94 13)
                      have ce147 : h36_0 94 14 = v22 := ev22.symm
                      have a99 : ∀ j : Int, h36_0 99 j = h36_0 99 j := fun _ => rfl
                      have a101 : ∀ j : Int, h36_0 101 j = h36_0 101 j := fun _ => rfl
                      have a103 : ∀ j : Int, h36_0 103 j = h36_0 103 j := fun _ => rfl
                      have bf9 : ∀ k j : Int, 0 ≤ k → (k < 94 ∨ 120 ≤ k ∧ k < 151) → h36_0 k j = h k j := fun k j k0 k1 => (bf_36_0 k j k0 k1)
                      have kp9 : KpS h36_0 h36_0 := KpS.rf
                      refine w_weak (ls' := [(2, 94), (2, x1), (0, x2), (1, z36_l3), (9, 0), (0, p10_0), (0, p36_0), (0, (p36_1 + 1)), (9, 0)]) (wk_e (wk_e (wk_e (wk_e (wk_9 (wk_e (wk_e (wk_e (wk_9 wk_n))))))))) ?_
                      exact ih_36_0 (z36_l3) (p36_0) ((p36_1 + 1)) h36_0 (gh_36_0) (by omega) (by omega) (by omega) (by omega) (by omega) n_Lst_36_0 n_Ln_36_0 n_Td_36_0 (by first | rfl | exact tl_10_0 | exact tl_36_0 | assumption | omega) (by omega) (by omega) (bf9) (by first | exact TgI_to (TgI_0 hd a96 a97 kp9) (by omega) | exact TgI_to tg_10_0 (by omega) | exact TgI_to (TgI_n (by omega) tg_36_0 tg_36_0.1 tg_36_0.2.1 KpS.rf (Q2_no (hsI.2 (by omega)))) (by omega) | exact TgI_to (TgI_n (by omega) tg_36_0 tg_36_0.1 tg_36_0.2.1 KpS.rf (Q2_nt hk htp (by omega) (by omega) (by rw [← tl_36_0]; exact hb2.1 (by assumption)) (by have z := tg_36_0.2.2.1.2.1; omega))) (by omega) | exact TgI_to (TgI_n (by omega) tg_36_0 e96f e97f kp9 (fun z => sa (qI.mpr z))) (by omega) | exact TgI_to (TgI_n (by omega) tg_36_0 e96f e97f kp9 (Q2_la (fun z => by obtain ⟨p, a, b, c, d, e⟩ := fb; exact d (laN z p a b)))) (by omega) | exact TgI_to (TgI_y (a := 0) (b := 0) (by omega) tg_36_0 e96f e97f kp7 no8 kpp sm9 (KpS_cp fc96 fc97) (by omega) (by omega) (by omega) (by omega) pr8 (by omega) q7) (by omega) | exact TgI_to (TgI_s (r2 := 20 * p10_0) (by omega) (by omega) tg_36_0 (fun p a b => Q2_un hk (by omega) (by omega) (un_36_0.2 (by omega)) p (by omega) (by omega))) (by omega) | exact TgI_to tg_36_0 (by omega) | exact TgI_e hk (by omega) (by omega) (by omega) tg_36_0 (by omega) (by omega) (by omega) | assumption | omega) (by first | exact un_36_0 | exact ⟨(fun _ => hb1.2 (by assumption)), (fun z => by exfalso; omega)⟩ | exact ⟨(fun z => by exfalso; omega), (fun _ => hb1.1 (by assumption))⟩ | assumption | omega) (by omega)
                ·
                  refine w_iconst gz_69_10 (by decide) ?_
                  refine w_goto (t := 15) gz_69_11 rfl ?_
                  refine w_bret gz_69_15 gm_69 (by omega) (by omega) ?_
                  show wp l rho (d + 4) 104 67 [(2, 94), (2, x1), (0, x2), (1, z36_l3), (9, 0), (0, p10_0), (0, p36_0), (0, p36_1), (9, 0)] [(0, 1)] h36_0 Q
                  have hb2 := hasBit_z (M := z36_l3) (C := 20 * p10_0 + p36_1) (by assumption) (by assumption) (by assumption) (by omega) (by omega) (by omega) (by omega)
                  refine w_istore (ls' := [(2, 94), (2, x1), (0, x2), (1, z36_l3), (9, 0), (0, p10_0), (0, p36_0), (0, p36_1), (0, 1)]) gz_104_67 gm_104 rfl rfl rfl ?_
                  refine w_aload_n gz_104_69 rfl ?_
                  refine w_iload gz_104_70 rfl ?_
                  refine w_iload gz_104_72 rfl ?_
                  refine w_inv (k := 0) (as := [(0, p36_1), (0, p10_0)]) (r := []) (x := x1) (ls0 := [(2, x1), (0, p10_0), (0, p36_1)]) gz_104_74 gm_15 rfl t1 rd_6 rfl rfl rfl rfl rfl ?_
                  refine w_iload_n gz_15_0 rfl ?_
                  refine w_iflt (t := 31) gz_15_1 rfl (fun u148 => by exfalso; omega) (fun u148 => ?_)
                  refine w_iload_n gz_15_4 rfl ?_
                  refine w_bipush gz_15_5 (by decide) ?_
                  refine w_icge (t := 31) gz_15_7 rfl (fun u149 => by exfalso; omega) (fun u149 => ?_)
                  refine w_aload_n gz_15_10 rfl ?_
                  refine w_getX (v := (x1 + 1)) gz_15_11 t1 rd_6 rfl (by decide) rfl ?_
                  refine w_iload_n gz_15_14 rfl ?_
                  refine w_bipush gz_15_15 (by decide) ?_
                  refine w_imul gz_15_17 ⟨by omega, by omega⟩ ?_
                  refine w_iload_n gz_15_18 rfl ?_
                  refine w_iadd gz_15_19 ⟨by omega, by omega⟩ ?_
                  refine w_iconst gz_15_20 (by decide) ?_
                  refine w_imul gz_15_21 ⟨by omega, by omega⟩ ?_
                  refine w_iald gz_15_22 (ix_6_1 t1) rd_30 (by omega) (by omega) (fun v151 ev151 pv151 qv151 => ?_)
                  have hhas : h36_0 (x1 + 1) (80 * p10_0 + 4 * p36_1) = v151 := by rw [show (80 * p10_0 + 4 * p36_1 : Int) = (((p10_0 * 20) + p36_1) * 4) by omega]; omega
                  refine w_iconst gz_15_23 (by decide) ?_
                  refine w_iceq (t := 31) gz_15_24 rfl (fun u152 => ?_) (fun u152 => ?_)
                  ·
                    refine w_iconst gz_15_31 (by decide) ?_
                    refine w_bret gz_15_32 gm_15 (by omega) (by omega) ?_
                    show wp l rho (d + 4) 104 77 [(2, 94), (2, x1), (0, x2), (1, z36_l3), (9, 0), (0, p10_0), (0, p36_0), (0, p36_1), (0, 1)] [(0, 0)] h36_0 Q
                    have hsI := Hs_i (w := p10_0) (k := p36_1) (by omega) (by omega) ((hw _ (by omega) (by omega)).symm.trans ((bf_36_0 (x1 + 1) (80 * p10_0 + 4 * p36_1) xb.z1 xb.f1).symm.trans hhas))
                    refine w_ifeq (t := 193) gz_104_77 rfl (fun u153 => ?_) (fun u153 => by exfalso; omega)
                    refine w_iinc (ls' := [(2, 94), (2, x1), (0, x2), (1, z36_l3), (9, 0), (0, p10_0), (0, p36_0), (0, (p36_1 + 1)), (0, 1)]) gz_104_193 rfl gm_104 rfl rfl rfl ⟨by omega, by omega⟩ ?_
                    refine w_goto (t := 36) gz_104_196 rfl ?_
                    have ce154 : h36_0 94 13 = (h36_0 94 13) := (rfl : h36_0 94 13 = h36_0 94 13)
                    have a99 : ∀ j : Int, h36_0 99 j = h36_0 99 j := fun _ => rfl
                    have a101 : ∀ j : Int, h36_0 101 j = h36_0 101 j := fun _ => rfl
                    have a103 : ∀ j : Int, h36_0 103 j = h36_0 103 j := fun _ => rfl
                    have bf9 : ∀ k j : Int, 0 ≤ k → (k < 94 ∨ 120 ≤ k ∧ k < 151) → h36_0 k j = h k j := fun k j k0 k1 => (bf_36_0 k j k0 k1)
                    have kp9 : KpS h36_0 h36_0 := KpS.rf
                    refine w_weak (ls' := [(2, 94), (2, x1), (0, x2), (1, z36_l3), (9, 0), (0, p10_0), (0, p36_0), (0, (p36_1 + 1)), (9, 0)]) (wk_e (wk_e (wk_e (wk_e (wk_9 (wk_e (wk_e (wk_e (wk_9 wk_n))))))))) ?_
                    exact ih_36_0 (z36_l3) (p36_0) ((p36_1 + 1)) h36_0 (gh_36_0) (by omega) (by omega) (by omega) (by omega) (by omega) n_Lst_36_0 n_Ln_36_0 n_Td_36_0 (by first | rfl | exact tl_10_0 | exact tl_36_0 | assumption | omega) (by omega) (by omega) (bf9) (by first | exact TgI_to (TgI_0 hd a96 a97 kp9) (by omega) | exact TgI_to tg_10_0 (by omega) | exact TgI_to (TgI_n (by omega) tg_36_0 tg_36_0.1 tg_36_0.2.1 KpS.rf (Q2_no (hsI.2 (by omega)))) (by omega) | exact TgI_to (TgI_n (by omega) tg_36_0 tg_36_0.1 tg_36_0.2.1 KpS.rf (Q2_nt hk htp (by omega) (by omega) (by rw [← tl_36_0]; exact hb2.1 (by assumption)) (by have z := tg_36_0.2.2.1.2.1; omega))) (by omega) | exact TgI_to (TgI_n (by omega) tg_36_0 e96f e97f kp9 (fun z => sa (qI.mpr z))) (by omega) | exact TgI_to (TgI_n (by omega) tg_36_0 e96f e97f kp9 (Q2_la (fun z => by obtain ⟨p, a, b, c, d, e⟩ := fb; exact d (laN z p a b)))) (by omega) | exact TgI_to (TgI_y (a := 0) (b := 0) (by omega) tg_36_0 e96f e97f kp7 no8 kpp sm9 (KpS_cp fc96 fc97) (by omega) (by omega) (by omega) (by omega) pr8 (by omega) q7) (by omega) | exact TgI_to (TgI_s (r2 := 20 * p10_0) (by omega) (by omega) tg_36_0 (fun p a b => Q2_un hk (by omega) (by omega) (un_36_0.2 (by omega)) p (by omega) (by omega))) (by omega) | exact TgI_to tg_36_0 (by omega) | exact TgI_e hk (by omega) (by omega) (by omega) tg_36_0 (by omega) (by omega) (by omega) | assumption | omega) (by first | exact un_36_0 | exact ⟨(fun _ => hb1.2 (by assumption)), (fun z => by exfalso; omega)⟩ | exact ⟨(fun z => by exfalso; omega), (fun _ => hb1.1 (by assumption))⟩ | assumption | omega) (by omega)
                  ·
                    refine w_iconst gz_15_27 (by decide) ?_
                    refine w_goto (t := 32) gz_15_28 rfl ?_
                    refine w_bret gz_15_32 gm_15 (by omega) (by omega) ?_
                    show wp l rho (d + 4) 104 77 [(2, 94), (2, x1), (0, x2), (1, z36_l3), (9, 0), (0, p10_0), (0, p36_0), (0, p36_1), (0, 1)] [(0, 1)] h36_0 Q
                    have hsI := Hs_i (w := p10_0) (k := p36_1) (by omega) (by omega) ((hw _ (by omega) (by omega)).symm.trans ((bf_36_0 (x1 + 1) (80 * p10_0 + 4 * p36_1) xb.z1 xb.f1).symm.trans hhas))
                    refine w_ifeq (t := 193) gz_104_77 rfl (fun u155 => by exfalso; omega) (fun u155 => ?_)
                    refine w_iload gz_104_80 rfl ?_
                    refine w_ifne (t := 95) gz_104_82 rfl (fun u156 => ?_) (fun u156 => by exfalso; omega)
                    refine w_aload_n gz_104_95 rfl ?_
                    refine w_getX (v := 95) gz_104_96 is_94 rd_2 rfl (by decide) rfl ?_
                    refine w_iload gz_104_99 rfl ?_
                    refine w_iload gz_104_101 rfl ?_
                    have hs8 := hsI.1 (by omega)
                    have as8 : h36_0 94 14 = h 94 14 := tg_36_0.2.2.1.2.1
                    have un8 : zqlb (h (h 27 x2) 6) ((20 * p10_0 + p36_1) / 20) := by
                      rw [show (20 * p10_0 + p36_1) / 20 = p10_0 by omega]
                      exact un_36_0.1 (by omega)
                    refine w_inv (k := 2) (as := [(0, p36_1), (0, p10_0)]) (r := []) (x := 95) (ls0 := [(2, 95), (0, p10_0), (0, p36_1), (9, 0), (9, 0)]) gz_104_103 gm_23 rfl is_95 rd_6 rfl rfl rfl rfl rfl (c_Rows_drop5 (d := (d + 2)) (x0 := 95) (x1 := p10_0) (x2 := p36_1) is_95 (by omega) (by omega) (by omega) (by omega) ((by have q := SrC_sz hk p10_0 (by omega) (by omega); have e := tg_36_0.2.1 p10_0; show 0 ≤ h36_0 97 p10_0 ∧ h36_0 97 p10_0 ≤ 10; omega)) (fun h158 frh158 fxh158 xp159 xp160 => ?_))
                    have gh158 : my_fr [(2, 11), (7, 0), (7, 1), (7, 2), (7, 3), (7, 4), (7, 5), (8, 0), (8, 1), (30, -1), (31, -1), (42, -1), (43, -1), (44, -1)] h h158 := my_fr.tr gh_36_0 (frh158.mo rfl)
                    have Lst_h158 : Lst h158 := Lst_ag (my_ag.fr frh158 rfl) n_Lst_36_0
                    have Ln_h158 : Ln h158 := Ln_ag (my_ag.fr frh158 rfl) n_Ln_36_0
                    have Td_h158 : Td h158 x2 := Td_ag (my_ag.fr frh158 rfl) n_Ln_36_0 n_Td_36_0
                    show wp l rho (d + 4) 104 106 [(2, 94), (2, x1), (0, x2), (1, z36_l3), (9, 0), (0, p10_0), (0, p36_0), (0, p36_1), (0, 1)] [] h158 Q
                    have e8 : h158 96 = zqDrop (h 96) ((20 * p10_0 + p36_1) / 20) ((20 * p10_0 + p36_1) % 20) := funext fun j => (xp159 j).trans (by rw [show h36_0 (95 + 1) = h 96 from funext tg_36_0.1, show (20 * p10_0 + p36_1) / 20 = p10_0 by omega, show (20 * p10_0 + p36_1) % 20 = p36_1 by omega])
                    have e7d := xp160
                    refine w_aload_n gz_104_106 rfl ?_
                    refine w_getX (v := 1) gz_104_107 is_94 rd_2 rfl (by decide) rfl ?_
                    refine w_aload_n gz_104_110 rfl ?_
                    refine w_getX (v := 95) gz_104_111 is_94 rd_2 rfl (by decide) rfl ?_
                    refine w_inv (k := 4) (as := [(2, 95)]) (r := []) (x := 1) (ls0 := [(2, 1), (2, 95), (9, 0), (9, 0), (9, 0), (9, 0)]) gz_104_114 gm_19 rfl is_1 rd_3 rfl rfl rfl rfl rfl (c_Laws_firstBroken5 (d := (d + 1)) (x1 := 95) is_95 (fun xp163 => ?_) (fun v164 w165 w166 xp167 => ?_))
                    ·
                      show wp l rho (d + 4) 104 117 [(2, 94), (2, x1), (0, x2), (1, z36_l3), (9, 0), (0, p10_0), (0, p36_0), (0, p36_1), (0, 1)] [(0, (-1))] h158 Q
                      have fb := xp163
                      have laI := Lw_drop hk (r := (20 * p10_0 + p36_1)) (g := h158) (by omega) (by omega) e8 (zqCA_e (fun j => my_fr.at gh158 pis_2 rfl) (fun j => my_fr.at gh158 pis_3 rfl) (fun j => my_fr.at gh158 pis_4 rfl) (fun j => my_fr.at gh158 pis_5 rfl) (fun j => my_fr.at gh158 pis_6 rfl))
                      have laN := fun (z : zqLf (zqCA h) (zqDrop (h 96) ((20 * p10_0 + p36_1) / 20) ((20 * p10_0 + p36_1) % 20))) => laI.mpr z
                      refine w_iconst gz_104_117 (by decide) ?_
                      refine w_icne (t := 185) gz_104_118 rfl (fun u168 => by exfalso; omega) (fun u168 => ?_)
                      have la8 := laI.mp fb
                      refine w_iload gz_104_121 rfl ?_
                      refine w_ifeq (t := 152) gz_104_123 rfl (fun u169 => by exfalso; omega) (fun u169 => ?_)
                      refine w_aload_n gz_104_126 rfl ?_
                      refine w_getX (v := 106) gz_104_127 is_94 rd_2 rfl (by decide) rfl ?_
                      refine w_aload_n gz_104_130 rfl ?_
                      refine w_getX (v := 27) gz_104_131 is_94 rd_2 rfl (by decide) rfl ?_
                      refine w_iload_n gz_104_134 rfl ?_
                      refine w_aload_n gz_104_135 rfl ?_
                      refine w_getX (v := 95) gz_104_136 is_94 rd_2 rfl (by decide) rfl ?_
                      have ag7 := my_ag.fr (F := LwF) gh158 rfl
                      have gd7 : zqGd (h158 96) := Gd_r hk (by omega) (by omega) e8
                      refine w_inv (k := 4) (as := [(2, 95), (0, x2), (2, 27)]) (r := []) (x := 106) (ls0 := [(2, 106), (2, 27), (0, x2), (2, 95), (9, 0), (9, 0), (9, 0), (9, 0)]) gz_104_139 gm_67 rfl is_106 rd_8 rfl rfl rfl rfl rfl (c_View_show6 (d := d) (x0 := 106) (x2 := x2) (x3 := 95) is_106 (by omega) (by omega) (by omega) (by omega) is_95 Ln_h158 Td_h158 (Lw_ag ag7 n_Ln hk.2.2.1) (gd7) (fun h173 v174 frh173 fxh173 w175 xp176 xp177 xp178 xp179 => ?_))
                      have gh173 : my_fr [(2, 11), (7, 0), (7, 1), (7, 2), (7, 3), (7, 4), (7, 5), (8, 0), (8, 1), (30, -1), (31, -1), (42, -1), (43, -1), (44, -1)] h h173 := my_fr.tr gh158 (frh173.mo rfl)
                      have Lst_h173 : Lst h173 := Lst_ag (my_ag.fr frh173 rfl) Lst_h158
                      have Ln_h173 : Ln h173 := Ln_ag (my_ag.fr frh173 rfl) Ln_h158
                      have Td_h173 : Td h173 x2 := Td_ag (my_ag.fr frh173 rfl) Ln_h158 Td_h158
                      show wp l rho (d + 4) 104 142 [(2, 94), (2, x1), (0, x2), (1, z36_l3), (9, 0), (0, p10_0), (0, p36_0), (0, p36_1), (0, 1)] [(2, v174)] h173 Q
                      have vs : VwI h173 106 (h158 96) (h158 (h158 27 x2) 2) (h158 (h158 27 x2) 3) (zqCW h158 x2) := xp177
                      have os := xp178
                      have ys := xp179
                      refine w_aload_n gz_104_142 rfl ?_
                      refine w_getX (v := 102) gz_104_143 is_94 rd_2 rfl (by decide) rfl ?_
                      have ce181 : h173 94 11 = h36_0 94 11 := ((my_fr.at frh173 is_94 rfl).trans ((my_fr.at frh158 is_94 rfl).trans (rfl : h36_0 94 11 = h36_0 94 11)))
                      have ce182 : h173 94 12 = h36_0 94 12 := ((my_fr.at frh173 is_94 rfl).trans ((my_fr.at frh158 is_94 rfl).trans (rfl : h36_0 94 12 = h36_0 94 12)))
                      have ce183 : h173 94 13 = (h36_0 94 13) := ((my_fr.at frh173 is_94 rfl).trans ((my_fr.at frh158 is_94 rfl).trans (rfl : h36_0 94 13 = h36_0 94 13)))
                      have ce184 : h173 94 14 = h36_0 94 14 := ((my_fr.at frh173 is_94 rfl).trans ((my_fr.at frh158 is_94 rfl).trans (rfl : h36_0 94 14 = h36_0 94 14)))
                      have ce185 : h173 94 15 = h36_0 94 15 := ((my_fr.at frh173 is_94 rfl).trans ((my_fr.at frh158 is_94 rfl).trans (rfl : h36_0 94 15 = h36_0 94 15)))
                      have ce186 : h173 94 16 = h36_0 94 16 := ((my_fr.at frh173 is_94 rfl).trans ((my_fr.at frh158 is_94 rfl).trans (rfl : h36_0 94 16 = h36_0 94 16)))
                      have ce187 : h173 98 0 = h36_0 98 0 := ((my_fx.at fxh173 (by omega)).trans ((my_fr.at frh158 is_98 rfl).trans (rfl : h36_0 98 0 = h36_0 98 0)))
                      have ce188 : h173 98 1 = h36_0 98 1 := ((my_fx.at fxh173 (by omega)).trans ((my_fr.at frh158 is_98 rfl).trans (rfl : h36_0 98 1 = h36_0 98 1)))
                      have ce189 : h173 102 0 = h36_0 102 0 := ((my_fx.at fxh173 (by omega)).trans ((my_fr.at frh158 is_102 rfl).trans (rfl : h36_0 102 0 = h36_0 102 0)))
                      have ce190 : h173 102 1 = h36_0 102 1 := ((my_fx.at fxh173 (by omega)).trans ((my_fr.at frh158 is_102 rfl).trans (rfl : h36_0 102 1 = h36_0 102 1)))
                      have ce191 : h173 112 0 = h36_0 112 0 := ((my_fr.at frh173 is_112 rfl).trans ((my_fr.at frh158 is_112 rfl).trans (rfl : h36_0 112 0 = h36_0 112 0)))
                      have ce192 : h173 112 1 = h36_0 112 1 := ((my_fr.at frh173 is_112 rfl).trans ((my_fr.at frh158 is_112 rfl).trans (rfl : h36_0 112 1 = h36_0 112 1)))
                      have ce193 : h173 112 2 = h36_0 112 2 := ((my_fr.at frh173 is_112 rfl).trans ((my_fr.at frh158 is_112 rfl).trans (rfl : h36_0 112 2 = h36_0 112 2)))
                      have ce194 : h173 112 3 = h36_0 112 3 := ((my_fr.at frh173 is_112 rfl).trans ((my_fr.at frh158 is_112 rfl).trans (rfl : h36_0 112 3 = h36_0 112 3)))
                      have ce195 : h173 112 4 = h36_0 112 4 := ((my_fr.at frh173 is_112 rfl).trans ((my_fr.at frh158 is_112 rfl).trans (rfl : h36_0 112 4 = h36_0 112 4)))
                      have ce196 : h173 112 5 = h36_0 112 5 := ((my_fr.at frh173 is_112 rfl).trans ((my_fr.at frh158 is_112 rfl).trans (rfl : h36_0 112 5 = h36_0 112 5)))
                      have ce197 : h173 113 0 = h36_0 113 0 := ((my_fr.at frh173 is_113 rfl).trans ((my_fr.at frh158 is_113 rfl).trans (rfl : h36_0 113 0 = h36_0 113 0)))
                      have ce198 : h173 113 1 = h36_0 113 1 := ((my_fr.at frh173 is_113 rfl).trans ((my_fr.at frh158 is_113 rfl).trans (rfl : h36_0 113 1 = h36_0 113 1)))
                      have ce199 : h173 113 2 = h36_0 113 2 := ((my_fr.at frh173 is_113 rfl).trans ((my_fr.at frh158 is_113 rfl).trans (rfl : h36_0 113 2 = h36_0 113 2)))
                      have ce200 : h173 113 3 = h36_0 113 3 := ((my_fr.at frh173 is_113 rfl).trans ((my_fr.at frh158 is_113 rfl).trans (rfl : h36_0 113 3 = h36_0 113 3)))
                      have ce201 : h173 113 4 = h36_0 113 4 := ((my_fr.at frh173 is_113 rfl).trans ((my_fr.at frh158 is_113 rfl).trans (rfl : h36_0 113 4 = h36_0 113 4)))
                      have ce202 : h173 113 5 = h36_0 113 5 := ((my_fr.at frh173 is_113 rfl).trans ((my_fr.at frh158 is_113 rfl).trans (rfl : h36_0 113 5 = h36_0 113 5)))
                      have a99 : ∀ j : Int, h173 99 j = h36_0 99 j := fun j => ((my_fx.at fxh173 (by omega)).trans ((my_fr.at frh158 is_99 rfl).trans (rfl : h36_0 99 j = h36_0 99 j)))
                      have a101 : ∀ j : Int, h173 101 j = h36_0 101 j := fun j => ((my_fx.at fxh173 (by omega)).trans ((my_fr.at frh158 is_101 rfl).trans (rfl : h36_0 101 j = h36_0 101 j)))
                      have a103 : ∀ j : Int, h173 103 j = h36_0 103 j := fun j => ((my_fx.at fxh173 (by omega)).trans ((my_fr.at frh158 is_103 rfl).trans (rfl : h36_0 103 j = h36_0 103 j)))
                      have sm8 : SmV h36_0 h173 := ⟨by omega, by omega, by omega, by omega, by omega, by omega, by omega, by omega, a99, a101, a103⟩
                      have smh := tg_36_0.2.2.1.tr sm8
                      have kw8 := SrC_w hk
                      refine w_inv (k := 1) (as := [(2, 102)]) (r := []) (x := v174) (ls0 := [(2, v174), (2, 102), (9, 0)]) gz_104_146 gm_93 rfl w175 rd_8 rfl rfl rfl rfl rfl (c_View_same5 (d := (d + 2)) (x0 := v174) (x1 := 102) w175 is_102 ((by rw [ys]; exact ShS_bd hk n_Ln ag7 gd7 vs)) (WtB_cg hk.2.2.2.2.2.2.1 smh.2.2.2.2.2.2.1 smh.2.2.2.2.2.2.2.1 (by omega) smh.2.2.2.2.2.2.2.2.2.2) (fun xp203 => ?_) (fun xp204 => ?_))
                      ·
                        show wp l rho (d + 4) 104 149 [(2, 94), (2, x1), (0, x2), (1, z36_l3), (9, 0), (0, p10_0), (0, p36_0), (0, p36_1), (0, 1)] [(0, 0)] h173 Q
                        have sa := xp203
                        rw [ys] at sa
                        have qI := Q2_sh hk n_Ln ag7 smh (by omega) (by omega) e8 vs os un8 hs8 la8
                        refine w_ifeq (t := 185) gz_104_149 rfl (fun u205 => ?_) (fun u205 => by exfalso; omega)
                        have bfB : ∀ k j : Int, 0 ≤ k → (k < 94 ∨ 120 ≤ k ∧ k < 151) → h173 k j = h k j := fun k j k0 k1 => (((my_fx.at fxh173 (by omega)).trans (my_fx.at fxh158 (by omega))).trans (bf_36_0 k j k0 k1))
                        have o96 : ∀ j : Int, (j < 0 ∨ 240 ≤ j) → h173 96 j = h 96 j := fun j hj => ((my_fr.at frh173 is_96 rfl).trans ((congrFun e8 j).trans (zqDrop_off j (by omega))))
                        have o97 : ∀ j : Int, (j < 0 ∨ 3 ≤ j) → h173 97 j = h 97 j := fun j hj => ((my_fr.at frh173 is_97 rfl).trans ((e7d j).trans (by rw [if_neg (by omega)]; exact tg_36_0.2.1 j)))
                        refine w_aload_n gz_104_185 rfl ?_
                        refine w_getX (v := 95) gz_104_186 is_94 rd_2 rfl (by decide) rfl ?_
                        refine w_aload_n gz_104_189 rfl ?_
                        refine w_inv (k := 0) (as := [(2, x1)]) (r := []) (x := 95) (ls0 := [(2, 95), (2, x1)]) gz_104_190 gm_25 rfl is_95 rd_6 rfl rfl rfl rfl rfl ?_
                        refine w_aload_n gz_25_0 rfl ?_
                        refine w_getX (v := (x1 + 1)) gz_25_1 t1 rd_6 rfl (by decide) rfl ?_
                        refine w_iconst gz_25_4 (by decide) ?_
                        refine w_aload_n gz_25_5 rfl ?_
                        refine w_getX (v := 96) gz_25_6 is_95 rd_6 rfl (by decide) rfl ?_
                        refine w_iconst gz_25_9 (by decide) ?_
                        refine w_aload_n gz_25_10 rfl ?_
                        refine w_getX (v := 96) gz_25_11 is_95 rd_6 rfl (by decide) rfl ?_
                        refine v_alen (j := 240) gz_25_14 rfl is_96 rd_30 (by decide) ?_
                        refine w_cpU gz_25_15 (ix_6_1 t1) rd_30 is_96 rd_30 (by omega) (by omega) (by omega) (by omega) (by omega) rfl (by decide) (by decide) (fun h210 fh210 => ?_)
                        have gh210 : my_fr [(2, 11), (7, 0), (7, 1), (7, 2), (7, 3), (7, 4), (7, 5), (8, 0), (8, 1), (30, -1), (31, -1), (42, -1), (43, -1), (44, -1)] h h210 := my_fr.cp gh173 is_96 fh210 rfl
                        have Lst_h210 : Lst h210 := Lst_ag (my_ag.cp fh210 is_96 rfl) Lst_h173
                        have Ln_h210 : Ln h210 := Ln_ag (my_ag.cp fh210 is_96 rfl) Ln_h173
                        have Td_h210 : Td h210 x2 := Td_ag (my_ag.cp fh210 is_96 rfl) Ln_h173 Td_h173
                        have fc96 := fh210
                        refine w_aload_n gz_25_18 rfl ?_
                        refine w_getX (v := (x1 + 2)) gz_25_19 t1 rd_6 rfl (by decide) rfl ?_
                        refine w_iconst gz_25_22 (by decide) ?_
                        refine w_aload_n gz_25_23 rfl ?_
                        refine w_getX (v := 97) gz_25_24 is_95 rd_6 rfl (by decide) rfl ?_
                        refine w_iconst gz_25_27 (by decide) ?_
                        refine w_aload_n gz_25_28 rfl ?_
                        refine w_getX (v := 97) gz_25_29 is_95 rd_6 rfl (by decide) rfl ?_
                        refine v_alen (j := 3) gz_25_32 rfl is_97 rd_31 (by decide) ?_
                        refine w_cpU gz_25_33 (ix_6_2 t1) rd_31 is_97 rd_31 (by omega) (by omega) (by omega) (by omega) (by omega) rfl (by decide) (by decide) (fun h214 fh214 => ?_)
                        have gh214 : my_fr [(2, 11), (7, 0), (7, 1), (7, 2), (7, 3), (7, 4), (7, 5), (8, 0), (8, 1), (30, -1), (31, -1), (42, -1), (43, -1), (44, -1)] h h214 := my_fr.cp gh210 is_97 fh214 rfl
                        have Lst_h214 : Lst h214 := Lst_ag (my_ag.cp fh214 is_97 rfl) Lst_h210
                        have Ln_h214 : Ln h214 := Ln_ag (my_ag.cp fh214 is_97 rfl) Ln_h210
                        have Td_h214 : Td h214 x2 := Td_ag (my_ag.cp fh214 is_97 rfl) Ln_h210 Td_h210
                        have fc97 := fh214
                        refine w_vret gz_25_36 gm_25 ?_
                        show wp l rho (d + 4) 104 193 [(2, 94), (2, x1), (0, x2), (1, z36_l3), (9, 0), (0, p10_0), (0, p36_0), (0, p36_1), (0, 1)] [] h214 Q
                        refine w_iinc (ls' := [(2, 94), (2, x1), (0, x2), (1, z36_l3), (9, 0), (0, p10_0), (0, p36_0), (0, (p36_1 + 1)), (0, 1)]) gz_104_193 rfl gm_104 rfl rfl rfl ⟨by omega, by omega⟩ ?_
                        refine w_goto (t := 36) gz_104_196 rfl ?_
                        have ce215 : h214 111 4 = h36_0 111 4 := ((my_cp_role fh214 is_111 is_97 rfl).trans ((my_cp_role fh210 is_111 is_96 rfl).trans ((my_fr.at frh173 is_111 rfl).trans ((my_fr.at frh158 is_111 rfl).trans (rfl : h36_0 111 4 = h36_0 111 4)))))
                        have ce216 : h214 111 5 = h36_0 111 5 := ((my_cp_role fh214 is_111 is_97 rfl).trans ((my_cp_role fh210 is_111 is_96 rfl).trans ((my_fr.at frh173 is_111 rfl).trans ((my_fr.at frh158 is_111 rfl).trans (rfl : h36_0 111 5 = h36_0 111 5)))))
                        have ce217 : h214 94 11 = h36_0 94 11 := ((my_cp_role fh214 is_94 is_97 rfl).trans ((my_cp_role fh210 is_94 is_96 rfl).trans ((my_fr.at frh173 is_94 rfl).trans ((my_fr.at frh158 is_94 rfl).trans (rfl : h36_0 94 11 = h36_0 94 11)))))
                        have ce218 : h214 94 12 = h36_0 94 12 := ((my_cp_role fh214 is_94 is_97 rfl).trans ((my_cp_role fh210 is_94 is_96 rfl).trans ((my_fr.at frh173 is_94 rfl).trans ((my_fr.at frh158 is_94 rfl).trans (rfl : h36_0 94 12 = h36_0 94 12)))))
                        have ce219 : h214 94 13 = (h36_0 94 13) := ((my_cp_role fh214 is_94 is_97 rfl).trans ((my_cp_role fh210 is_94 is_96 rfl).trans ((my_fr.at frh173 is_94 rfl).trans ((my_fr.at frh158 is_94 rfl).trans (rfl : h36_0 94 13 = h36_0 94 13)))))
                        have ce220 : h214 94 14 = h36_0 94 14 := ((my_cp_role fh214 is_94 is_97 rfl).trans ((my_cp_role fh210 is_94 is_96 rfl).trans ((my_fr.at frh173 is_94 rfl).trans ((my_fr.at frh158 is_94 rfl).trans (rfl : h36_0 94 14 = h36_0 94 14)))))
                        have ce221 : h214 94 15 = h36_0 94 15 := ((my_cp_role fh214 is_94 is_97 rfl).trans ((my_cp_role fh210 is_94 is_96 rfl).trans ((my_fr.at frh173 is_94 rfl).trans ((my_fr.at frh158 is_94 rfl).trans (rfl : h36_0 94 15 = h36_0 94 15)))))
                        have ce222 : h214 94 16 = h36_0 94 16 := ((my_cp_role fh214 is_94 is_97 rfl).trans ((my_cp_role fh210 is_94 is_96 rfl).trans ((my_fr.at frh173 is_94 rfl).trans ((my_fr.at frh158 is_94 rfl).trans (rfl : h36_0 94 16 = h36_0 94 16)))))
                        have ce223 : h214 98 0 = h36_0 98 0 := ((my_cp_role fh214 is_98 is_97 rfl).trans ((my_cp_role fh210 is_98 is_96 rfl).trans ((my_fx.at fxh173 (by omega)).trans ((my_fr.at frh158 is_98 rfl).trans (rfl : h36_0 98 0 = h36_0 98 0)))))
                        have ce224 : h214 98 1 = h36_0 98 1 := ((my_cp_role fh214 is_98 is_97 rfl).trans ((my_cp_role fh210 is_98 is_96 rfl).trans ((my_fx.at fxh173 (by omega)).trans ((my_fr.at frh158 is_98 rfl).trans (rfl : h36_0 98 1 = h36_0 98 1)))))
                        have ce225 : h214 102 0 = h36_0 102 0 := ((my_cp_role fh214 is_102 is_97 rfl).trans ((my_cp_role fh210 is_102 is_96 rfl).trans ((my_fx.at fxh173 (by omega)).trans ((my_fr.at frh158 is_102 rfl).trans (rfl : h36_0 102 0 = h36_0 102 0)))))
                        have ce226 : h214 102 1 = h36_0 102 1 := ((my_cp_role fh214 is_102 is_97 rfl).trans ((my_cp_role fh210 is_102 is_96 rfl).trans ((my_fx.at fxh173 (by omega)).trans ((my_fr.at frh158 is_102 rfl).trans (rfl : h36_0 102 1 = h36_0 102 1)))))
                        have ce227 : h214 112 0 = h36_0 112 0 := ((my_cp_role fh214 is_112 is_97 rfl).trans ((my_cp_role fh210 is_112 is_96 rfl).trans ((my_fr.at frh173 is_112 rfl).trans ((my_fr.at frh158 is_112 rfl).trans (rfl : h36_0 112 0 = h36_0 112 0)))))
                        have ce228 : h214 112 1 = h36_0 112 1 := ((my_cp_role fh214 is_112 is_97 rfl).trans ((my_cp_role fh210 is_112 is_96 rfl).trans ((my_fr.at frh173 is_112 rfl).trans ((my_fr.at frh158 is_112 rfl).trans (rfl : h36_0 112 1 = h36_0 112 1)))))
                        have ce229 : h214 112 2 = h36_0 112 2 := ((my_cp_role fh214 is_112 is_97 rfl).trans ((my_cp_role fh210 is_112 is_96 rfl).trans ((my_fr.at frh173 is_112 rfl).trans ((my_fr.at frh158 is_112 rfl).trans (rfl : h36_0 112 2 = h36_0 112 2)))))
                        have ce230 : h214 112 3 = h36_0 112 3 := ((my_cp_role fh214 is_112 is_97 rfl).trans ((my_cp_role fh210 is_112 is_96 rfl).trans ((my_fr.at frh173 is_112 rfl).trans ((my_fr.at frh158 is_112 rfl).trans (rfl : h36_0 112 3 = h36_0 112 3)))))
                        have ce231 : h214 112 4 = h36_0 112 4 := ((my_cp_role fh214 is_112 is_97 rfl).trans ((my_cp_role fh210 is_112 is_96 rfl).trans ((my_fr.at frh173 is_112 rfl).trans ((my_fr.at frh158 is_112 rfl).trans (rfl : h36_0 112 4 = h36_0 112 4)))))
                        have ce232 : h214 112 5 = h36_0 112 5 := ((my_cp_role fh214 is_112 is_97 rfl).trans ((my_cp_role fh210 is_112 is_96 rfl).trans ((my_fr.at frh173 is_112 rfl).trans ((my_fr.at frh158 is_112 rfl).trans (rfl : h36_0 112 5 = h36_0 112 5)))))
                        have ce233 : h214 113 0 = h36_0 113 0 := ((my_cp_role fh214 is_113 is_97 rfl).trans ((my_cp_role fh210 is_113 is_96 rfl).trans ((my_fr.at frh173 is_113 rfl).trans ((my_fr.at frh158 is_113 rfl).trans (rfl : h36_0 113 0 = h36_0 113 0)))))
                        have ce234 : h214 113 1 = h36_0 113 1 := ((my_cp_role fh214 is_113 is_97 rfl).trans ((my_cp_role fh210 is_113 is_96 rfl).trans ((my_fr.at frh173 is_113 rfl).trans ((my_fr.at frh158 is_113 rfl).trans (rfl : h36_0 113 1 = h36_0 113 1)))))
                        have ce235 : h214 113 2 = h36_0 113 2 := ((my_cp_role fh214 is_113 is_97 rfl).trans ((my_cp_role fh210 is_113 is_96 rfl).trans ((my_fr.at frh173 is_113 rfl).trans ((my_fr.at frh158 is_113 rfl).trans (rfl : h36_0 113 2 = h36_0 113 2)))))
                        have ce236 : h214 113 3 = h36_0 113 3 := ((my_cp_role fh214 is_113 is_97 rfl).trans ((my_cp_role fh210 is_113 is_96 rfl).trans ((my_fr.at frh173 is_113 rfl).trans ((my_fr.at frh158 is_113 rfl).trans (rfl : h36_0 113 3 = h36_0 113 3)))))
                        have ce237 : h214 113 4 = h36_0 113 4 := ((my_cp_role fh214 is_113 is_97 rfl).trans ((my_cp_role fh210 is_113 is_96 rfl).trans ((my_fr.at frh173 is_113 rfl).trans ((my_fr.at frh158 is_113 rfl).trans (rfl : h36_0 113 4 = h36_0 113 4)))))
                        have ce238 : h214 113 5 = h36_0 113 5 := ((my_cp_role fh214 is_113 is_97 rfl).trans ((my_cp_role fh210 is_113 is_96 rfl).trans ((my_fr.at frh173 is_113 rfl).trans ((my_fr.at frh158 is_113 rfl).trans (rfl : h36_0 113 5 = h36_0 113 5)))))
                        have a99 : ∀ j : Int, h214 99 j = h36_0 99 j := fun j => ((my_cp_role fh214 is_99 is_97 rfl).trans ((my_cp_role fh210 is_99 is_96 rfl).trans ((my_fx.at fxh173 (by omega)).trans ((my_fr.at frh158 is_99 rfl).trans (rfl : h36_0 99 j = h36_0 99 j)))))
                        have a101 : ∀ j : Int, h214 101 j = h36_0 101 j := fun j => ((my_cp_role fh214 is_101 is_97 rfl).trans ((my_cp_role fh210 is_101 is_96 rfl).trans ((my_fx.at fxh173 (by omega)).trans ((my_fr.at frh158 is_101 rfl).trans (rfl : h36_0 101 j = h36_0 101 j)))))
                        have a103 : ∀ j : Int, h214 103 j = h36_0 103 j := fun j => ((my_cp_role fh214 is_103 is_97 rfl).trans ((my_cp_role fh210 is_103 is_96 rfl).trans ((my_fx.at fxh173 (by omega)).trans ((my_fr.at frh158 is_103 rfl).trans (rfl : h36_0 103 j = h36_0 103 j)))))
                        have bf9 : ∀ k j : Int, 0 ≤ k → (k < 94 ∨ 120 ≤ k ∧ k < 151) → h214 k j = h k j := fun k j k0 k1 => (((my_cp_ne fh214 (by omega)).trans ((my_cp_ne fh210 (by omega)).trans ((my_fx.at fxh173 (by omega)).trans (my_fx.at fxh158 (by omega))))).trans (bf_36_0 k j k0 k1))
                        have kp9 : KpS h36_0 h214 := ⟨⟨by omega, by omega, by omega, by omega, by omega, by omega, by omega, by omega, a99, a101, a103⟩, ⟨by omega, by omega⟩, ⟨by omega, by omega, by omega, by omega, by omega, by omega⟩, ⟨by omega, by omega, by omega, by omega, by omega, by omega⟩⟩
                        have e96f : ∀ j : Int, h214 96 j = h 96 j := fun j => (my_cp_ne fc97 (by omega)).trans (Cf_96 fc96 (fun j a b => (bfB (x1 + 1) j xb.z1 xb.f1).trans (hw j a b)) o96 j)
                        have e97f : ∀ j : Int, h214 97 j = h 97 j := Cf_97 fc97 (fun j a b => (my_cp_ne fc96 (fun z => xb.n2 z.1)).trans ((bfB (x1 + 2) j xb.z2 xb.f2).trans (hz j a b))) (fun j hj => (my_cp_ne fc96 (by omega)).trans (o97 j hj))
                        refine w_weak (ls' := [(2, 94), (2, x1), (0, x2), (1, z36_l3), (9, 0), (0, p10_0), (0, p36_0), (0, (p36_1 + 1)), (9, 0)]) (wk_e (wk_e (wk_e (wk_e (wk_9 (wk_e (wk_e (wk_e (wk_9 wk_n))))))))) ?_
                        exact ih_36_0 (z36_l3) (p36_0) ((p36_1 + 1)) h214 (gh214) (by omega) (by omega) (by omega) (by omega) (by omega) Lst_h214 Ln_h214 Td_h214 (by first | rfl | exact tl_10_0 | exact tl_36_0 | assumption | omega) (by omega) (by omega) (bf9) (by first | exact TgI_to (TgI_0 hd a96 a97 kp9) (by omega) | exact TgI_to tg_10_0 (by omega) | exact TgI_to (TgI_n (by omega) tg_36_0 tg_36_0.1 tg_36_0.2.1 KpS.rf (Q2_no (hsI.2 (by omega)))) (by omega) | exact TgI_to (TgI_n (by omega) tg_36_0 tg_36_0.1 tg_36_0.2.1 KpS.rf (Q2_nt hk htp (by omega) (by omega) (by rw [← tl_36_0]; exact hb2.1 (by assumption)) (by have z := tg_36_0.2.2.1.2.1; omega))) (by omega) | exact TgI_to (TgI_n (by omega) tg_36_0 e96f e97f kp9 (fun z => sa (qI.mpr z))) (by omega) | exact TgI_to (TgI_n (by omega) tg_36_0 e96f e97f kp9 (Q2_la (fun z => by obtain ⟨p, a, b, c, d, e⟩ := fb; exact d (laN z p a b)))) (by omega) | exact TgI_to (TgI_y (a := 0) (b := 0) (by omega) tg_36_0 e96f e97f kp7 no8 kpp sm9 (KpS_cp fc96 fc97) (by omega) (by omega) (by omega) (by omega) pr8 (by omega) q7) (by omega) | exact TgI_to (TgI_s (r2 := 20 * p10_0) (by omega) (by omega) tg_36_0 (fun p a b => Q2_un hk (by omega) (by omega) (un_36_0.2 (by omega)) p (by omega) (by omega))) (by omega) | exact TgI_to tg_36_0 (by omega) | exact TgI_e hk (by omega) (by omega) (by omega) tg_36_0 (by omega) (by omega) (by omega) | assumption | omega) (by first | exact un_36_0 | exact ⟨(fun _ => hb1.2 (by assumption)), (fun z => by exfalso; omega)⟩ | exact ⟨(fun z => by exfalso; omega), (fun _ => hb1.1 (by assumption))⟩ | assumption | omega) (by omega)
                      ·
                        show wp l rho (d + 4) 104 149 [(2, 94), (2, x1), (0, x2), (1, z36_l3), (9, 0), (0, p10_0), (0, p36_0), (0, p36_1), (0, 1)] [(0, 1)] h173 Q
                        have sa := xp204
                        rw [ys] at sa
                        have qI := Q2_sh hk n_Ln ag7 smh (by omega) (by omega) e8 vs os un8 hs8 la8
                        refine w_ifeq (t := 185) gz_104_149 rfl (fun u239 => by exfalso; omega) (fun u239 => ?_)
                        refine w_aload_n gz_104_152 rfl ?_
                        refine w_getX (v := 111) gz_104_153 is_94 rd_2 rfl (by decide) rfl ?_
                        refine w_iload gz_104_156 rfl ?_
                        refine v_putI (j := 2) gz_104_158 rfl is_111 rd_7 rfl (by omega) (by omega) rfl (fun h241 fh241 => ?_)
                        have gh241 : my_fr [(2, 11), (7, 0), (7, 1), (7, 2), (7, 3), (7, 4), (7, 5), (8, 0), (8, 1), (30, -1), (31, -1), (42, -1), (43, -1), (44, -1)] h h241 := my_fr.up gh173 is_111 fh241 rfl
                        have Lst_h241 : Lst h241 := Lst_ne fh241 (by decide) Lst_h173
                        have Ln_h241 : Ln h241 := Ln_ag (my_ag.up fh241 is_111 rfl) Ln_h173
                        have Td_h241 : Td h241 x2 := Td_ag (my_ag.up fh241 is_111 rfl) Ln_h173 Td_h173
                        refine w_aload_n gz_104_161 rfl ?_
                        refine w_getX (v := 111) gz_104_162 is_94 rd_2 rfl (by decide) rfl ?_
                        refine w_iload gz_104_165 rfl ?_
                        refine v_putI (j := 3) gz_104_167 rfl is_111 rd_7 rfl (by omega) (by omega) rfl (fun h243 fh243 => ?_)
                        have gh243 : my_fr [(2, 11), (7, 0), (7, 1), (7, 2), (7, 3), (7, 4), (7, 5), (8, 0), (8, 1), (30, -1), (31, -1), (42, -1), (43, -1), (44, -1)] h h243 := my_fr.up gh241 is_111 fh243 rfl
                        have Lst_h243 : Lst h243 := Lst_ne fh243 (by decide) Lst_h241
                        have Ln_h243 : Ln h243 := Ln_ag (my_ag.up fh243 is_111 rfl) Ln_h241
                        have Td_h243 : Td h243 x2 := Td_ag (my_ag.up fh243 is_111 rfl) Ln_h241 Td_h241
                        refine w_aload_n gz_104_170 rfl ?_
                        refine w_iconst gz_104_171 (by decide) ?_
                        refine w_aload_n gz_104_172 rfl ?_
                        refine w_getX (v := 1) gz_104_173 is_94 rd_2 rfl (by decide) rfl ?_
                        refine w_getX (v := 2) gz_104_176 is_1 rd_3 rfl (by decide) rfl ?_
                        refine w_iload gz_104_179 rfl ?_
                        refine w_iald gz_104_181 is_2 rd_25 (by omega) (by omega) (fun v246 ev246 pv246 qv246 => ?_)
                        have ce247 : h243 111 2 = p10_0 := ((my_up_fld fh243 (by decide)).trans (my_up_self fh241))
                        have ce248 : h243 111 3 = p36_1 := (my_up_self fh243)
                        have ce249 : h243 111 4 = h36_0 111 4 := ((my_up_fld fh243 (by decide)).trans ((my_up_fld fh241 (by decide)).trans ((my_fr.at frh173 is_111 rfl).trans ((my_fr.at frh158 is_111 rfl).trans (rfl : h36_0 111 4 = h36_0 111 4)))))
                        have ce250 : h243 111 5 = h36_0 111 5 := ((my_up_fld fh243 (by decide)).trans ((my_up_fld fh241 (by decide)).trans ((my_fr.at frh173 is_111 rfl).trans ((my_fr.at frh158 is_111 rfl).trans (rfl : h36_0 111 5 = h36_0 111 5)))))
                        have ce251 : h243 94 11 = h36_0 94 11 := ((my_up_role fh243 is_94 is_111 rfl).trans ((my_up_role fh241 is_94 is_111 rfl).trans ((my_fr.at frh173 is_94 rfl).trans ((my_fr.at frh158 is_94 rfl).trans (rfl : h36_0 94 11 = h36_0 94 11)))))
                        have ce252 : h243 94 12 = h36_0 94 12 := ((my_up_role fh243 is_94 is_111 rfl).trans ((my_up_role fh241 is_94 is_111 rfl).trans ((my_fr.at frh173 is_94 rfl).trans ((my_fr.at frh158 is_94 rfl).trans (rfl : h36_0 94 12 = h36_0 94 12)))))
                        have ce253 : h243 94 13 = (h36_0 94 13) := ((my_up_role fh243 is_94 is_111 rfl).trans ((my_up_role fh241 is_94 is_111 rfl).trans ((my_fr.at frh173 is_94 rfl).trans ((my_fr.at frh158 is_94 rfl).trans (rfl : h36_0 94 13 = h36_0 94 13)))))
                        have ce254 : h243 94 14 = h36_0 94 14 := ((my_up_role fh243 is_94 is_111 rfl).trans ((my_up_role fh241 is_94 is_111 rfl).trans ((my_fr.at frh173 is_94 rfl).trans ((my_fr.at frh158 is_94 rfl).trans (rfl : h36_0 94 14 = h36_0 94 14)))))
                        have ce255 : h243 94 15 = h36_0 94 15 := ((my_up_role fh243 is_94 is_111 rfl).trans ((my_up_role fh241 is_94 is_111 rfl).trans ((my_fr.at frh173 is_94 rfl).trans ((my_fr.at frh158 is_94 rfl).trans (rfl : h36_0 94 15 = h36_0 94 15)))))
                        have ce256 : h243 94 16 = h36_0 94 16 := ((my_up_role fh243 is_94 is_111 rfl).trans ((my_up_role fh241 is_94 is_111 rfl).trans ((my_fr.at frh173 is_94 rfl).trans ((my_fr.at frh158 is_94 rfl).trans (rfl : h36_0 94 16 = h36_0 94 16)))))
                        have ce257 : h243 98 0 = h36_0 98 0 := ((my_up_role fh243 is_98 is_111 rfl).trans ((my_up_role fh241 is_98 is_111 rfl).trans ((my_fx.at fxh173 (by omega)).trans ((my_fr.at frh158 is_98 rfl).trans (rfl : h36_0 98 0 = h36_0 98 0)))))
                        have ce258 : h243 98 1 = h36_0 98 1 := ((my_up_role fh243 is_98 is_111 rfl).trans ((my_up_role fh241 is_98 is_111 rfl).trans ((my_fx.at fxh173 (by omega)).trans ((my_fr.at frh158 is_98 rfl).trans (rfl : h36_0 98 1 = h36_0 98 1)))))
                        have ce259 : h243 102 0 = h36_0 102 0 := ((my_up_role fh243 is_102 is_111 rfl).trans ((my_up_role fh241 is_102 is_111 rfl).trans ((my_fx.at fxh173 (by omega)).trans ((my_fr.at frh158 is_102 rfl).trans (rfl : h36_0 102 0 = h36_0 102 0)))))
                        have ce260 : h243 102 1 = h36_0 102 1 := ((my_up_role fh243 is_102 is_111 rfl).trans ((my_up_role fh241 is_102 is_111 rfl).trans ((my_fx.at fxh173 (by omega)).trans ((my_fr.at frh158 is_102 rfl).trans (rfl : h36_0 102 1 = h36_0 102 1)))))
                        have ce261 : h243 112 0 = h36_0 112 0 := ((my_up_fld fh243 (by decide)).trans ((my_up_fld fh241 (by decide)).trans ((my_fr.at frh173 is_112 rfl).trans ((my_fr.at frh158 is_112 rfl).trans (rfl : h36_0 112 0 = h36_0 112 0)))))
                        have ce262 : h243 112 1 = h36_0 112 1 := ((my_up_fld fh243 (by decide)).trans ((my_up_fld fh241 (by decide)).trans ((my_fr.at frh173 is_112 rfl).trans ((my_fr.at frh158 is_112 rfl).trans (rfl : h36_0 112 1 = h36_0 112 1)))))
                        have ce263 : h243 112 2 = h36_0 112 2 := ((my_up_fld fh243 (by decide)).trans ((my_up_ne fh241 (by omega)).trans ((my_fr.at frh173 is_112 rfl).trans ((my_fr.at frh158 is_112 rfl).trans (rfl : h36_0 112 2 = h36_0 112 2)))))
                        have ce264 : h243 112 3 = h36_0 112 3 := ((my_up_ne fh243 (by omega)).trans ((my_up_fld fh241 (by decide)).trans ((my_fr.at frh173 is_112 rfl).trans ((my_fr.at frh158 is_112 rfl).trans (rfl : h36_0 112 3 = h36_0 112 3)))))
                        have ce265 : h243 112 4 = h36_0 112 4 := ((my_up_fld fh243 (by decide)).trans ((my_up_fld fh241 (by decide)).trans ((my_fr.at frh173 is_112 rfl).trans ((my_fr.at frh158 is_112 rfl).trans (rfl : h36_0 112 4 = h36_0 112 4)))))
                        have ce266 : h243 112 5 = h36_0 112 5 := ((my_up_fld fh243 (by decide)).trans ((my_up_fld fh241 (by decide)).trans ((my_fr.at frh173 is_112 rfl).trans ((my_fr.at frh158 is_112 rfl).trans (rfl : h36_0 112 5 = h36_0 112 5)))))
                        have ce267 : h243 113 0 = h36_0 113 0 := ((my_up_fld fh243 (by decide)).trans ((my_up_fld fh241 (by decide)).trans ((my_fr.at frh173 is_113 rfl).trans ((my_fr.at frh158 is_113 rfl).trans (rfl : h36_0 113 0 = h36_0 113 0)))))
                        have ce268 : h243 113 1 = h36_0 113 1 := ((my_up_fld fh243 (by decide)).trans ((my_up_fld fh241 (by decide)).trans ((my_fr.at frh173 is_113 rfl).trans ((my_fr.at frh158 is_113 rfl).trans (rfl : h36_0 113 1 = h36_0 113 1)))))
                        have ce269 : h243 113 2 = h36_0 113 2 := ((my_up_fld fh243 (by decide)).trans ((my_up_ne fh241 (by omega)).trans ((my_fr.at frh173 is_113 rfl).trans ((my_fr.at frh158 is_113 rfl).trans (rfl : h36_0 113 2 = h36_0 113 2)))))
                        have ce270 : h243 113 3 = h36_0 113 3 := ((my_up_ne fh243 (by omega)).trans ((my_up_fld fh241 (by decide)).trans ((my_fr.at frh173 is_113 rfl).trans ((my_fr.at frh158 is_113 rfl).trans (rfl : h36_0 113 3 = h36_0 113 3)))))
                        have ce271 : h243 113 4 = h36_0 113 4 := ((my_up_fld fh243 (by decide)).trans ((my_up_fld fh241 (by decide)).trans ((my_fr.at frh173 is_113 rfl).trans ((my_fr.at frh158 is_113 rfl).trans (rfl : h36_0 113 4 = h36_0 113 4)))))
                        have ce272 : h243 113 5 = h36_0 113 5 := ((my_up_fld fh243 (by decide)).trans ((my_up_fld fh241 (by decide)).trans ((my_fr.at frh173 is_113 rfl).trans ((my_fr.at frh158 is_113 rfl).trans (rfl : h36_0 113 5 = h36_0 113 5)))))
                        have a99 : ∀ j : Int, h243 99 j = h36_0 99 j := fun j => ((my_up_role fh243 is_99 is_111 rfl).trans ((my_up_role fh241 is_99 is_111 rfl).trans ((my_fx.at fxh173 (by omega)).trans ((my_fr.at frh158 is_99 rfl).trans (rfl : h36_0 99 j = h36_0 99 j)))))
                        have a101 : ∀ j : Int, h243 101 j = h36_0 101 j := fun j => ((my_up_role fh243 is_101 is_111 rfl).trans ((my_up_role fh241 is_101 is_111 rfl).trans ((my_fx.at fxh173 (by omega)).trans ((my_fr.at frh158 is_101 rfl).trans (rfl : h36_0 101 j = h36_0 101 j)))))
                        have a103 : ∀ j : Int, h243 103 j = h36_0 103 j := fun j => ((my_up_role fh243 is_103 is_111 rfl).trans ((my_up_role fh241 is_103 is_111 rfl).trans ((my_fx.at fxh173 (by omega)).trans ((my_fr.at frh158 is_103 rfl).trans (rfl : h36_0 103 j = h36_0 103 j)))))
                        have kp7 : KpS h36_0 h243 := ⟨⟨by omega, by omega, by omega, by omega, by omega, by omega, by omega, by omega, a99, a101, a103⟩, ⟨by omega, by omega⟩, ⟨by omega, by omega, by omega, by omega, by omega, by omega⟩, ⟨by omega, by omega, by omega, by omega, by omega, by omega⟩⟩
                        have hf7 : 0 ≤ h243 94 11 ∧ h243 94 11 ≤ 100000 := by
                          have q := TgI_f (by omega) tg_36_0 no8
                          have e := kp7.2.1.1
                          omega
                        have pr8 : v246 = h 2 ((20 * p10_0 + p36_1) / 20) := by
                          have q : h243 2 p10_0 = h 2 p10_0 := my_fr.at gh243 pis_2 rfl
                          rw [show (20 * p10_0 + p36_1) / 20 = p10_0 by omega]
                          omega
                        have q7 : Q2h h x2 (20 * p10_0 + p36_1) := by first | exact qI.mp sa | exact Q2_ta hk htp (by omega) (by omega) (by rw [← tl_36_0]; exact hb2.1 (by assumption)) (by omega) un8 hs8 la8
                        refine w_inv (k := 0) (as := [(0, v246), (0, 2)]) (r := []) (x := 94) (ls0 := [(2, 94), (0, 2), (0, v246)]) gz_104_182 gm_94 rfl is_94 rd_2 rfl rfl rfl rfl rfl (c_Desk_keep5 (d := (d + 2)) (x1 := 2) (x2 := v246) (by omega) (by omega) (by omega) (by omega) Lst_h243 (by first | assumption | exact no_such_saying | exact Fp_told (by omega) (by omega) | omega | (subst_vars; omega) | omega) (by first | assumption | exact no_such_saying | exact Fp_told (by omega) (by omega) | omega | (subst_vars; omega) | omega) (by first | assumption | exact no_such_saying | exact Fp_told (by omega) (by omega) | omega | (subst_vars; omega) | omega) (hf7) (fun h273 frh273 w274 w275 xp276 xp277 xp278 xp279 xp280 Lst_h273t281 => ?_))
                        have gh273 : my_fr [(2, 11), (7, 0), (7, 1), (7, 2), (7, 3), (7, 4), (7, 5), (8, 0), (8, 1), (30, -1), (31, -1), (42, -1), (43, -1), (44, -1)] h h273 := my_fr.tr gh243 (frh273.mo rfl)
                        have Ln_h273 : Ln h273 := Ln_ag (my_ag.fr frh273 rfl) Ln_h243
                        have Td_h273 : Td h273 x2 := Td_ag (my_ag.fr frh273 rfl) Ln_h243 Td_h243
                        show wp l rho (d + 4) 104 185 [(2, 94), (2, x1), (0, x2), (1, z36_l3), (9, 0), (0, p10_0), (0, p36_0), (0, p36_1), (0, 1)] [] h273 Q
                        have kpp := xp280
                        have sm9 := SmV_keep frh273
                        have bfB : ∀ k j : Int, 0 ≤ k → (k < 94 ∨ 120 ≤ k ∧ k < 151) → h273 k j = h k j := fun k j k0 k1 => (((bg_fr frh273 (by decide +kernel) k j k0 k1).trans ((my_up_ne fh243 (by omega)).trans ((my_up_ne fh241 (by omega)).trans ((my_fx.at fxh173 (by omega)).trans (my_fx.at fxh158 (by omega)))))).trans (bf_36_0 k j k0 k1))
                        have o96 : ∀ j : Int, (j < 0 ∨ 240 ≤ j) → h273 96 j = h 96 j := fun j hj => (((my_fr.at frh273 is_96 rfl).trans ((my_up_ne fh243 (by omega)).trans ((my_up_ne fh241 (by omega)).trans (my_fr.at frh173 is_96 rfl)))).trans ((congrFun e8 j).trans (zqDrop_off j (by omega))))
                        have o97 : ∀ j : Int, (j < 0 ∨ 3 ≤ j) → h273 97 j = h 97 j := fun j hj => (((my_fr.at frh273 is_97 rfl).trans ((my_up_ne fh243 (by omega)).trans ((my_up_ne fh241 (by omega)).trans (my_fr.at frh173 is_97 rfl)))).trans ((e7d j).trans (by rw [if_neg (by omega)]; exact tg_36_0.2.1 j)))
                        refine w_aload_n gz_104_185 rfl ?_
                        refine w_getX (v := 95) gz_104_186 is_94 rd_2 rfl (by decide) rfl ?_
                        refine w_aload_n gz_104_189 rfl ?_
                        refine w_inv (k := 0) (as := [(2, x1)]) (r := []) (x := 95) (ls0 := [(2, 95), (2, x1)]) gz_104_190 gm_25 rfl is_95 rd_6 rfl rfl rfl rfl rfl ?_
                        refine w_aload_n gz_25_0 rfl ?_
                        refine w_getX (v := (x1 + 1)) gz_25_1 t1 rd_6 rfl (by decide) rfl ?_
                        refine w_iconst gz_25_4 (by decide) ?_
                        refine w_aload_n gz_25_5 rfl ?_
                        refine w_getX (v := 96) gz_25_6 is_95 rd_6 rfl (by decide) rfl ?_
                        refine w_iconst gz_25_9 (by decide) ?_
                        refine w_aload_n gz_25_10 rfl ?_
                        refine w_getX (v := 96) gz_25_11 is_95 rd_6 rfl (by decide) rfl ?_
                        refine v_alen (j := 240) gz_25_14 rfl is_96 rd_30 (by decide) ?_
                        refine w_cpU gz_25_15 (ix_6_1 t1) rd_30 is_96 rd_30 (by omega) (by omega) (by omega) (by omega) (by omega) rfl (by decide) (by decide) (fun h286 fh286 => ?_)
                        have gh286 : my_fr [(2, 11), (7, 0), (7, 1), (7, 2), (7, 3), (7, 4), (7, 5), (8, 0), (8, 1), (30, -1), (31, -1), (42, -1), (43, -1), (44, -1)] h h286 := my_fr.cp gh273 is_96 fh286 rfl
                        have Ln_h286 : Ln h286 := Ln_ag (my_ag.cp fh286 is_96 rfl) Ln_h273
                        have Td_h286 : Td h286 x2 := Td_ag (my_ag.cp fh286 is_96 rfl) Ln_h273 Td_h273
                        have Lst_h286 : Lst h286 := Lst_ag (my_ag.cp fh286 is_96 rfl) Lst_h273t281
                        have fc96 := fh286
                        refine w_aload_n gz_25_18 rfl ?_
                        refine w_getX (v := (x1 + 2)) gz_25_19 t1 rd_6 rfl (by decide) rfl ?_
                        refine w_iconst gz_25_22 (by decide) ?_
                        refine w_aload_n gz_25_23 rfl ?_
                        refine w_getX (v := 97) gz_25_24 is_95 rd_6 rfl (by decide) rfl ?_
                        refine w_iconst gz_25_27 (by decide) ?_
                        refine w_aload_n gz_25_28 rfl ?_
                        refine w_getX (v := 97) gz_25_29 is_95 rd_6 rfl (by decide) rfl ?_
                        refine v_alen (j := 3) gz_25_32 rfl is_97 rd_31 (by decide) ?_
                        refine w_cpU gz_25_33 (ix_6_2 t1) rd_31 is_97 rd_31 (by omega) (by omega) (by omega) (by omega) (by omega) rfl (by decide) (by decide) (fun h290 fh290 => ?_)
                        have gh290 : my_fr [(2, 11), (7, 0), (7, 1), (7, 2), (7, 3), (7, 4), (7, 5), (8, 0), (8, 1), (30, -1), (31, -1), (42, -1), (43, -1), (44, -1)] h h290 := my_fr.cp gh286 is_97 fh290 rfl
                        have Ln_h290 : Ln h290 := Ln_ag (my_ag.cp fh290 is_97 rfl) Ln_h286
                        have Td_h290 : Td h290 x2 := Td_ag (my_ag.cp fh290 is_97 rfl) Ln_h286 Td_h286
                        have Lst_h290 : Lst h290 := Lst_ag (my_ag.cp fh290 is_97 rfl) Lst_h286
                        have fc97 := fh290
                        refine w_vret gz_25_36 gm_25 ?_
                        show wp l rho (d + 4) 104 193 [(2, 94), (2, x1), (0, x2), (1, z36_l3), (9, 0), (0, p10_0), (0, p36_0), (0, p36_1), (0, 1)] [] h290 Q
                        refine w_iinc (ls' := [(2, 94), (2, x1), (0, x2), (1, z36_l3), (9, 0), (0, p10_0), (0, p36_0), (0, (p36_1 + 1)), (0, 1)]) gz_104_193 rfl gm_104 rfl rfl rfl ⟨by omega, by omega⟩ ?_
                        refine w_goto (t := 36) gz_104_196 rfl ?_
                        have ce291 : h290 111 4 = h273 111 4 := ((my_cp_role fh290 is_111 is_97 rfl).trans ((my_cp_role fh286 is_111 is_96 rfl).trans (rfl : h273 111 4 = h273 111 4)))
                        have ce292 : h290 111 5 = h273 111 5 := ((my_cp_role fh290 is_111 is_97 rfl).trans ((my_cp_role fh286 is_111 is_96 rfl).trans (rfl : h273 111 5 = h273 111 5)))
                        have ce293 : h290 94 11 = (h273 94 11) := ((my_cp_role fh290 is_94 is_97 rfl).trans ((my_cp_role fh286 is_94 is_96 rfl).trans (rfl : h273 94 11 = h273 94 11)))
                        have ce294 : h290 94 12 = h36_0 94 12 := ((my_cp_role fh290 is_94 is_97 rfl).trans ((my_cp_role fh286 is_94 is_96 rfl).trans ((my_fr.at frh273 is_94 rfl).trans ((my_up_role fh243 is_94 is_111 rfl).trans ((my_up_role fh241 is_94 is_111 rfl).trans ((my_fr.at frh173 is_94 rfl).trans ((my_fr.at frh158 is_94 rfl).trans (rfl : h36_0 94 12 = h36_0 94 12))))))))
                        have ce295 : h290 94 13 = (h36_0 94 13) := ((my_cp_role fh290 is_94 is_97 rfl).trans ((my_cp_role fh286 is_94 is_96 rfl).trans ((my_fr.at frh273 is_94 rfl).trans ((my_up_role fh243 is_94 is_111 rfl).trans ((my_up_role fh241 is_94 is_111 rfl).trans ((my_fr.at frh173 is_94 rfl).trans ((my_fr.at frh158 is_94 rfl).trans (rfl : h36_0 94 13 = h36_0 94 13))))))))
                        have ce296 : h290 94 14 = h36_0 94 14 := ((my_cp_role fh290 is_94 is_97 rfl).trans ((my_cp_role fh286 is_94 is_96 rfl).trans ((my_fr.at frh273 is_94 rfl).trans ((my_up_role fh243 is_94 is_111 rfl).trans ((my_up_role fh241 is_94 is_111 rfl).trans ((my_fr.at frh173 is_94 rfl).trans ((my_fr.at frh158 is_94 rfl).trans (rfl : h36_0 94 14 = h36_0 94 14))))))))
                        have ce297 : h290 94 15 = h36_0 94 15 := ((my_cp_role fh290 is_94 is_97 rfl).trans ((my_cp_role fh286 is_94 is_96 rfl).trans ((my_fr.at frh273 is_94 rfl).trans ((my_up_role fh243 is_94 is_111 rfl).trans ((my_up_role fh241 is_94 is_111 rfl).trans ((my_fr.at frh173 is_94 rfl).trans ((my_fr.at frh158 is_94 rfl).trans (rfl : h36_0 94 15 = h36_0 94 15))))))))
                        have ce298 : h290 94 16 = h36_0 94 16 := ((my_cp_role fh290 is_94 is_97 rfl).trans ((my_cp_role fh286 is_94 is_96 rfl).trans ((my_fr.at frh273 is_94 rfl).trans ((my_up_role fh243 is_94 is_111 rfl).trans ((my_up_role fh241 is_94 is_111 rfl).trans ((my_fr.at frh173 is_94 rfl).trans ((my_fr.at frh158 is_94 rfl).trans (rfl : h36_0 94 16 = h36_0 94 16))))))))
                        have ce299 : h290 98 0 = h36_0 98 0 := ((my_cp_role fh290 is_98 is_97 rfl).trans ((my_cp_role fh286 is_98 is_96 rfl).trans ((my_fr.at frh273 is_98 rfl).trans ((my_up_role fh243 is_98 is_111 rfl).trans ((my_up_role fh241 is_98 is_111 rfl).trans ((my_fx.at fxh173 (by omega)).trans ((my_fr.at frh158 is_98 rfl).trans (rfl : h36_0 98 0 = h36_0 98 0))))))))
                        have ce300 : h290 98 1 = h36_0 98 1 := ((my_cp_role fh290 is_98 is_97 rfl).trans ((my_cp_role fh286 is_98 is_96 rfl).trans ((my_fr.at frh273 is_98 rfl).trans ((my_up_role fh243 is_98 is_111 rfl).trans ((my_up_role fh241 is_98 is_111 rfl).trans ((my_fx.at fxh173 (by omega)).trans ((my_fr.at frh158 is_98 rfl).trans (rfl : h36_0 98 1 = h36_0 98 1))))))))
                        have ce301 : h290 102 0 = h36_0 102 0 := ((my_cp_role fh290 is_102 is_97 rfl).trans ((my_cp_role fh286 is_102 is_96 rfl).trans ((my_fr.at frh273 is_102 rfl).trans ((my_up_role fh243 is_102 is_111 rfl).trans ((my_up_role fh241 is_102 is_111 rfl).trans ((my_fx.at fxh173 (by omega)).trans ((my_fr.at frh158 is_102 rfl).trans (rfl : h36_0 102 0 = h36_0 102 0))))))))
                        have ce302 : h290 102 1 = h36_0 102 1 := ((my_cp_role fh290 is_102 is_97 rfl).trans ((my_cp_role fh286 is_102 is_96 rfl).trans ((my_fr.at frh273 is_102 rfl).trans ((my_up_role fh243 is_102 is_111 rfl).trans ((my_up_role fh241 is_102 is_111 rfl).trans ((my_fx.at fxh173 (by omega)).trans ((my_fr.at frh158 is_102 rfl).trans (rfl : h36_0 102 1 = h36_0 102 1))))))))
                        have ce303 : h290 112 0 = h273 112 0 := ((my_cp_role fh290 is_112 is_97 rfl).trans ((my_cp_role fh286 is_112 is_96 rfl).trans (rfl : h273 112 0 = h273 112 0)))
                        have ce304 : h290 112 1 = h273 112 1 := ((my_cp_role fh290 is_112 is_97 rfl).trans ((my_cp_role fh286 is_112 is_96 rfl).trans (rfl : h273 112 1 = h273 112 1)))
                        have ce305 : h290 112 2 = h273 112 2 := ((my_cp_role fh290 is_112 is_97 rfl).trans ((my_cp_role fh286 is_112 is_96 rfl).trans (rfl : h273 112 2 = h273 112 2)))
                        have ce306 : h290 112 3 = h273 112 3 := ((my_cp_role fh290 is_112 is_97 rfl).trans ((my_cp_role fh286 is_112 is_96 rfl).trans (rfl : h273 112 3 = h273 112 3)))
                        have ce307 : h290 112 4 = h273 112 4 := ((my_cp_role fh290 is_112 is_97 rfl).trans ((my_cp_role fh286 is_112 is_96 rfl).trans (rfl : h273 112 4 = h273 112 4)))
                        have ce308 : h290 112 5 = h273 112 5 := ((my_cp_role fh290 is_112 is_97 rfl).trans ((my_cp_role fh286 is_112 is_96 rfl).trans (rfl : h273 112 5 = h273 112 5)))
                        have ce309 : h290 113 0 = h273 113 0 := ((my_cp_role fh290 is_113 is_97 rfl).trans ((my_cp_role fh286 is_113 is_96 rfl).trans (rfl : h273 113 0 = h273 113 0)))
                        have ce310 : h290 113 1 = h273 113 1 := ((my_cp_role fh290 is_113 is_97 rfl).trans ((my_cp_role fh286 is_113 is_96 rfl).trans (rfl : h273 113 1 = h273 113 1)))
                        have ce311 : h290 113 2 = h273 113 2 := ((my_cp_role fh290 is_113 is_97 rfl).trans ((my_cp_role fh286 is_113 is_96 rfl).trans (rfl : h273 113 2 = h273 113 2)))
                        have ce312 : h290 113 3 = h273 113 3 := ((my_cp_role fh290 is_113 is_97 rfl).trans ((my_cp_role fh286 is_113 is_96 rfl).trans (rfl : h273 113 3 = h273 113 3)))
                        have ce313 : h290 113 4 = h273 113 4 := ((my_cp_role fh290 is_113 is_97 rfl).trans ((my_cp_role fh286 is_113 is_96 rfl).trans (rfl : h273 113 4 = h273 113 4)))
                        have ce314 : h290 113 5 = h273 113 5 := ((my_cp_role fh290 is_113 is_97 rfl).trans ((my_cp_role fh286 is_113 is_96 rfl).trans (rfl : h273 113 5 = h273 113 5)))
                        have a99 : ∀ j : Int, h290 99 j = h36_0 99 j := fun j => ((my_cp_role fh290 is_99 is_97 rfl).trans ((my_cp_role fh286 is_99 is_96 rfl).trans ((my_fr.at frh273 is_99 rfl).trans ((my_up_role fh243 is_99 is_111 rfl).trans ((my_up_role fh241 is_99 is_111 rfl).trans ((my_fx.at fxh173 (by omega)).trans ((my_fr.at frh158 is_99 rfl).trans (rfl : h36_0 99 j = h36_0 99 j))))))))
                        have a101 : ∀ j : Int, h290 101 j = h36_0 101 j := fun j => ((my_cp_role fh290 is_101 is_97 rfl).trans ((my_cp_role fh286 is_101 is_96 rfl).trans ((my_fr.at frh273 is_101 rfl).trans ((my_up_role fh243 is_101 is_111 rfl).trans ((my_up_role fh241 is_101 is_111 rfl).trans ((my_fx.at fxh173 (by omega)).trans ((my_fr.at frh158 is_101 rfl).trans (rfl : h36_0 101 j = h36_0 101 j))))))))
                        have a103 : ∀ j : Int, h290 103 j = h36_0 103 j := fun j => ((my_cp_role fh290 is_103 is_97 rfl).trans ((my_cp_role fh286 is_103 is_96 rfl).trans ((my_fr.at frh273 is_103 rfl).trans ((my_up_role fh243 is_103 is_111 rfl).trans ((my_up_role fh241 is_103 is_111 rfl).trans ((my_fx.at fxh173 (by omega)).trans ((my_fr.at frh158 is_103 rfl).trans (rfl : h36_0 103 j = h36_0 103 j))))))))
                        have bf9 : ∀ k j : Int, 0 ≤ k → (k < 94 ∨ 120 ≤ k ∧ k < 151) → h290 k j = h k j := fun k j k0 k1 => (((my_cp_ne fh290 (by omega)).trans ((my_cp_ne fh286 (by omega)).trans ((bg_fr frh273 (by decide +kernel) k j k0 k1).trans ((my_up_ne fh243 (by omega)).trans ((my_up_ne fh241 (by omega)).trans ((my_fx.at fxh173 (by omega)).trans (my_fx.at fxh158 (by omega)))))))).trans (bf_36_0 k j k0 k1))
                        have e96f : ∀ j : Int, h290 96 j = h 96 j := fun j => (my_cp_ne fc97 (by omega)).trans (Cf_96 fc96 (fun j a b => (bfB (x1 + 1) j xb.z1 xb.f1).trans (hw j a b)) o96 j)
                        have e97f : ∀ j : Int, h290 97 j = h 97 j := Cf_97 fc97 (fun j a b => (my_cp_ne fc96 (fun z => xb.n2 z.1)).trans ((bfB (x1 + 2) j xb.z2 xb.f2).trans (hz j a b))) (fun j hj => (my_cp_ne fc96 (by omega)).trans (o97 j hj))
                        refine w_weak (ls' := [(2, 94), (2, x1), (0, x2), (1, z36_l3), (9, 0), (0, p10_0), (0, p36_0), (0, (p36_1 + 1)), (9, 0)]) (wk_e (wk_e (wk_e (wk_e (wk_9 (wk_e (wk_e (wk_e (wk_9 wk_n))))))))) ?_
                        exact ih_36_0 (z36_l3) (p36_0) ((p36_1 + 1)) h290 (gh290) (by omega) (by omega) (by omega) (by omega) (by omega) Lst_h290 Ln_h290 Td_h290 (by first | rfl | exact tl_10_0 | exact tl_36_0 | assumption | omega) (by omega) (by omega) (bf9) (by first | exact TgI_to (TgI_0 hd a96 a97 kp9) (by omega) | exact TgI_to tg_10_0 (by omega) | exact TgI_to (TgI_n (by omega) tg_36_0 tg_36_0.1 tg_36_0.2.1 KpS.rf (Q2_no (hsI.2 (by omega)))) (by omega) | exact TgI_to (TgI_n (by omega) tg_36_0 tg_36_0.1 tg_36_0.2.1 KpS.rf (Q2_nt hk htp (by omega) (by omega) (by rw [← tl_36_0]; exact hb2.1 (by assumption)) (by have z := tg_36_0.2.2.1.2.1; omega))) (by omega) | exact TgI_to (TgI_n (by omega) tg_36_0 e96f e97f kp9 (fun z => sa (qI.mpr z))) (by omega) | exact TgI_to (TgI_n (by omega) tg_36_0 e96f e97f kp9 (Q2_la (fun z => by obtain ⟨p, a, b, c, d, e⟩ := fb; exact d (laN z p a b)))) (by omega) | exact TgI_to (TgI_y (a := 0) (b := 0) (by omega) tg_36_0 e96f e97f kp7 no8 kpp sm9 (KpS_cp fc96 fc97) (by omega) (by omega) (by omega) (by omega) pr8 (by omega) q7) (by omega) | exact TgI_to (TgI_s (r2 := 20 * p10_0) (by omega) (by omega) tg_36_0 (fun p a b => Q2_un hk (by omega) (by omega) (un_36_0.2 (by omega)) p (by omega) (by omega))) (by omega) | exact TgI_to tg_36_0 (by omega) | exact TgI_e hk (by omega) (by omega) (by omega) tg_36_0 (by omega) (by omega) (by omega) | assumption | omega) (by first | exact un_36_0 | exact ⟨(fun _ => hb1.2 (by assumption)), (fun z => by exfalso; omega)⟩ | exact ⟨(fun z => by exfalso; omega), (fun _ => hb1.1 (by assumption))⟩ | assumption | omega) (by omega)
                    ·
                      show wp l rho (d + 4) 104 117 [(2, 94), (2, x1), (0, x2), (1, z36_l3), (9, 0), (0, p10_0), (0, p36_0), (0, p36_1), (0, 1)] [(0, v164)] h158 Q
                      have fb := xp167
                      have laI := Lw_drop hk (r := (20 * p10_0 + p36_1)) (g := h158) (by omega) (by omega) e8 (zqCA_e (fun j => my_fr.at gh158 pis_2 rfl) (fun j => my_fr.at gh158 pis_3 rfl) (fun j => my_fr.at gh158 pis_4 rfl) (fun j => my_fr.at gh158 pis_5 rfl) (fun j => my_fr.at gh158 pis_6 rfl))
                      have laN := fun (z : zqLf (zqCA h) (zqDrop (h 96) ((20 * p10_0 + p36_1) / 20) ((20 * p10_0 + p36_1) % 20))) => laI.mpr z
                      refine w_iconst gz_104_117 (by decide) ?_
                      refine w_icne (t := 185) gz_104_118 rfl (fun u315 => ?_) (fun u315 => by exfalso; omega)
                      have bfB : ∀ k j : Int, 0 ≤ k → (k < 94 ∨ 120 ≤ k ∧ k < 151) → h158 k j = h k j := fun k j k0 k1 => ((my_fx.at fxh158 (by omega)).trans (bf_36_0 k j k0 k1))
                      have o96 : ∀ j : Int, (j < 0 ∨ 240 ≤ j) → h158 96 j = h 96 j := fun j hj => ((congrFun e8 j).trans (zqDrop_off j (by omega)))
                      have o97 : ∀ j : Int, (j < 0 ∨ 3 ≤ j) → h158 97 j = h 97 j := fun j hj => ((e7d j).trans (by rw [if_neg (by omega)]; exact tg_36_0.2.1 j))
                      refine w_aload_n gz_104_185 rfl ?_
                      refine w_getX (v := 95) gz_104_186 is_94 rd_2 rfl (by decide) rfl ?_
                      refine w_aload_n gz_104_189 rfl ?_
                      refine w_inv (k := 0) (as := [(2, x1)]) (r := []) (x := 95) (ls0 := [(2, 95), (2, x1)]) gz_104_190 gm_25 rfl is_95 rd_6 rfl rfl rfl rfl rfl ?_
                      refine w_aload_n gz_25_0 rfl ?_
                      refine w_getX (v := (x1 + 1)) gz_25_1 t1 rd_6 rfl (by decide) rfl ?_
                      refine w_iconst gz_25_4 (by decide) ?_
                      refine w_aload_n gz_25_5 rfl ?_
                      refine w_getX (v := 96) gz_25_6 is_95 rd_6 rfl (by decide) rfl ?_
                      refine w_iconst gz_25_9 (by decide) ?_
                      refine w_aload_n gz_25_10 rfl ?_
                      refine w_getX (v := 96) gz_25_11 is_95 rd_6 rfl (by decide) rfl ?_
                      refine v_alen (j := 240) gz_25_14 rfl is_96 rd_30 (by decide) ?_
                      refine w_cpU gz_25_15 (ix_6_1 t1) rd_30 is_96 rd_30 (by omega) (by omega) (by omega) (by omega) (by omega) rfl (by decide) (by decide) (fun h320 fh320 => ?_)
                      have gh320 : my_fr [(2, 11), (7, 0), (7, 1), (7, 2), (7, 3), (7, 4), (7, 5), (8, 0), (8, 1), (30, -1), (31, -1), (42, -1), (43, -1), (44, -1)] h h320 := my_fr.cp gh158 is_96 fh320 rfl
                      have Lst_h320 : Lst h320 := Lst_ag (my_ag.cp fh320 is_96 rfl) Lst_h158
                      have Ln_h320 : Ln h320 := Ln_ag (my_ag.cp fh320 is_96 rfl) Ln_h158
                      have Td_h320 : Td h320 x2 := Td_ag (my_ag.cp fh320 is_96 rfl) Ln_h158 Td_h158
                      have fc96 := fh320
                      refine w_aload_n gz_25_18 rfl ?_
                      refine w_getX (v := (x1 + 2)) gz_25_19 t1 rd_6 rfl (by decide) rfl ?_
                      refine w_iconst gz_25_22 (by decide) ?_
                      refine w_aload_n gz_25_23 rfl ?_
                      refine w_getX (v := 97) gz_25_24 is_95 rd_6 rfl (by decide) rfl ?_
                      refine w_iconst gz_25_27 (by decide) ?_
                      refine w_aload_n gz_25_28 rfl ?_
                      refine w_getX (v := 97) gz_25_29 is_95 rd_6 rfl (by decide) rfl ?_
                      refine v_alen (j := 3) gz_25_32 rfl is_97 rd_31 (by decide) ?_
                      refine w_cpU gz_25_33 (ix_6_2 t1) rd_31 is_97 rd_31 (by omega) (by omega) (by omega) (by omega) (by omega) rfl (by decide) (by decide) (fun h324 fh324 => ?_)
                      have gh324 : my_fr [(2, 11), (7, 0), (7, 1), (7, 2), (7, 3), (7, 4), (7, 5), (8, 0), (8, 1), (30, -1), (31, -1), (42, -1), (43, -1), (44, -1)] h h324 := my_fr.cp gh320 is_97 fh324 rfl
                      have Lst_h324 : Lst h324 := Lst_ag (my_ag.cp fh324 is_97 rfl) Lst_h320
                      have Ln_h324 : Ln h324 := Ln_ag (my_ag.cp fh324 is_97 rfl) Ln_h320
                      have Td_h324 : Td h324 x2 := Td_ag (my_ag.cp fh324 is_97 rfl) Ln_h320 Td_h320
                      have fc97 := fh324
                      refine w_vret gz_25_36 gm_25 ?_
                      show wp l rho (d + 4) 104 193 [(2, 94), (2, x1), (0, x2), (1, z36_l3), (9, 0), (0, p10_0), (0, p36_0), (0, p36_1), (0, 1)] [] h324 Q
                      refine w_iinc (ls' := [(2, 94), (2, x1), (0, x2), (1, z36_l3), (9, 0), (0, p10_0), (0, p36_0), (0, (p36_1 + 1)), (0, 1)]) gz_104_193 rfl gm_104 rfl rfl rfl ⟨by omega, by omega⟩ ?_
                      refine w_goto (t := 36) gz_104_196 rfl ?_
                      have ce325 : h324 111 4 = h36_0 111 4 := ((my_cp_role fh324 is_111 is_97 rfl).trans ((my_cp_role fh320 is_111 is_96 rfl).trans ((my_fr.at frh158 is_111 rfl).trans (rfl : h36_0 111 4 = h36_0 111 4))))
                      have ce326 : h324 111 5 = h36_0 111 5 := ((my_cp_role fh324 is_111 is_97 rfl).trans ((my_cp_role fh320 is_111 is_96 rfl).trans ((my_fr.at frh158 is_111 rfl).trans (rfl : h36_0 111 5 = h36_0 111 5))))
                      have ce327 : h324 94 11 = h36_0 94 11 := ((my_cp_role fh324 is_94 is_97 rfl).trans ((my_cp_role fh320 is_94 is_96 rfl).trans ((my_fr.at frh158 is_94 rfl).trans (rfl : h36_0 94 11 = h36_0 94 11))))
                      have ce328 : h324 94 12 = h36_0 94 12 := ((my_cp_role fh324 is_94 is_97 rfl).trans ((my_cp_role fh320 is_94 is_96 rfl).trans ((my_fr.at frh158 is_94 rfl).trans (rfl : h36_0 94 12 = h36_0 94 12))))
                      have ce329 : h324 94 13 = (h36_0 94 13) := ((my_cp_role fh324 is_94 is_97 rfl).trans ((my_cp_role fh320 is_94 is_96 rfl).trans ((my_fr.at frh158 is_94 rfl).trans (rfl : h36_0 94 13 = h36_0 94 13))))
                      have ce330 : h324 94 14 = h36_0 94 14 := ((my_cp_role fh324 is_94 is_97 rfl).trans ((my_cp_role fh320 is_94 is_96 rfl).trans ((my_fr.at frh158 is_94 rfl).trans (rfl : h36_0 94 14 = h36_0 94 14))))
                      have ce331 : h324 94 15 = h36_0 94 15 := ((my_cp_role fh324 is_94 is_97 rfl).trans ((my_cp_role fh320 is_94 is_96 rfl).trans ((my_fr.at frh158 is_94 rfl).trans (rfl : h36_0 94 15 = h36_0 94 15))))
                      have ce332 : h324 94 16 = h36_0 94 16 := ((my_cp_role fh324 is_94 is_97 rfl).trans ((my_cp_role fh320 is_94 is_96 rfl).trans ((my_fr.at frh158 is_94 rfl).trans (rfl : h36_0 94 16 = h36_0 94 16))))
                      have ce333 : h324 98 0 = h36_0 98 0 := ((my_cp_role fh324 is_98 is_97 rfl).trans ((my_cp_role fh320 is_98 is_96 rfl).trans ((my_fr.at frh158 is_98 rfl).trans (rfl : h36_0 98 0 = h36_0 98 0))))
                      have ce334 : h324 98 1 = h36_0 98 1 := ((my_cp_role fh324 is_98 is_97 rfl).trans ((my_cp_role fh320 is_98 is_96 rfl).trans ((my_fr.at frh158 is_98 rfl).trans (rfl : h36_0 98 1 = h36_0 98 1))))
                      have ce335 : h324 102 0 = h36_0 102 0 := ((my_cp_role fh324 is_102 is_97 rfl).trans ((my_cp_role fh320 is_102 is_96 rfl).trans ((my_fr.at frh158 is_102 rfl).trans (rfl : h36_0 102 0 = h36_0 102 0))))
                      have ce336 : h324 102 1 = h36_0 102 1 := ((my_cp_role fh324 is_102 is_97 rfl).trans ((my_cp_role fh320 is_102 is_96 rfl).trans ((my_fr.at frh158 is_102 rfl).trans (rfl : h36_0 102 1 = h36_0 102 1))))
                      have ce337 : h324 112 0 = h36_0 112 0 := ((my_cp_role fh324 is_112 is_97 rfl).trans ((my_cp_role fh320 is_112 is_96 rfl).trans ((my_fr.at frh158 is_112 rfl).trans (rfl : h36_0 112 0 = h36_0 112 0))))
                      have ce338 : h324 112 1 = h36_0 112 1 := ((my_cp_role fh324 is_112 is_97 rfl).trans ((my_cp_role fh320 is_112 is_96 rfl).trans ((my_fr.at frh158 is_112 rfl).trans (rfl : h36_0 112 1 = h36_0 112 1))))
                      have ce339 : h324 112 2 = h36_0 112 2 := ((my_cp_role fh324 is_112 is_97 rfl).trans ((my_cp_role fh320 is_112 is_96 rfl).trans ((my_fr.at frh158 is_112 rfl).trans (rfl : h36_0 112 2 = h36_0 112 2))))
                      have ce340 : h324 112 3 = h36_0 112 3 := ((my_cp_role fh324 is_112 is_97 rfl).trans ((my_cp_role fh320 is_112 is_96 rfl).trans ((my_fr.at frh158 is_112 rfl).trans (rfl : h36_0 112 3 = h36_0 112 3))))
                      have ce341 : h324 112 4 = h36_0 112 4 := ((my_cp_role fh324 is_112 is_97 rfl).trans ((my_cp_role fh320 is_112 is_96 rfl).trans ((my_fr.at frh158 is_112 rfl).trans (rfl : h36_0 112 4 = h36_0 112 4))))
                      have ce342 : h324 112 5 = h36_0 112 5 := ((my_cp_role fh324 is_112 is_97 rfl).trans ((my_cp_role fh320 is_112 is_96 rfl).trans ((my_fr.at frh158 is_112 rfl).trans (rfl : h36_0 112 5 = h36_0 112 5))))
                      have ce343 : h324 113 0 = h36_0 113 0 := ((my_cp_role fh324 is_113 is_97 rfl).trans ((my_cp_role fh320 is_113 is_96 rfl).trans ((my_fr.at frh158 is_113 rfl).trans (rfl : h36_0 113 0 = h36_0 113 0))))
                      have ce344 : h324 113 1 = h36_0 113 1 := ((my_cp_role fh324 is_113 is_97 rfl).trans ((my_cp_role fh320 is_113 is_96 rfl).trans ((my_fr.at frh158 is_113 rfl).trans (rfl : h36_0 113 1 = h36_0 113 1))))
                      have ce345 : h324 113 2 = h36_0 113 2 := ((my_cp_role fh324 is_113 is_97 rfl).trans ((my_cp_role fh320 is_113 is_96 rfl).trans ((my_fr.at frh158 is_113 rfl).trans (rfl : h36_0 113 2 = h36_0 113 2))))
                      have ce346 : h324 113 3 = h36_0 113 3 := ((my_cp_role fh324 is_113 is_97 rfl).trans ((my_cp_role fh320 is_113 is_96 rfl).trans ((my_fr.at frh158 is_113 rfl).trans (rfl : h36_0 113 3 = h36_0 113 3))))
                      have ce347 : h324 113 4 = h36_0 113 4 := ((my_cp_role fh324 is_113 is_97 rfl).trans ((my_cp_role fh320 is_113 is_96 rfl).trans ((my_fr.at frh158 is_113 rfl).trans (rfl : h36_0 113 4 = h36_0 113 4))))
                      have ce348 : h324 113 5 = h36_0 113 5 := ((my_cp_role fh324 is_113 is_97 rfl).trans ((my_cp_role fh320 is_113 is_96 rfl).trans ((my_fr.at frh158 is_113 rfl).trans (rfl : h36_0 113 5 = h36_0 113 5))))
                      have a99 : ∀ j : Int, h324 99 j = h36_0 99 j := fun j => ((my_cp_role fh324 is_99 is_97 rfl).trans ((my_cp_role fh320 is_99 is_96 rfl).trans ((my_fr.at frh158 is_99 rfl).trans (rfl : h36_0 99 j = h36_0 99 j))))
                      have a101 : ∀ j : Int, h324 101 j = h36_0 101 j := fun j => ((my_cp_role fh324 is_101 is_97 rfl).trans ((my_cp_role fh320 is_101 is_96 rfl).trans ((my_fr.at frh158 is_101 rfl).trans (rfl : h36_0 101 j = h36_0 101 j))))
                      have a103 : ∀ j : Int, h324 103 j = h36_0 103 j := fun j => ((my_cp_role fh324 is_103 is_97 rfl).trans ((my_cp_role fh320 is_103 is_96 rfl).trans ((my_fr.at frh158 is_103 rfl).trans (rfl : h36_0 103 j = h36_0 103 j))))
                      have bf9 : ∀ k j : Int, 0 ≤ k → (k < 94 ∨ 120 ≤ k ∧ k < 151) → h324 k j = h k j := fun k j k0 k1 => (((my_cp_ne fh324 (by omega)).trans ((my_cp_ne fh320 (by omega)).trans (my_fx.at fxh158 (by omega)))).trans (bf_36_0 k j k0 k1))
                      have kp9 : KpS h36_0 h324 := ⟨⟨by omega, by omega, by omega, by omega, by omega, by omega, by omega, by omega, a99, a101, a103⟩, ⟨by omega, by omega⟩, ⟨by omega, by omega, by omega, by omega, by omega, by omega⟩, ⟨by omega, by omega, by omega, by omega, by omega, by omega⟩⟩
                      have e96f : ∀ j : Int, h324 96 j = h 96 j := fun j => (my_cp_ne fc97 (by omega)).trans (Cf_96 fc96 (fun j a b => (bfB (x1 + 1) j xb.z1 xb.f1).trans (hw j a b)) o96 j)
                      have e97f : ∀ j : Int, h324 97 j = h 97 j := Cf_97 fc97 (fun j a b => (my_cp_ne fc96 (fun z => xb.n2 z.1)).trans ((bfB (x1 + 2) j xb.z2 xb.f2).trans (hz j a b))) (fun j hj => (my_cp_ne fc96 (by omega)).trans (o97 j hj))
                      refine w_weak (ls' := [(2, 94), (2, x1), (0, x2), (1, z36_l3), (9, 0), (0, p10_0), (0, p36_0), (0, (p36_1 + 1)), (9, 0)]) (wk_e (wk_e (wk_e (wk_e (wk_9 (wk_e (wk_e (wk_e (wk_9 wk_n))))))))) ?_
                      exact ih_36_0 (z36_l3) (p36_0) ((p36_1 + 1)) h324 (gh324) (by omega) (by omega) (by omega) (by omega) (by omega) Lst_h324 Ln_h324 Td_h324 (by first | rfl | exact tl_10_0 | exact tl_36_0 | assumption | omega) (by omega) (by omega) (bf9) (by first | exact TgI_to (TgI_0 hd a96 a97 kp9) (by omega) | exact TgI_to tg_10_0 (by omega) | exact TgI_to (TgI_n (by omega) tg_36_0 tg_36_0.1 tg_36_0.2.1 KpS.rf (Q2_no (hsI.2 (by omega)))) (by omega) | exact TgI_to (TgI_n (by omega) tg_36_0 tg_36_0.1 tg_36_0.2.1 KpS.rf (Q2_nt hk htp (by omega) (by omega) (by rw [← tl_36_0]; exact hb2.1 (by assumption)) (by have z := tg_36_0.2.2.1.2.1; omega))) (by omega) | exact TgI_to (TgI_n (by omega) tg_36_0 e96f e97f kp9 (fun z => sa (qI.mpr z))) (by omega) | exact TgI_to (TgI_n (by omega) tg_36_0 e96f e97f kp9 (Q2_la (fun z => by obtain ⟨p, a, b, c, d, e⟩ := fb; exact d (laN z p a b)))) (by omega) | exact TgI_to (TgI_y (a := 0) (b := 0) (by omega) tg_36_0 e96f e97f kp7 no8 kpp sm9 (KpS_cp fc96 fc97) (by omega) (by omega) (by omega) (by omega) pr8 (by omega) q7) (by omega) | exact TgI_to (TgI_s (r2 := 20 * p10_0) (by omega) (by omega) tg_36_0 (fun p a b => Q2_un hk (by omega) (by omega) (un_36_0.2 (by omega)) p (by omega) (by omega))) (by omega) | exact TgI_to tg_36_0 (by omega) | exact TgI_e hk (by omega) (by omega) (by omega) tg_36_0 (by omega) (by omega) (by omega) | assumption | omega) (by first | exact un_36_0 | exact ⟨(fun _ => hb1.2 (by assumption)), (fun z => by exfalso; omega)⟩ | exact ⟨(fun z => by exfalso; omega), (fun _ => hb1.1 (by assumption))⟩ | assumption | omega) (by omega)
              ·
                show wp l rho (d + 4) 104 52 [(2, 94), (2, x1), (0, x2), (1, z36_l3), (9, 0), (0, p10_0), (0, p36_0), (0, p36_1), (9, 0)] [(0, 1)] h36_0 Q
                have en8 := xp7
                refine w_ifne (t := 199) gz_104_52 rfl (fun u349 => ?_) (fun u349 => by exfalso; omega)
                refine w_iinc (ls' := [(2, 94), (2, x1), (0, x2), (1, z36_l3), (9, 0), (0, (p10_0 + 1)), (0, p36_0), (0, p36_1), (9, 0)]) gz_104_199 rfl gm_104 rfl rfl rfl ⟨by omega, by omega⟩ ?_
                refine w_goto (t := 10) gz_104_202 rfl ?_
                have ce350 : h36_0 94 13 = 1 := w6
                have a96 : ∀ j : Int, h36_0 96 j = h36_0 96 j := fun _ => rfl
                have a97 : ∀ j : Int, h36_0 97 j = h36_0 97 j := fun _ => rfl
                have a99 : ∀ j : Int, h36_0 99 j = h36_0 99 j := fun _ => rfl
                have a101 : ∀ j : Int, h36_0 101 j = h36_0 101 j := fun _ => rfl
                have a103 : ∀ j : Int, h36_0 103 j = h36_0 103 j := fun _ => rfl
                have bf9 : ∀ k j : Int, 0 ≤ k → (k < 94 ∨ 120 ≤ k ∧ k < 151) → h36_0 k j = h k j := fun k j k0 k1 => (bf_36_0 k j k0 k1)
                have kp9 : KpS h36_0 h36_0 := KpS.rf
                refine w_weak (ls' := [(2, 94), (2, x1), (0, x2), (1, z36_l3), (9, 0), (0, (p10_0 + 1)), (9, 0), (9, 0), (9, 0)]) (wk_e (wk_e (wk_e (wk_e (wk_9 (wk_e (wk_9 (wk_9 (wk_9 wk_n))))))))) ?_
                exact ih_10_0 (z36_l3) ((p10_0 + 1)) h36_0 (gh_36_0) (by omega) (by omega) n_Lst_36_0 n_Ln_36_0 n_Td_36_0 (by first | rfl | exact tl_10_0 | exact tl_36_0 | assumption | omega) (by omega) (by omega) (bf9) (by first | exact TgI_to (TgI_0 hd a96 a97 kp9) (by omega) | exact TgI_to tg_10_0 (by omega) | exact TgI_to (TgI_n (by omega) tg_36_0 tg_36_0.1 tg_36_0.2.1 KpS.rf (Q2_no (hsI.2 (by omega)))) (by omega) | exact TgI_to (TgI_n (by omega) tg_36_0 tg_36_0.1 tg_36_0.2.1 KpS.rf (Q2_nt hk htp (by omega) (by omega) (by rw [← tl_36_0]; exact hb2.1 (by assumption)) (by have z := tg_36_0.2.2.1.2.1; omega))) (by omega) | exact TgI_to (TgI_n (by omega) tg_36_0 e96f e97f kp9 (fun z => sa (qI.mpr z))) (by omega) | exact TgI_to (TgI_n (by omega) tg_36_0 e96f e97f kp9 (Q2_la (fun z => by obtain ⟨p, a, b, c, d, e⟩ := fb; exact d (laN z p a b)))) (by omega) | exact TgI_to (TgI_y (a := 0) (b := 0) (by omega) tg_36_0 e96f e97f kp7 no8 kpp sm9 (KpS_cp fc96 fc97) (by omega) (by omega) (by omega) (by omega) pr8 (by omega) q7) (by omega) | exact TgI_to (TgI_s (r2 := 20 * (p10_0 + 1)) (by omega) (by omega) tg_36_0 (fun p a b => Q2_un hk (by omega) (by omega) (un_36_0.2 (by omega)) p (by omega) (by omega))) (by omega) | exact TgI_to tg_36_0 (by omega) | exact TgI_e hk (by omega) (by omega) (by omega) tg_36_0 (by omega) (by omega) (by omega) | assumption | omega) (by omega)
      refine w_iload gz_104_10 rfl ?_
      refine w_iconst gz_104_12 (by decide) ?_
      refine w_icge (t := 205) gz_104_13 rfl (fun u351 => ?_) (fun u351 => ?_)
      ·
        exact w_vret gz_104_205 gm_104 (k0 h10_0 (gh_10_0) (by first | exact TgI_to tg_10_0 (by omega) | exact ⟨k4_10_0, k5_10_0⟩ | exact bf_10_0 | assumption | omega) (by first | exact TgI_to tg_10_0 (by omega) | exact ⟨k4_10_0, k5_10_0⟩ | exact bf_10_0 | assumption | omega) (by first | exact TgI_to tg_10_0 (by omega) | exact ⟨k4_10_0, k5_10_0⟩ | exact bf_10_0 | assumption | omega) n_Lst_10_0)
      ·
        refine w_aload_n gz_104_16 rfl ?_
        refine w_getX (v := 27) gz_104_17 is_94 rd_2 rfl (by decide) rfl ?_
        refine w_iload_n gz_104_20 rfl ?_
        refine w_aald gz_104_21 is_27 rd_22 rfl (by omega) (by omega) (fun v353 ev353 tv353 => ?_)
        refine v_getI (j := 6) gz_104_22 rfl tv353 rd_4 rfl (fun v354 ev354 pv354 qv354 => ?_)
        refine w_i2l gz_104_25 ?_
        refine w_iload gz_104_26 rfl ?_
        refine w_inS (k := 0) (as := [(0, p10_0), (1, v354)]) (r := []) (ls0 := [(1, v354), (9, 0), (0, p10_0)]) gz_104_28 gm_69 rfl rfl rfl rfl rfl rfl ?_
        refine w_lload_n gz_69_0 rfl ?_
        refine w_iload_n gz_69_1 rfl ?_
        refine w_lshrX gz_69_2 (fun v355 ev355 pv355 => ?_)
        refine w_lconst gz_69_3 ?_
        refine w_landX gz_69_4 (fun v356 ev356 pv356 => ?_)
        refine w_lconst gz_69_5 ?_
        refine w_lcmpE gz_69_6 (fun v357 pv357 qv357 xv357 => ?_)
        refine w_ifeq (t := 14) gz_69_7 rfl (fun u358 => ?_) (fun u358 => ?_)
        ·
          refine w_iconst gz_69_14 (by decide) ?_
          refine w_bret gz_69_15 gm_69 (by omega) (by omega) ?_
          show wp l rho (d + 4) 104 31 [(2, 94), (2, x1), (0, x2), (1, z10_l3), (9, 0), (0, p10_0), (9, 0), (9, 0), (9, 0)] [(0, 0)] h10_0 Q
          have b27 : h10_0 27 x2 = h 27 x2 := my_fr.at gh_10_0 pis_27 rfl
          have b6 : h10_0 (h 27 x2) 6 = h (h 27 x2) 6 := my_fr.at gh_10_0 (n_Ln.2.2.1 _ (by omega) (by omega)) rfl
          have hb1 := hasBit_z (M := h (h 27 x2) 6) (C := p10_0) (by assumption) (by assumption) (by assumption) (by rw [← b6, ← b27]; subst_vars; first | rfl | omega) (by omega) (by omega) (by omega)
          refine w_istore (ls' := [(2, 94), (2, x1), (0, x2), (1, z10_l3), (9, 0), (0, p10_0), (0, 0), (9, 0), (9, 0)]) gz_104_31 gm_104 rfl rfl rfl ?_
          refine w_iconst gz_104_33 (by decide) ?_
          refine w_istore (ls' := [(2, 94), (2, x1), (0, x2), (1, z10_l3), (9, 0), (0, p10_0), (0, 0), (0, 0), (9, 0)]) gz_104_34 gm_104 rfl rfl rfl ?_
          have a99 : ∀ j : Int, h10_0 99 j = h10_0 99 j := fun _ => rfl
          have a101 : ∀ j : Int, h10_0 101 j = h10_0 101 j := fun _ => rfl
          have a103 : ∀ j : Int, h10_0 103 j = h10_0 103 j := fun _ => rfl
          have bf9 : ∀ k j : Int, 0 ≤ k → (k < 94 ∨ 120 ≤ k ∧ k < 151) → h10_0 k j = h k j := fun k j k0 k1 => (bf_10_0 k j k0 k1)
          have kp9 : KpS h10_0 h10_0 := KpS.rf
          exact J36_0 21 (z10_l3) (0) (0) h10_0 (gh_10_0) (by omega) (by omega) (by omega) (by omega) (by omega) n_Lst_10_0 n_Ln_10_0 n_Td_10_0 (by first | rfl | exact tl_10_0 | exact tl_36_0 | assumption | omega) (by omega) (by omega) (bf9) (by first | exact TgI_to (TgI_0 hd a96 a97 kp9) (by omega) | exact TgI_to tg_10_0 (by omega) | exact TgI_to (TgI_n (by omega) tg_36_0 tg_36_0.1 tg_36_0.2.1 KpS.rf (Q2_no (hsI.2 (by omega)))) (by omega) | exact TgI_to (TgI_n (by omega) tg_36_0 tg_36_0.1 tg_36_0.2.1 KpS.rf (Q2_nt hk htp (by omega) (by omega) (by rw [← tl_36_0]; exact hb2.1 (by assumption)) (by have z := tg_36_0.2.2.1.2.1; omega))) (by omega) | exact TgI_to (TgI_n (by omega) tg_36_0 e96f e97f kp9 (fun z => sa (qI.mpr z))) (by omega) | exact TgI_to (TgI_n (by omega) tg_36_0 e96f e97f kp9 (Q2_la (fun z => by obtain ⟨p, a, b, c, d, e⟩ := fb; exact d (laN z p a b)))) (by omega) | exact TgI_to (TgI_y (a := 0) (b := 0) (by omega) tg_36_0 e96f e97f kp7 no8 kpp sm9 (KpS_cp fc96 fc97) (by omega) (by omega) (by omega) (by omega) pr8 (by omega) q7) (by omega) | exact TgI_to (TgI_s (r2 := 20 * p10_0) (by omega) (by omega) tg_36_0 (fun p a b => Q2_un hk (by omega) (by omega) (un_36_0.2 (by omega)) p (by omega) (by omega))) (by omega) | exact TgI_to tg_36_0 (by omega) | exact TgI_e hk (by omega) (by omega) (by omega) tg_36_0 (by omega) (by omega) (by omega) | assumption | omega) (by first | exact un_36_0 | exact ⟨(fun _ => hb1.2 (by assumption)), (fun z => by exfalso; omega)⟩ | exact ⟨(fun z => by exfalso; omega), (fun _ => hb1.1 (by assumption))⟩ | assumption | omega) (by omega)
        ·
          refine w_iconst gz_69_10 (by decide) ?_
          refine w_goto (t := 15) gz_69_11 rfl ?_
          refine w_bret gz_69_15 gm_69 (by omega) (by omega) ?_
          show wp l rho (d + 4) 104 31 [(2, 94), (2, x1), (0, x2), (1, z10_l3), (9, 0), (0, p10_0), (9, 0), (9, 0), (9, 0)] [(0, 1)] h10_0 Q
          have b27 : h10_0 27 x2 = h 27 x2 := my_fr.at gh_10_0 pis_27 rfl
          have b6 : h10_0 (h 27 x2) 6 = h (h 27 x2) 6 := my_fr.at gh_10_0 (n_Ln.2.2.1 _ (by omega) (by omega)) rfl
          have hb1 := hasBit_z (M := h (h 27 x2) 6) (C := p10_0) (by assumption) (by assumption) (by assumption) (by rw [← b6, ← b27]; subst_vars; first | rfl | omega) (by omega) (by omega) (by omega)
          refine w_istore (ls' := [(2, 94), (2, x1), (0, x2), (1, z10_l3), (9, 0), (0, p10_0), (0, 1), (9, 0), (9, 0)]) gz_104_31 gm_104 rfl rfl rfl ?_
          refine w_iconst gz_104_33 (by decide) ?_
          refine w_istore (ls' := [(2, 94), (2, x1), (0, x2), (1, z10_l3), (9, 0), (0, p10_0), (0, 1), (0, 0), (9, 0)]) gz_104_34 gm_104 rfl rfl rfl ?_
          have a99 : ∀ j : Int, h10_0 99 j = h10_0 99 j := fun _ => rfl
          have a101 : ∀ j : Int, h10_0 101 j = h10_0 101 j := fun _ => rfl
          have a103 : ∀ j : Int, h10_0 103 j = h10_0 103 j := fun _ => rfl
          have bf9 : ∀ k j : Int, 0 ≤ k → (k < 94 ∨ 120 ≤ k ∧ k < 151) → h10_0 k j = h k j := fun k j k0 k1 => (bf_10_0 k j k0 k1)
          have kp9 : KpS h10_0 h10_0 := KpS.rf
          exact J36_0 21 (z10_l3) (1) (0) h10_0 (gh_10_0) (by omega) (by omega) (by omega) (by omega) (by omega) n_Lst_10_0 n_Ln_10_0 n_Td_10_0 (by first | rfl | exact tl_10_0 | exact tl_36_0 | assumption | omega) (by omega) (by omega) (bf9) (by first | exact TgI_to (TgI_0 hd a96 a97 kp9) (by omega) | exact TgI_to tg_10_0 (by omega) | exact TgI_to (TgI_n (by omega) tg_36_0 tg_36_0.1 tg_36_0.2.1 KpS.rf (Q2_no (hsI.2 (by omega)))) (by omega) | exact TgI_to (TgI_n (by omega) tg_36_0 tg_36_0.1 tg_36_0.2.1 KpS.rf (Q2_nt hk htp (by omega) (by omega) (by rw [← tl_36_0]; exact hb2.1 (by assumption)) (by have z := tg_36_0.2.2.1.2.1; omega))) (by omega) | exact TgI_to (TgI_n (by omega) tg_36_0 e96f e97f kp9 (fun z => sa (qI.mpr z))) (by omega) | exact TgI_to (TgI_n (by omega) tg_36_0 e96f e97f kp9 (Q2_la (fun z => by obtain ⟨p, a, b, c, d, e⟩ := fb; exact d (laN z p a b)))) (by omega) | exact TgI_to (TgI_y (a := 0) (b := 0) (by omega) tg_36_0 e96f e97f kp7 no8 kpp sm9 (KpS_cp fc96 fc97) (by omega) (by omega) (by omega) (by omega) pr8 (by omega) q7) (by omega) | exact TgI_to (TgI_s (r2 := 20 * p10_0) (by omega) (by omega) tg_36_0 (fun p a b => Q2_un hk (by omega) (by omega) (un_36_0.2 (by omega)) p (by omega) (by omega))) (by omega) | exact TgI_to tg_36_0 (by omega) | exact TgI_e hk (by omega) (by omega) (by omega) tg_36_0 (by omega) (by omega) (by omega) | assumption | omega) (by first | exact un_36_0 | exact ⟨(fun _ => hb1.2 (by assumption)), (fun z => by exfalso; omega)⟩ | exact ⟨(fun z => by exfalso; omega), (fun _ => hb1.1 (by assumption))⟩ | assumption | omega) (by omega)
  refine w_aload_n gz_104_0 rfl ?_
  refine w_getX (v := 111) gz_104_1 is_94 rd_2 rfl (by decide) rfl ?_
  refine w_inv (k := 0) (as := []) (r := []) (x := 111) (ls0 := [(2, 111)]) gz_104_4 gm_9 rfl is_111 rd_7 rfl rfl rfl rfl rfl ?_
  refine w_aload_n gz_9_0 rfl ?_
  refine w_iconst gz_9_1 (by decide) ?_
  refine v_putA (j := 0) gz_9_2 rfl is_111 rd_7 rfl rfl (fun h360 fh360 => ?_)
  have gh360 : my_fr [(2, 11), (7, 0), (7, 1), (7, 2), (7, 3), (7, 4), (7, 5), (8, 0), (8, 1), (30, -1), (31, -1), (42, -1), (43, -1), (44, -1)] h h360 := my_fr.up my_fr.rf is_111 fh360 rfl
  have Lst_h360 : Lst h360 := Lst_ne fh360 (by decide) n_Lst
  have Ln_h360 : Ln h360 := Ln_ag (my_ag.up fh360 is_111 rfl) n_Ln
  have Td_h360 : Td h360 x2 := Td_ag (my_ag.up fh360 is_111 rfl) n_Ln n_Td
  refine w_aload_n gz_9_5 rfl ?_
  refine w_iconst gz_9_6 (by decide) ?_
  refine v_putI (j := 1) gz_9_7 rfl is_111 rd_7 rfl (by omega) (by omega) rfl (fun h361 fh361 => ?_)
  have gh361 : my_fr [(2, 11), (7, 0), (7, 1), (7, 2), (7, 3), (7, 4), (7, 5), (8, 0), (8, 1), (30, -1), (31, -1), (42, -1), (43, -1), (44, -1)] h h361 := my_fr.up gh360 is_111 fh361 rfl
  have Lst_h361 : Lst h361 := Lst_ne fh361 (by decide) Lst_h360
  have Ln_h361 : Ln h361 := Ln_ag (my_ag.up fh361 is_111 rfl) Ln_h360
  have Td_h361 : Td h361 x2 := Td_ag (my_ag.up fh361 is_111 rfl) Ln_h360 Td_h360
  refine w_aload_n gz_9_10 rfl ?_
  refine w_iconst gz_9_11 (by decide) ?_
  refine v_putI (j := 2) gz_9_12 rfl is_111 rd_7 rfl (by omega) (by omega) rfl (fun h362 fh362 => ?_)
  have gh362 : my_fr [(2, 11), (7, 0), (7, 1), (7, 2), (7, 3), (7, 4), (7, 5), (8, 0), (8, 1), (30, -1), (31, -1), (42, -1), (43, -1), (44, -1)] h h362 := my_fr.up gh361 is_111 fh362 rfl
  have Lst_h362 : Lst h362 := Lst_ne fh362 (by decide) Lst_h361
  have Ln_h362 : Ln h362 := Ln_ag (my_ag.up fh362 is_111 rfl) Ln_h361
  have Td_h362 : Td h362 x2 := Td_ag (my_ag.up fh362 is_111 rfl) Ln_h361 Td_h361
  refine w_aload_n gz_9_15 rfl ?_
  refine w_iconst gz_9_16 (by decide) ?_
  refine v_putI (j := 3) gz_9_17 rfl is_111 rd_7 rfl (by omega) (by omega) rfl (fun h363 fh363 => ?_)
  have gh363 : my_fr [(2, 11), (7, 0), (7, 1), (7, 2), (7, 3), (7, 4), (7, 5), (8, 0), (8, 1), (30, -1), (31, -1), (42, -1), (43, -1), (44, -1)] h h363 := my_fr.up gh362 is_111 fh363 rfl
  have Lst_h363 : Lst h363 := Lst_ne fh363 (by decide) Lst_h362
  have Ln_h363 : Ln h363 := Ln_ag (my_ag.up fh363 is_111 rfl) Ln_h362
  have Td_h363 : Td h363 x2 := Td_ag (my_ag.up fh363 is_111 rfl) Ln_h362 Td_h362
  refine w_aload_n gz_9_20 rfl ?_
  refine w_iconst gz_9_21 (by decide) ?_
  refine v_putI (j := 4) gz_9_22 rfl is_111 rd_7 rfl (by omega) (by omega) rfl (fun h364 fh364 => ?_)
  have gh364 : my_fr [(2, 11), (7, 0), (7, 1), (7, 2), (7, 3), (7, 4), (7, 5), (8, 0), (8, 1), (30, -1), (31, -1), (42, -1), (43, -1), (44, -1)] h h364 := my_fr.up gh363 is_111 fh364 rfl
  have Lst_h364 : Lst h364 := Lst_ne fh364 (by decide) Lst_h363
  have Ln_h364 : Ln h364 := Ln_ag (my_ag.up fh364 is_111 rfl) Ln_h363
  have Td_h364 : Td h364 x2 := Td_ag (my_ag.up fh364 is_111 rfl) Ln_h363 Td_h363
  refine w_aload_n gz_9_25 rfl ?_
  refine w_iconst gz_9_26 (by decide) ?_
  refine v_putI (j := 5) gz_9_27 rfl is_111 rd_7 rfl (by omega) (by omega) rfl (fun h365 fh365 => ?_)
  have gh365 : my_fr [(2, 11), (7, 0), (7, 1), (7, 2), (7, 3), (7, 4), (7, 5), (8, 0), (8, 1), (30, -1), (31, -1), (42, -1), (43, -1), (44, -1)] h h365 := my_fr.up gh364 is_111 fh365 rfl
  have Lst_h365 : Lst h365 := Lst_ne fh365 (by decide) Lst_h364
  have Ln_h365 : Ln h365 := Ln_ag (my_ag.up fh365 is_111 rfl) Ln_h364
  have Td_h365 : Td h365 x2 := Td_ag (my_ag.up fh365 is_111 rfl) Ln_h364 Td_h364
  refine w_vret gz_9_30 gm_9 ?_
  show wp l rho (d + 4) 104 7 [(2, 94), (2, x1), (0, x2), (1, x3), (9, 0), (9, 0), (9, 0), (9, 0), (9, 0)] [] h365 Q
  refine w_iconst gz_104_7 (by decide) ?_
  refine w_istore (ls' := [(2, 94), (2, x1), (0, x2), (1, x3), (9, 0), (0, 0), (9, 0), (9, 0), (9, 0)]) gz_104_8 gm_104 rfl rfl rfl ?_
  have ce366 : h365 111 4 = (-1) := ((my_up_fld fh365 (by decide)).trans (my_up_self fh364))
  have ce367 : h365 111 5 = (-1) := (my_up_self fh365)
  have ce368 : h365 94 11 = h 94 11 := ((my_up_role fh365 is_94 is_111 rfl).trans ((my_up_role fh364 is_94 is_111 rfl).trans ((my_up_role fh363 is_94 is_111 rfl).trans ((my_up_role fh362 is_94 is_111 rfl).trans ((my_up_role fh361 is_94 is_111 rfl).trans ((my_up_role fh360 is_94 is_111 rfl).trans (rfl : h 94 11 = h 94 11)))))))
  have ce369 : h365 94 12 = h 94 12 := ((my_up_role fh365 is_94 is_111 rfl).trans ((my_up_role fh364 is_94 is_111 rfl).trans ((my_up_role fh363 is_94 is_111 rfl).trans ((my_up_role fh362 is_94 is_111 rfl).trans ((my_up_role fh361 is_94 is_111 rfl).trans ((my_up_role fh360 is_94 is_111 rfl).trans (rfl : h 94 12 = h 94 12)))))))
  have ce370 : h365 94 13 = h 94 13 := ((my_up_role fh365 is_94 is_111 rfl).trans ((my_up_role fh364 is_94 is_111 rfl).trans ((my_up_role fh363 is_94 is_111 rfl).trans ((my_up_role fh362 is_94 is_111 rfl).trans ((my_up_role fh361 is_94 is_111 rfl).trans ((my_up_role fh360 is_94 is_111 rfl).trans (rfl : h 94 13 = h 94 13)))))))
  have ce371 : h365 94 14 = h 94 14 := ((my_up_role fh365 is_94 is_111 rfl).trans ((my_up_role fh364 is_94 is_111 rfl).trans ((my_up_role fh363 is_94 is_111 rfl).trans ((my_up_role fh362 is_94 is_111 rfl).trans ((my_up_role fh361 is_94 is_111 rfl).trans ((my_up_role fh360 is_94 is_111 rfl).trans (rfl : h 94 14 = h 94 14)))))))
  have ce372 : h365 94 15 = h 94 15 := ((my_up_role fh365 is_94 is_111 rfl).trans ((my_up_role fh364 is_94 is_111 rfl).trans ((my_up_role fh363 is_94 is_111 rfl).trans ((my_up_role fh362 is_94 is_111 rfl).trans ((my_up_role fh361 is_94 is_111 rfl).trans ((my_up_role fh360 is_94 is_111 rfl).trans (rfl : h 94 15 = h 94 15)))))))
  have ce373 : h365 94 16 = h 94 16 := ((my_up_role fh365 is_94 is_111 rfl).trans ((my_up_role fh364 is_94 is_111 rfl).trans ((my_up_role fh363 is_94 is_111 rfl).trans ((my_up_role fh362 is_94 is_111 rfl).trans ((my_up_role fh361 is_94 is_111 rfl).trans ((my_up_role fh360 is_94 is_111 rfl).trans (rfl : h 94 16 = h 94 16)))))))
  have ce374 : h365 98 0 = h 98 0 := ((my_up_role fh365 is_98 is_111 rfl).trans ((my_up_role fh364 is_98 is_111 rfl).trans ((my_up_role fh363 is_98 is_111 rfl).trans ((my_up_role fh362 is_98 is_111 rfl).trans ((my_up_role fh361 is_98 is_111 rfl).trans ((my_up_role fh360 is_98 is_111 rfl).trans (rfl : h 98 0 = h 98 0)))))))
  have ce375 : h365 98 1 = h 98 1 := ((my_up_role fh365 is_98 is_111 rfl).trans ((my_up_role fh364 is_98 is_111 rfl).trans ((my_up_role fh363 is_98 is_111 rfl).trans ((my_up_role fh362 is_98 is_111 rfl).trans ((my_up_role fh361 is_98 is_111 rfl).trans ((my_up_role fh360 is_98 is_111 rfl).trans (rfl : h 98 1 = h 98 1)))))))
  have ce376 : h365 102 0 = h 102 0 := ((my_up_role fh365 is_102 is_111 rfl).trans ((my_up_role fh364 is_102 is_111 rfl).trans ((my_up_role fh363 is_102 is_111 rfl).trans ((my_up_role fh362 is_102 is_111 rfl).trans ((my_up_role fh361 is_102 is_111 rfl).trans ((my_up_role fh360 is_102 is_111 rfl).trans (rfl : h 102 0 = h 102 0)))))))
  have ce377 : h365 102 1 = h 102 1 := ((my_up_role fh365 is_102 is_111 rfl).trans ((my_up_role fh364 is_102 is_111 rfl).trans ((my_up_role fh363 is_102 is_111 rfl).trans ((my_up_role fh362 is_102 is_111 rfl).trans ((my_up_role fh361 is_102 is_111 rfl).trans ((my_up_role fh360 is_102 is_111 rfl).trans (rfl : h 102 1 = h 102 1)))))))
  have ce378 : h365 112 0 = h 112 0 := ((my_up_fld fh365 (by decide)).trans ((my_up_fld fh364 (by decide)).trans ((my_up_fld fh363 (by decide)).trans ((my_up_fld fh362 (by decide)).trans ((my_up_fld fh361 (by decide)).trans ((my_up_ne fh360 (by omega)).trans (rfl : h 112 0 = h 112 0)))))))
  have ce379 : h365 112 1 = h 112 1 := ((my_up_fld fh365 (by decide)).trans ((my_up_fld fh364 (by decide)).trans ((my_up_fld fh363 (by decide)).trans ((my_up_fld fh362 (by decide)).trans ((my_up_ne fh361 (by omega)).trans ((my_up_fld fh360 (by decide)).trans (rfl : h 112 1 = h 112 1)))))))
  have ce380 : h365 112 2 = h 112 2 := ((my_up_fld fh365 (by decide)).trans ((my_up_fld fh364 (by decide)).trans ((my_up_fld fh363 (by decide)).trans ((my_up_ne fh362 (by omega)).trans ((my_up_fld fh361 (by decide)).trans ((my_up_fld fh360 (by decide)).trans (rfl : h 112 2 = h 112 2)))))))
  have ce381 : h365 112 3 = h 112 3 := ((my_up_fld fh365 (by decide)).trans ((my_up_fld fh364 (by decide)).trans ((my_up_ne fh363 (by omega)).trans ((my_up_fld fh362 (by decide)).trans ((my_up_fld fh361 (by decide)).trans ((my_up_fld fh360 (by decide)).trans (rfl : h 112 3 = h 112 3)))))))
  have ce382 : h365 112 4 = h 112 4 := ((my_up_fld fh365 (by decide)).trans ((my_up_ne fh364 (by omega)).trans ((my_up_fld fh363 (by decide)).trans ((my_up_fld fh362 (by decide)).trans ((my_up_fld fh361 (by decide)).trans ((my_up_fld fh360 (by decide)).trans (rfl : h 112 4 = h 112 4)))))))
  have ce383 : h365 112 5 = h 112 5 := ((my_up_ne fh365 (by omega)).trans ((my_up_fld fh364 (by decide)).trans ((my_up_fld fh363 (by decide)).trans ((my_up_fld fh362 (by decide)).trans ((my_up_fld fh361 (by decide)).trans ((my_up_fld fh360 (by decide)).trans (rfl : h 112 5 = h 112 5)))))))
  have ce384 : h365 113 0 = h 113 0 := ((my_up_fld fh365 (by decide)).trans ((my_up_fld fh364 (by decide)).trans ((my_up_fld fh363 (by decide)).trans ((my_up_fld fh362 (by decide)).trans ((my_up_fld fh361 (by decide)).trans ((my_up_ne fh360 (by omega)).trans (rfl : h 113 0 = h 113 0)))))))
  have ce385 : h365 113 1 = h 113 1 := ((my_up_fld fh365 (by decide)).trans ((my_up_fld fh364 (by decide)).trans ((my_up_fld fh363 (by decide)).trans ((my_up_fld fh362 (by decide)).trans ((my_up_ne fh361 (by omega)).trans ((my_up_fld fh360 (by decide)).trans (rfl : h 113 1 = h 113 1)))))))
  have ce386 : h365 113 2 = h 113 2 := ((my_up_fld fh365 (by decide)).trans ((my_up_fld fh364 (by decide)).trans ((my_up_fld fh363 (by decide)).trans ((my_up_ne fh362 (by omega)).trans ((my_up_fld fh361 (by decide)).trans ((my_up_fld fh360 (by decide)).trans (rfl : h 113 2 = h 113 2)))))))
  have ce387 : h365 113 3 = h 113 3 := ((my_up_fld fh365 (by decide)).trans ((my_up_fld fh364 (by decide)).trans ((my_up_ne fh363 (by omega)).trans ((my_up_fld fh362 (by decide)).trans ((my_up_fld fh361 (by decide)).trans ((my_up_fld fh360 (by decide)).trans (rfl : h 113 3 = h 113 3)))))))
  have ce388 : h365 113 4 = h 113 4 := ((my_up_fld fh365 (by decide)).trans ((my_up_ne fh364 (by omega)).trans ((my_up_fld fh363 (by decide)).trans ((my_up_fld fh362 (by decide)).trans ((my_up_fld fh361 (by decide)).trans ((my_up_fld fh360 (by decide)).trans (rfl : h 113 4 = h 113 4)))))))
  have ce389 : h365 113 5 = h 113 5 := ((my_up_ne fh365 (by omega)).trans ((my_up_fld fh364 (by decide)).trans ((my_up_fld fh363 (by decide)).trans ((my_up_fld fh362 (by decide)).trans ((my_up_fld fh361 (by decide)).trans ((my_up_fld fh360 (by decide)).trans (rfl : h 113 5 = h 113 5)))))))
  have a96 : ∀ j : Int, h365 96 j = h 96 j := fun j => ((my_up_role fh365 is_96 is_111 rfl).trans ((my_up_role fh364 is_96 is_111 rfl).trans ((my_up_role fh363 is_96 is_111 rfl).trans ((my_up_role fh362 is_96 is_111 rfl).trans ((my_up_role fh361 is_96 is_111 rfl).trans ((my_up_role fh360 is_96 is_111 rfl).trans (rfl : h 96 j = h 96 j)))))))
  have a97 : ∀ j : Int, h365 97 j = h 97 j := fun j => ((my_up_role fh365 is_97 is_111 rfl).trans ((my_up_role fh364 is_97 is_111 rfl).trans ((my_up_role fh363 is_97 is_111 rfl).trans ((my_up_role fh362 is_97 is_111 rfl).trans ((my_up_role fh361 is_97 is_111 rfl).trans ((my_up_role fh360 is_97 is_111 rfl).trans (rfl : h 97 j = h 97 j)))))))
  have a99 : ∀ j : Int, h365 99 j = h 99 j := fun j => ((my_up_role fh365 is_99 is_111 rfl).trans ((my_up_role fh364 is_99 is_111 rfl).trans ((my_up_role fh363 is_99 is_111 rfl).trans ((my_up_role fh362 is_99 is_111 rfl).trans ((my_up_role fh361 is_99 is_111 rfl).trans ((my_up_role fh360 is_99 is_111 rfl).trans (rfl : h 99 j = h 99 j)))))))
  have a101 : ∀ j : Int, h365 101 j = h 101 j := fun j => ((my_up_role fh365 is_101 is_111 rfl).trans ((my_up_role fh364 is_101 is_111 rfl).trans ((my_up_role fh363 is_101 is_111 rfl).trans ((my_up_role fh362 is_101 is_111 rfl).trans ((my_up_role fh361 is_101 is_111 rfl).trans ((my_up_role fh360 is_101 is_111 rfl).trans (rfl : h 101 j = h 101 j)))))))
  have a103 : ∀ j : Int, h365 103 j = h 103 j := fun j => ((my_up_role fh365 is_103 is_111 rfl).trans ((my_up_role fh364 is_103 is_111 rfl).trans ((my_up_role fh363 is_103 is_111 rfl).trans ((my_up_role fh362 is_103 is_111 rfl).trans ((my_up_role fh361 is_103 is_111 rfl).trans ((my_up_role fh360 is_103 is_111 rfl).trans (rfl : h 103 j = h 103 j)))))))
  have bf9 : ∀ k j : Int, 0 ≤ k → (k < 94 ∨ 120 ≤ k ∧ k < 151) → h365 k j = h k j := fun k j k0 k1 => (((my_up_ne fh365 (by omega)).trans ((my_up_ne fh364 (by omega)).trans ((my_up_ne fh363 (by omega)).trans ((my_up_ne fh362 (by omega)).trans ((my_up_ne fh361 (by omega)).trans (my_up_ne fh360 (by omega))))))).trans rfl)
  have kp9 : KpS h h365 := ⟨⟨by omega, by omega, by omega, by omega, by omega, by omega, by omega, by omega, a99, a101, a103⟩, ⟨by omega, by omega⟩, ⟨by omega, by omega, by omega, by omega, by omega, by omega⟩, ⟨by omega, by omega, by omega, by omega, by omega, by omega⟩⟩
  exact J10_0 4 (x3) (0) h365 (gh365) (by omega) (by omega) Lst_h365 Ln_h365 Td_h365 (by first | rfl | exact tl_10_0 | exact tl_36_0 | assumption | omega) (by omega) (by omega) (bf9) (by first | exact TgI_to (TgI_0 hd a96 a97 kp9) (by omega) | exact TgI_to tg_10_0 (by omega) | exact TgI_to (TgI_n (by omega) tg_36_0 tg_36_0.1 tg_36_0.2.1 KpS.rf (Q2_no (hsI.2 (by omega)))) (by omega) | exact TgI_to (TgI_n (by omega) tg_36_0 tg_36_0.1 tg_36_0.2.1 KpS.rf (Q2_nt hk htp (by omega) (by omega) (by rw [← tl_36_0]; exact hb2.1 (by assumption)) (by have z := tg_36_0.2.2.1.2.1; omega))) (by omega) | exact TgI_to (TgI_n (by omega) tg_36_0 e96f e97f kp9 (fun z => sa (qI.mpr z))) (by omega) | exact TgI_to (TgI_n (by omega) tg_36_0 e96f e97f kp9 (Q2_la (fun z => by obtain ⟨p, a, b, c, d, e⟩ := fb; exact d (laN z p a b)))) (by omega) | exact TgI_to (TgI_y (a := 0) (b := 0) (by omega) tg_36_0 e96f e97f kp7 no8 kpp sm9 (KpS_cp fc96 fc97) (by omega) (by omega) (by omega) (by omega) pr8 (by omega) q7) (by omega) | exact TgI_to (TgI_s (r2 := 20 * 0) (by omega) (by omega) tg_36_0 (fun p a b => Q2_un hk (by omega) (by omega) (un_36_0.2 (by omega)) p (by omega) (by omega))) (by omega) | exact TgI_to tg_36_0 (by omega) | exact TgI_e hk (by omega) (by omega) (by omega) tg_36_0 (by omega) (by omega) (by omega) | assumption | omega) (by omega)
end MYNDesk_tryRowsThatGo5
