/-! contracts, printed by wip/gen/gy.py -/
section MYNDesk_tryOtherValues5
theorem c_Desk_tryOtherValues5 {l : Launch} {rho : Nat → Int32} {d : Nat} {h : my_H} {Q : my_H → my_V → Prop} {x1 x2 : Int} (a1 : 0 ≤ x1) (b1 : x1 ≤ 5) (n_Lst : Lst h) (n_Ln : Ln h) (n_Td : Td h x1) (hk : SrC h x1) (htp : TlP h x1 x2) (hd : DkL h (h 2) (L0h h)) (k0 : ∀ (h' : my_H), my_fr [(2, 11), (7, 0), (7, 1), (7, 2), (7, 3), (7, 4), (7, 5), (8, 0), (8, 1), (30, -1), (42, -1), (43, -1), (44, -1)] h h' → TvO h h' x1 240 → (∀ k j : Int, 0 ≤ k → (k < 94 ∨ 120 ≤ k ∧ k < 151) → h' k j = h k j) → Lst h' → Q h' (9, 0)) : wp l rho (d + 4) 98 0 [(2, 94), (0, x1), (1, x2), (9, 0), (9, 0), (9, 0), (9, 0), (9, 0), (9, 0), (9, 0)] [] h Q := by
  have J18_0 : ∀ (n : Nat) (z18_l2 r18_0 p18_1 p18_2 : Int) (h18_0 : my_H), my_fr [(2, 11), (7, 0), (7, 1), (7, 2), (7, 3), (7, 4), (7, 5), (8, 0), (8, 1), (30, -1), (42, -1), (43, -1), (44, -1)] h h18_0 → my_is 4 r18_0 → 0 ≤ p18_2 → p18_2 ≤ 240 → Lst h18_0 → Ln h18_0 → Td h18_0 x1 → z18_l2 = x2 → r18_0 = h 27 x1 → LvI h (h 27 x1) (h (h 27 x1) 4) p18_1 → TvO h h18_0 x1 p18_2 → (∀ k j : Int, 0 ≤ k → (k < 94 ∨ 120 ≤ k ∧ k < 151) → h18_0 k j = h k j) → 241 - p18_2 ≤ (n : Int) → wp l rho (d + 4) 98 18 [(2, 94), (0, x1), (1, z18_l2), (9, 0), (2, r18_0), (0, p18_1), (0, p18_2), (9, 0), (9, 0), (9, 0)] [] h18_0 Q := by
    intro n
    induction n with
    | zero => intro z18_l2 r18_0 p18_1 p18_2 h18_0 gh_18_0 tr18_0_18_0 q0_18_0 q1_18_0 n_Lst_18_0 n_Ln_18_0 n_Td_18_0 tl_18_0 le_18_0 lv_18_0 tv_18_0 bf_18_0 hm_18_0; exfalso; omega
    | succ n ih_18_0 =>
      intro z18_l2 r18_0 p18_1 p18_2 h18_0 gh_18_0 tr18_0_18_0 q0_18_0 q1_18_0 n_Lst_18_0 n_Ln_18_0 n_Td_18_0 tl_18_0 le_18_0 lv_18_0 tv_18_0 bf_18_0 hm_18_0
      have J174_0 : ∀ (n : Nat) (z174_l2 p174_0 p174_1 p174_2 p174_3 : Int) (h174_0 : my_H), my_fr [(2, 11), (7, 0), (7, 1), (7, 2), (7, 3), (7, 4), (7, 5), (8, 0), (8, 1), (30, -1), (42, -1), (43, -1), (44, -1)] h h174_0 → p18_2 ≤ 239 → 0 ≤ p174_0 → p174_0 ≤ 1 → (-1) ≤ p174_1 → p174_1 ≤ 19 → 0 ≤ p174_2 → p174_2 ≤ 20 → 0 ≤ p174_3 → p174_3 ≤ 1 → h174_0 94 13 = p174_3 → Lst h174_0 → Ln h174_0 → Td h174_0 x1 → z174_l2 = x2 → r18_0 = h 27 x1 → LvI h (h 27 x1) (h (h 27 x1) 4) p18_1 → 0 ≤ h174_0 111 2 → 0 ≤ h174_0 111 3 → 0 ≤ h174_0 111 4 → TvN h h174_0 x1 p18_2 p174_2 → CHh h x1 p18_2 → (p174_0 = 0 → NtO p18_1 x2 p18_2 ∧ h 94 14 ≠ 0) → p174_1 = h 96 p18_2 → h174_0 111 2 = p18_2 / 80 → h174_0 111 3 = p18_2 / 4 % 20 → h174_0 111 4 = p18_2 % 4 → (∀ k j : Int, 0 ≤ k → (k < 94 ∨ 120 ≤ k ∧ k < 151) → h174_0 k j = h k j) → 21 - p174_2 ≤ (n : Int) → wp l rho (d + 4) 98 174 [(2, 94), (0, x1), (1, z174_l2), (9, 0), (2, r18_0), (0, p18_1), (0, p18_2), (0, p174_0), (0, p174_1), (0, p174_2)] [] h174_0 Q := by
        intro n
        induction n with
        | zero => intro z174_l2 p174_0 p174_1 p174_2 p174_3 h174_0 gh_174_0 q0_174_0 q1_174_0 q2_174_0 q3_174_0 q4_174_0 q5_174_0 q6_174_0 q7_174_0 q8_174_0 c94_13_174_0 n_Lst_174_0 n_Ln_174_0 n_Td_174_0 tl_174_0 le_174_0 lv_174_0 iw_174_0 ik_174_0 ic_174_0 tn_174_0 ch_174_0 nt_174_0 ol_174_0 s2_174_0 s3_174_0 s4_174_0 bf_174_0 hm_174_0; exfalso; omega
        | succ n ih_174_0 =>
          intro z174_l2 p174_0 p174_1 p174_2 p174_3 h174_0 gh_174_0 q0_174_0 q1_174_0 q2_174_0 q3_174_0 q4_174_0 q5_174_0 q6_174_0 q7_174_0 q8_174_0 c94_13_174_0 n_Lst_174_0 n_Ln_174_0 n_Td_174_0 tl_174_0 le_174_0 lv_174_0 iw_174_0 ik_174_0 ic_174_0 tn_174_0 ch_174_0 nt_174_0 ol_174_0 s2_174_0 s3_174_0 s4_174_0 bf_174_0 hm_174_0
          refine w_iload gz_98_174 rfl ?_
          refine w_bipush gz_98_176 (by decide) ?_
          refine w_icge (t := 296) gz_98_178 rfl (fun u1 => ?_) (fun u1 => ?_)
          ·
            refine w_aload_n gz_98_296 rfl ?_
            refine w_getX (v := 95) gz_98_297 is_94 rd_2 rfl (by decide) rfl ?_
            refine w_getX (v := 96) gz_98_300 is_95 rd_6 rfl (by decide) rfl ?_
            refine w_iload gz_98_303 rfl ?_
            refine w_iload gz_98_305 rfl ?_
            refine w_iast gz_98_307 is_96 rd_30 (by omega) (by omega) (by omega) (by omega) (fun h4 fh4 => ?_)
            have gh4 : my_fr [(2, 11), (7, 0), (7, 1), (7, 2), (7, 3), (7, 4), (7, 5), (8, 0), (8, 1), (30, -1), (42, -1), (43, -1), (44, -1)] h h4 := my_fr.up gh_174_0 is_96 fh4 rfl
            have Lst_h4 : Lst h4 := Lst_ag (my_ag.up fh4 is_96 rfl) n_Lst_174_0
            have Ln_h4 : Ln h4 := Ln_ag (my_ag.up fh4 is_96 rfl) n_Ln_174_0
            have Td_h4 : Td h4 x1 := Td_ag (my_ag.up fh4 is_96 rfl) n_Ln_174_0 n_Td_174_0
            refine w_iinc (ls' := [(2, 94), (0, x1), (1, z174_l2), (9, 0), (2, r18_0), (0, p18_1), (0, (p18_2 + 1)), (0, p174_0), (0, p174_1), (0, p174_2)]) gz_98_308 rfl gm_98 rfl rfl rfl ⟨by omega, by omega⟩ ?_
            refine w_goto (t := 18) gz_98_311 rfl ?_
            have ce5 : h4 94 11 = h174_0 94 11 := ((my_up_role fh4 is_94 is_96 rfl).trans (rfl : h174_0 94 11 = h174_0 94 11))
            have ce6 : h4 94 12 = h174_0 94 12 := ((my_up_role fh4 is_94 is_96 rfl).trans (rfl : h174_0 94 12 = h174_0 94 12))
            have ce7 : h4 94 13 = p174_3 := ((my_up_role fh4 is_94 is_96 rfl).trans c94_13_174_0)
            have ce8 : h4 94 14 = h174_0 94 14 := ((my_up_role fh4 is_94 is_96 rfl).trans (rfl : h174_0 94 14 = h174_0 94 14))
            have ce9 : h4 94 15 = h174_0 94 15 := ((my_up_role fh4 is_94 is_96 rfl).trans (rfl : h174_0 94 15 = h174_0 94 15))
            have ce10 : h4 94 16 = h174_0 94 16 := ((my_up_role fh4 is_94 is_96 rfl).trans (rfl : h174_0 94 16 = h174_0 94 16))
            have ce11 : h4 98 0 = h174_0 98 0 := ((my_up_role fh4 is_98 is_96 rfl).trans (rfl : h174_0 98 0 = h174_0 98 0))
            have ce12 : h4 98 1 = h174_0 98 1 := ((my_up_role fh4 is_98 is_96 rfl).trans (rfl : h174_0 98 1 = h174_0 98 1))
            have ce13 : h4 102 0 = h174_0 102 0 := ((my_up_role fh4 is_102 is_96 rfl).trans (rfl : h174_0 102 0 = h174_0 102 0))
            have ce14 : h4 102 1 = h174_0 102 1 := ((my_up_role fh4 is_102 is_96 rfl).trans (rfl : h174_0 102 1 = h174_0 102 1))
            have ce15 : h4 112 0 = h174_0 112 0 := ((my_up_role fh4 is_112 is_96 rfl).trans (rfl : h174_0 112 0 = h174_0 112 0))
            have ce16 : h4 112 1 = h174_0 112 1 := ((my_up_role fh4 is_112 is_96 rfl).trans (rfl : h174_0 112 1 = h174_0 112 1))
            have ce17 : h4 112 2 = h174_0 112 2 := ((my_up_role fh4 is_112 is_96 rfl).trans (rfl : h174_0 112 2 = h174_0 112 2))
            have ce18 : h4 112 3 = h174_0 112 3 := ((my_up_role fh4 is_112 is_96 rfl).trans (rfl : h174_0 112 3 = h174_0 112 3))
            have ce19 : h4 112 4 = h174_0 112 4 := ((my_up_role fh4 is_112 is_96 rfl).trans (rfl : h174_0 112 4 = h174_0 112 4))
            have ce20 : h4 112 5 = h174_0 112 5 := ((my_up_role fh4 is_112 is_96 rfl).trans (rfl : h174_0 112 5 = h174_0 112 5))
            have ce21 : h4 113 0 = h174_0 113 0 := ((my_up_role fh4 is_113 is_96 rfl).trans (rfl : h174_0 113 0 = h174_0 113 0))
            have ce22 : h4 113 1 = h174_0 113 1 := ((my_up_role fh4 is_113 is_96 rfl).trans (rfl : h174_0 113 1 = h174_0 113 1))
            have ce23 : h4 113 2 = h174_0 113 2 := ((my_up_role fh4 is_113 is_96 rfl).trans (rfl : h174_0 113 2 = h174_0 113 2))
            have ce24 : h4 113 3 = h174_0 113 3 := ((my_up_role fh4 is_113 is_96 rfl).trans (rfl : h174_0 113 3 = h174_0 113 3))
            have ce25 : h4 113 4 = h174_0 113 4 := ((my_up_role fh4 is_113 is_96 rfl).trans (rfl : h174_0 113 4 = h174_0 113 4))
            have ce26 : h4 113 5 = h174_0 113 5 := ((my_up_role fh4 is_113 is_96 rfl).trans (rfl : h174_0 113 5 = h174_0 113 5))
            have a96 : ∀ j : Int, h4 96 j = h4 96 j := fun j => rfl
            have a99 : ∀ j : Int, h4 99 j = h174_0 99 j := fun j => ((my_up_role fh4 is_99 is_96 rfl).trans (rfl : h174_0 99 j = h174_0 99 j))
            have a101 : ∀ j : Int, h4 101 j = h174_0 101 j := fun j => ((my_up_role fh4 is_101 is_96 rfl).trans (rfl : h174_0 101 j = h174_0 101 j))
            have a103 : ∀ j : Int, h4 103 j = h174_0 103 j := fun j => ((my_up_role fh4 is_103 is_96 rfl).trans (rfl : h174_0 103 j = h174_0 103 j))
            have bf9 : ∀ k j : Int, 0 ≤ k → (k < 94 ∨ 120 ≤ k ∧ k < 151) → h4 k j = h k j := fun k j k0 k1 => ((my_up_ne fh4 (by omega)).trans (bf_174_0 k j k0 k1))
            have kp9 : KpS h174_0 h4 := ⟨⟨by omega, by omega, by omega, by omega, by omega, by omega, by omega, by omega, a99, a101, a103⟩, ⟨by omega, by omega⟩, ⟨by omega, by omega, by omega, by omega, by omega, by omega⟩, ⟨by omega, by omega, by omega, by omega, by omega, by omega⟩⟩
            refine w_weak (ls' := [(2, 94), (0, x1), (1, z174_l2), (9, 0), (2, r18_0), (0, p18_1), (0, (p18_2 + 1)), (9, 0), (9, 0), (9, 0)]) (wk_e (wk_e (wk_e (wk_9 (wk_e (wk_e (wk_e (wk_9 (wk_9 (wk_9 wk_n)))))))))) ?_
            exact ih_18_0 (z174_l2) (r18_0) (p18_1) ((p18_2 + 1)) h4 (gh4) tr18_0_18_0 (by omega) (by omega) Lst_h4 Ln_h4 Td_h4 (by first | rfl | exact tl_18_0 | exact tl_174_0 | assumption | omega) (by first | exact le_18_0 | exact le_174_0 | assumption | omega) (by first | exact lv_18_0 | exact lv_174_0 | (rw [show r18_0 = h 27 x1 by omega] at lv0; exact lv0) | assumption | omega) (by first | exact TvO_0 hd | exact TvO_e (by omega) (by omega) (by omega) tn_174_0 (by first | exact Or.inl (by omega) | exact Or.inr ⟨by omega, by omega, by omega⟩) fh4 (by omega) | exact TvO_n (by omega) tv_18_0 a96 kp9 (Qn_ch (fun z => ch8 (chI.mpr z))) | exact TvO_n (by omega) tv_18_0 a96 kp9 (Qn_nt hk lv_18_0 htp (by omega) (by omega) nt8 (by omega)) | assumption | omega) (bf9) (by omega)
          ·
            refine w_aload_n gz_98_181 rfl ?_
            refine w_inv (k := 0) (as := []) (r := []) (x := 94) (ls0 := [(2, 94)]) gz_98_182 gm_100 rfl is_94 rd_2 rfl rfl rfl rfl rfl (c_Desk_isEnough5 (d := (d + 3))   (fun w27 w28 xp29 => ?_) (fun w30 xp31 => ?_))
            ·
              show wp l rho (d + 4) 98 185 [(2, 94), (0, x1), (1, z174_l2), (9, 0), (2, r18_0), (0, p18_1), (0, p18_2), (0, p174_0), (0, p174_1), (0, p174_2)] [(0, 0)] h174_0 Q
              have en8 := xp29
              refine w_ifne (t := 296) gz_98_185 rfl (fun u32 => by exfalso; omega) (fun u32 => ?_)
              have no8 : h174_0 94 13 = 0 ∨ h174_0 112 0 = -1 ∨ 1 < h174_0 112 0 := by first | assumption | exact Or.inl (by omega) | exact Or.inr (Or.inl (by omega)) | exact Or.inr (Or.inr (by omega))
              refine w_iload gz_98_188 rfl ?_
              refine w_iload gz_98_190 rfl ?_
              refine w_iceq (t := 290) gz_98_192 rfl (fun u33 => ?_) (fun u33 => ?_)
              ·
                refine w_iinc (ls' := [(2, 94), (0, x1), (1, z174_l2), (9, 0), (2, r18_0), (0, p18_1), (0, p18_2), (0, p174_0), (0, p174_1), (0, (p174_2 + 1))]) gz_98_290 rfl gm_98 rfl rfl rfl ⟨by omega, by omega⟩ ?_
                refine w_goto (t := 174) gz_98_293 rfl ?_
                have ce34 : h174_0 94 13 = p174_3 := c94_13_174_0
                have a96 : ∀ j : Int, h174_0 96 j = h174_0 96 j := fun _ => rfl
                have a99 : ∀ j : Int, h174_0 99 j = h174_0 99 j := fun _ => rfl
                have a101 : ∀ j : Int, h174_0 101 j = h174_0 101 j := fun _ => rfl
                have a103 : ∀ j : Int, h174_0 103 j = h174_0 103 j := fun _ => rfl
                have bf9 : ∀ k j : Int, 0 ≤ k → (k < 94 ∨ 120 ≤ k ∧ k < 151) → h174_0 k j = h k j := fun k j k0 k1 => (bf_174_0 k j k0 k1)
                have o96 : ∀ j : Int, j ≠ p18_2 → h174_0 96 j = h174_0 96 j := fun j hj => rfl
                have kp9 : KpS h174_0 h174_0 := KpS.rf
                exact ih_174_0 (z174_l2) (p174_0) (p174_1) ((p174_2 + 1)) (p174_3) h174_0 (gh_174_0) (by omega) (by omega) (by omega) (by omega) (by omega) (by omega) (by omega) (by omega) (by omega) (c94_13_174_0.trans (by omega)) n_Lst_174_0 n_Ln_174_0 n_Td_174_0 (by first | rfl | exact tl_18_0 | exact tl_174_0 | assumption | omega) (by first | exact le_18_0 | exact le_174_0 | assumption | omega) (by first | exact lv_18_0 | exact lv_174_0 | (rw [show r18_0 = h 27 x1 by omega] at lv0; exact lv0) | assumption | omega) (by first | assumption | omega | (subst_vars; omega) | omega) (by first | assumption | omega | (subst_vars; omega) | omega) (by first | assumption | omega | (subst_vars; omega) | omega) (by first | exact TvN_0 tv_18_0 a96 kp9 | exact TvN_n (by omega) tn_174_0 (fun _ _ => rfl) KpS.rf (Qn_eq (by omega)) | exact TvN_n (by omega) tn_174_0 (fun _ _ => rfl) KpS.rf (Qn_ok (fun z => al (alI.mpr z))) | exact TvN_n (by omega) tn_174_0 o96 kp9 (fun z => sa (qI.mpr z)) | exact TvN_y (by omega) tn_174_0 o96 kp7 no8 kpp sm9 (by omega) (by omega) (by omega) (by omega) q7 | assumption | omega) (by first | exact chI.mp ch8 | exact ch_174_0 | assumption | omega) (by first | (intro z; exfalso; omega) | (intro _; exact ⟨nt8, by omega⟩) | exact nt_174_0 | assumption | omega) (by first | exact ol8 | exact ol_174_0 | assumption | omega) (by first | assumption | omega | (subst_vars; omega) | omega) (by first | assumption | omega | (subst_vars; omega) | omega) (by first | assumption | omega | (subst_vars; omega) | omega) (bf9) (by omega)
              ·
                refine w_aload_n gz_98_195 rfl ?_
                refine w_getX (v := 1) gz_98_196 is_94 rd_2 rfl (by decide) rfl ?_
                refine w_aload_n gz_98_199 rfl ?_
                refine w_getX (v := 95) gz_98_200 is_94 rd_2 rfl (by decide) rfl ?_
                refine w_aload_n gz_98_203 rfl ?_
                refine w_getX (v := 111) gz_98_204 is_94 rd_2 rfl (by decide) rfl ?_
                refine v_getI (j := 2) gz_98_207 rfl is_111 rd_7 rfl (fun v38 ev38 pv38 qv38 => ?_)
                refine w_aload_n gz_98_210 rfl ?_
                refine w_getX (v := 111) gz_98_211 is_94 rd_2 rfl (by decide) rfl ?_
                refine v_getI (j := 3) gz_98_214 rfl is_111 rd_7 rfl (fun v40 ev40 pv40 qv40 => ?_)
                refine w_aload_n gz_98_217 rfl ?_
                refine w_getX (v := 111) gz_98_218 is_94 rd_2 rfl (by decide) rfl ?_
                refine v_getI (j := 4) gz_98_221 rfl is_111 rd_7 rfl (fun v42 ev42 pv42 qv42 => ?_)
                refine w_iload gz_98_224 rfl ?_
                have hi43 : 0 ≤ v38 := by omega
                have hi44 : v38 ≤ 2 := by omega
                have hi45 : 0 ≤ v40 := by omega
                have hi46 : v40 ≤ 19 := by omega
                have hi47 : 0 ≤ v42 := by omega
                have hi48 : v42 ≤ 3 := by omega
                refine w_inv (k := 1) (as := [(0, p174_2), (0, v42), (0, v40), (0, v38), (2, 95)]) (r := []) (x := 1) (ls0 := [(2, 1), (2, 95), (0, v38), (0, v40), (0, v42), (0, p174_2), (9, 0)]) gz_98_226 gm_102 rfl is_1 rd_3 rfl rfl rfl rfl rfl (c_Laws_allow5 (d := (d + 1)) (x1 := 95) (x2 := v38) (x3 := v40) (x4 := v42) (x5 := p174_2) is_95 (by omega) (by omega) (by omega) (by omega) (by omega) (by omega) (by omega) (by omega) (fun xp49 => ?_) (fun xp50 => ?_))
                ·
                  show wp l rho (d + 4) 98 229 [(2, 94), (0, x1), (1, z174_l2), (9, 0), (2, r18_0), (0, p18_1), (0, p18_2), (0, p174_0), (0, p174_1), (0, p174_2)] [(0, 0)] h174_0 Q
                  have al := xp49
                  have alI := Ok_i (u := p174_2) (a := v38) (b := v40) (c := v42) ch_174_0 (by omega) tn_174_0.1 (zqCA_e (fun j => my_fr.at gh_174_0 pis_2 rfl) (fun j => my_fr.at gh_174_0 pis_3 rfl) (fun j => my_fr.at gh_174_0 pis_4 rfl) (fun j => my_fr.at gh_174_0 pis_5 rfl) (fun j => my_fr.at gh_174_0 pis_6 rfl)) (by omega) (by omega) (by omega)
                  refine w_ifeq (t := 290) gz_98_229 rfl (fun u51 => ?_) (fun u51 => by exfalso; omega)
                  refine w_iinc (ls' := [(2, 94), (0, x1), (1, z174_l2), (9, 0), (2, r18_0), (0, p18_1), (0, p18_2), (0, p174_0), (0, p174_1), (0, (p174_2 + 1))]) gz_98_290 rfl gm_98 rfl rfl rfl ⟨by omega, by omega⟩ ?_
                  refine w_goto (t := 174) gz_98_293 rfl ?_
                  have ce52 : h174_0 111 2 = v38 := ev38.symm
                  have ce53 : h174_0 111 3 = v40 := ev40.symm
                  have ce54 : h174_0 111 4 = v42 := ev42.symm
                  have ce55 : h174_0 94 13 = p174_3 := c94_13_174_0
                  have a96 : ∀ j : Int, h174_0 96 j = h174_0 96 j := fun _ => rfl
                  have a99 : ∀ j : Int, h174_0 99 j = h174_0 99 j := fun _ => rfl
                  have a101 : ∀ j : Int, h174_0 101 j = h174_0 101 j := fun _ => rfl
                  have a103 : ∀ j : Int, h174_0 103 j = h174_0 103 j := fun _ => rfl
                  have bf9 : ∀ k j : Int, 0 ≤ k → (k < 94 ∨ 120 ≤ k ∧ k < 151) → h174_0 k j = h k j := fun k j k0 k1 => (bf_174_0 k j k0 k1)
                  have o96 : ∀ j : Int, j ≠ p18_2 → h174_0 96 j = h174_0 96 j := fun j hj => rfl
                  have kp9 : KpS h174_0 h174_0 := KpS.rf
                  exact ih_174_0 (z174_l2) (p174_0) (p174_1) ((p174_2 + 1)) (p174_3) h174_0 (gh_174_0) (by omega) (by omega) (by omega) (by omega) (by omega) (by omega) (by omega) (by omega) (by omega) (c94_13_174_0.trans (by omega)) n_Lst_174_0 n_Ln_174_0 n_Td_174_0 (by first | rfl | exact tl_18_0 | exact tl_174_0 | assumption | omega) (by first | exact le_18_0 | exact le_174_0 | assumption | omega) (by first | exact lv_18_0 | exact lv_174_0 | (rw [show r18_0 = h 27 x1 by omega] at lv0; exact lv0) | assumption | omega) (by first | assumption | omega | (subst_vars; omega) | omega) (by first | assumption | omega | (subst_vars; omega) | omega) (by first | assumption | omega | (subst_vars; omega) | omega) (by first | exact TvN_0 tv_18_0 a96 kp9 | exact TvN_n (by omega) tn_174_0 (fun _ _ => rfl) KpS.rf (Qn_eq (by omega)) | exact TvN_n (by omega) tn_174_0 (fun _ _ => rfl) KpS.rf (Qn_ok (fun z => al (alI.mpr z))) | exact TvN_n (by omega) tn_174_0 o96 kp9 (fun z => sa (qI.mpr z)) | exact TvN_y (by omega) tn_174_0 o96 kp7 no8 kpp sm9 (by omega) (by omega) (by omega) (by omega) q7 | assumption | omega) (by first | exact chI.mp ch8 | exact ch_174_0 | assumption | omega) (by first | (intro z; exfalso; omega) | (intro _; exact ⟨nt8, by omega⟩) | exact nt_174_0 | assumption | omega) (by first | exact ol8 | exact ol_174_0 | assumption | omega) (by first | assumption | omega | (subst_vars; omega) | omega) (by first | assumption | omega | (subst_vars; omega) | omega) (by first | assumption | omega | (subst_vars; omega) | omega) (bf9) (by omega)
                ·
                  show wp l rho (d + 4) 98 229 [(2, 94), (0, x1), (1, z174_l2), (9, 0), (2, r18_0), (0, p18_1), (0, p18_2), (0, p174_0), (0, p174_1), (0, p174_2)] [(0, 1)] h174_0 Q
                  have al := xp50
                  have alI := Ok_i (u := p174_2) (a := v38) (b := v40) (c := v42) ch_174_0 (by omega) tn_174_0.1 (zqCA_e (fun j => my_fr.at gh_174_0 pis_2 rfl) (fun j => my_fr.at gh_174_0 pis_3 rfl) (fun j => my_fr.at gh_174_0 pis_4 rfl) (fun j => my_fr.at gh_174_0 pis_5 rfl) (fun j => my_fr.at gh_174_0 pis_6 rfl)) (by omega) (by omega) (by omega)
                  refine w_ifeq (t := 290) gz_98_229 rfl (fun u56 => by exfalso; omega) (fun u56 => ?_)
                  refine w_aload_n gz_98_232 rfl ?_
                  refine w_getX (v := 95) gz_98_233 is_94 rd_2 rfl (by decide) rfl ?_
                  refine w_getX (v := 96) gz_98_236 is_95 rd_6 rfl (by decide) rfl ?_
                  refine w_iload gz_98_239 rfl ?_
                  refine w_iload gz_98_241 rfl ?_
                  refine w_iast gz_98_243 is_96 rd_30 (by omega) (by omega) (by omega) (by omega) (fun h59 fh59 => ?_)
                  have gh59 : my_fr [(2, 11), (7, 0), (7, 1), (7, 2), (7, 3), (7, 4), (7, 5), (8, 0), (8, 1), (30, -1), (42, -1), (43, -1), (44, -1)] h h59 := my_fr.up gh_174_0 is_96 fh59 rfl
                  have Lst_h59 : Lst h59 := Lst_ag (my_ag.up fh59 is_96 rfl) n_Lst_174_0
                  have Ln_h59 : Ln h59 := Ln_ag (my_ag.up fh59 is_96 rfl) n_Ln_174_0
                  have Td_h59 : Td h59 x1 := Td_ag (my_ag.up fh59 is_96 rfl) n_Ln_174_0 n_Td_174_0
                  refine w_iload gz_98_244 rfl ?_
                  refine w_ifeq (t := 275) gz_98_246 rfl (fun u60 => ?_) (fun u60 => ?_)
                  ·
                    refine w_aload_n gz_98_275 rfl ?_
                    refine w_getX (v := 111) gz_98_276 is_94 rd_2 rfl (by decide) rfl ?_
                    refine w_iload gz_98_279 rfl ?_
                    refine v_putI (j := 5) gz_98_281 rfl is_111 rd_7 rfl (by omega) (by omega) rfl (fun h62 fh62 => ?_)
                    have gh62 : my_fr [(2, 11), (7, 0), (7, 1), (7, 2), (7, 3), (7, 4), (7, 5), (8, 0), (8, 1), (30, -1), (42, -1), (43, -1), (44, -1)] h h62 := my_fr.up gh59 is_111 fh62 rfl
                    have Lst_h62 : Lst h62 := Lst_ne fh62 (by decide) Lst_h59
                    have Ln_h62 : Ln h62 := Ln_ag (my_ag.up fh62 is_111 rfl) Ln_h59
                    have Td_h62 : Td h62 x1 := Td_ag (my_ag.up fh62 is_111 rfl) Ln_h59 Td_h59
                    have ce63 : h62 111 2 = v38 := ((my_up_fld fh62 (by decide)).trans ((my_up_role fh59 is_111 is_96 rfl).trans ev38.symm))
                    have ce64 : h62 111 3 = v40 := ((my_up_fld fh62 (by decide)).trans ((my_up_role fh59 is_111 is_96 rfl).trans ev40.symm))
                    have ce65 : h62 111 4 = v42 := ((my_up_fld fh62 (by decide)).trans ((my_up_role fh59 is_111 is_96 rfl).trans ev42.symm))
                    have ce66 : h62 111 5 = p174_2 := (my_up_self fh62)
                    have ce67 : h62 94 11 = h174_0 94 11 := ((my_up_role fh62 is_94 is_111 rfl).trans ((my_up_role fh59 is_94 is_96 rfl).trans (rfl : h174_0 94 11 = h174_0 94 11)))
                    have ce68 : h62 94 12 = h174_0 94 12 := ((my_up_role fh62 is_94 is_111 rfl).trans ((my_up_role fh59 is_94 is_96 rfl).trans (rfl : h174_0 94 12 = h174_0 94 12)))
                    have ce69 : h62 94 13 = p174_3 := ((my_up_role fh62 is_94 is_111 rfl).trans ((my_up_role fh59 is_94 is_96 rfl).trans c94_13_174_0))
                    have ce70 : h62 94 14 = h174_0 94 14 := ((my_up_role fh62 is_94 is_111 rfl).trans ((my_up_role fh59 is_94 is_96 rfl).trans (rfl : h174_0 94 14 = h174_0 94 14)))
                    have ce71 : h62 94 15 = h174_0 94 15 := ((my_up_role fh62 is_94 is_111 rfl).trans ((my_up_role fh59 is_94 is_96 rfl).trans (rfl : h174_0 94 15 = h174_0 94 15)))
                    have ce72 : h62 94 16 = h174_0 94 16 := ((my_up_role fh62 is_94 is_111 rfl).trans ((my_up_role fh59 is_94 is_96 rfl).trans (rfl : h174_0 94 16 = h174_0 94 16)))
                    have ce73 : h62 98 0 = h174_0 98 0 := ((my_up_role fh62 is_98 is_111 rfl).trans ((my_up_role fh59 is_98 is_96 rfl).trans (rfl : h174_0 98 0 = h174_0 98 0)))
                    have ce74 : h62 98 1 = h174_0 98 1 := ((my_up_role fh62 is_98 is_111 rfl).trans ((my_up_role fh59 is_98 is_96 rfl).trans (rfl : h174_0 98 1 = h174_0 98 1)))
                    have ce75 : h62 102 0 = h174_0 102 0 := ((my_up_role fh62 is_102 is_111 rfl).trans ((my_up_role fh59 is_102 is_96 rfl).trans (rfl : h174_0 102 0 = h174_0 102 0)))
                    have ce76 : h62 102 1 = h174_0 102 1 := ((my_up_role fh62 is_102 is_111 rfl).trans ((my_up_role fh59 is_102 is_96 rfl).trans (rfl : h174_0 102 1 = h174_0 102 1)))
                    have ce77 : h62 112 0 = h174_0 112 0 := ((my_up_fld fh62 (by decide)).trans ((my_up_role fh59 is_112 is_96 rfl).trans (rfl : h174_0 112 0 = h174_0 112 0)))
                    have ce78 : h62 112 1 = h174_0 112 1 := ((my_up_fld fh62 (by decide)).trans ((my_up_role fh59 is_112 is_96 rfl).trans (rfl : h174_0 112 1 = h174_0 112 1)))
                    have ce79 : h62 112 2 = h174_0 112 2 := ((my_up_fld fh62 (by decide)).trans ((my_up_role fh59 is_112 is_96 rfl).trans (rfl : h174_0 112 2 = h174_0 112 2)))
                    have ce80 : h62 112 3 = h174_0 112 3 := ((my_up_fld fh62 (by decide)).trans ((my_up_role fh59 is_112 is_96 rfl).trans (rfl : h174_0 112 3 = h174_0 112 3)))
                    have ce81 : h62 112 4 = h174_0 112 4 := ((my_up_fld fh62 (by decide)).trans ((my_up_role fh59 is_112 is_96 rfl).trans (rfl : h174_0 112 4 = h174_0 112 4)))
                    have ce82 : h62 112 5 = h174_0 112 5 := ((my_up_ne fh62 (by omega)).trans ((my_up_role fh59 is_112 is_96 rfl).trans (rfl : h174_0 112 5 = h174_0 112 5)))
                    have ce83 : h62 113 0 = h174_0 113 0 := ((my_up_fld fh62 (by decide)).trans ((my_up_role fh59 is_113 is_96 rfl).trans (rfl : h174_0 113 0 = h174_0 113 0)))
                    have ce84 : h62 113 1 = h174_0 113 1 := ((my_up_fld fh62 (by decide)).trans ((my_up_role fh59 is_113 is_96 rfl).trans (rfl : h174_0 113 1 = h174_0 113 1)))
                    have ce85 : h62 113 2 = h174_0 113 2 := ((my_up_fld fh62 (by decide)).trans ((my_up_role fh59 is_113 is_96 rfl).trans (rfl : h174_0 113 2 = h174_0 113 2)))
                    have ce86 : h62 113 3 = h174_0 113 3 := ((my_up_fld fh62 (by decide)).trans ((my_up_role fh59 is_113 is_96 rfl).trans (rfl : h174_0 113 3 = h174_0 113 3)))
                    have ce87 : h62 113 4 = h174_0 113 4 := ((my_up_fld fh62 (by decide)).trans ((my_up_role fh59 is_113 is_96 rfl).trans (rfl : h174_0 113 4 = h174_0 113 4)))
                    have ce88 : h62 113 5 = h174_0 113 5 := ((my_up_ne fh62 (by omega)).trans ((my_up_role fh59 is_113 is_96 rfl).trans (rfl : h174_0 113 5 = h174_0 113 5)))
                    have a99 : ∀ j : Int, h62 99 j = h174_0 99 j := fun j => ((my_up_role fh62 is_99 is_111 rfl).trans ((my_up_role fh59 is_99 is_96 rfl).trans (rfl : h174_0 99 j = h174_0 99 j)))
                    have a101 : ∀ j : Int, h62 101 j = h174_0 101 j := fun j => ((my_up_role fh62 is_101 is_111 rfl).trans ((my_up_role fh59 is_101 is_96 rfl).trans (rfl : h174_0 101 j = h174_0 101 j)))
                    have a103 : ∀ j : Int, h62 103 j = h174_0 103 j := fun j => ((my_up_role fh62 is_103 is_111 rfl).trans ((my_up_role fh59 is_103 is_96 rfl).trans (rfl : h174_0 103 j = h174_0 103 j)))
                    have kp7 : KpS h174_0 h62 := ⟨⟨by omega, by omega, by omega, by omega, by omega, by omega, by omega, by omega, a99, a101, a103⟩, ⟨by omega, by omega⟩, ⟨by omega, by omega, by omega, by omega, by omega, by omega⟩, ⟨by omega, by omega, by omega, by omega, by omega, by omega⟩⟩
                    have hf7 : 0 ≤ h62 94 11 ∧ h62 94 11 ≤ 100000 := by
                      have q := TvN_f (by omega) (by omega) tn_174_0 no8
                      have e := kp7.2.1.1
                      omega
                    have q7 : Qh h x1 p18_2 p174_2 := by first | exact qI.mp sa | exact Q_nt hk lv_174_0 htp (by omega) (by omega) (nt_174_0 (by omega)).1 (nt_174_0 (by omega)).2 ch_174_0 (by omega) (alI.mp al)
                    refine w_aload_n gz_98_284 rfl ?_
                    refine w_iconst gz_98_285 (by decide) ?_
                    refine w_iconst gz_98_286 (by decide) ?_
                    refine w_inv (k := 0) (as := [(0, 1), (0, 1)]) (r := []) (x := 94) (ls0 := [(2, 94), (0, 1), (0, 1)]) gz_98_287 gm_94 rfl is_94 rd_2 rfl rfl rfl rfl rfl (c_Desk_keep5 (d := (d + 2)) (x1 := 1) (x2 := 1) (by omega) (by omega) (by omega) (by omega) Lst_h62 (by first | assumption | exact no_such_saying | exact Fp_told (by omega) (by omega) | omega | (subst_vars; omega) | omega) (by first | assumption | exact no_such_saying | exact Fp_told (by omega) (by omega) | omega | (subst_vars; omega) | omega) (by first | assumption | exact no_such_saying | exact Fp_told (by omega) (by omega) | omega | (subst_vars; omega) | omega) (hf7) (fun h89 frh89 w90 w91 xp92 xp93 xp94 xp95 xp96 Lst_h89t97 => ?_))
                    have gh89 : my_fr [(2, 11), (7, 0), (7, 1), (7, 2), (7, 3), (7, 4), (7, 5), (8, 0), (8, 1), (30, -1), (42, -1), (43, -1), (44, -1)] h h89 := my_fr.tr gh62 (frh89.mo rfl)
                    have Ln_h89 : Ln h89 := Ln_ag (my_ag.fr frh89 rfl) Ln_h62
                    have Td_h89 : Td h89 x1 := Td_ag (my_ag.fr frh89 rfl) Ln_h62 Td_h62
                    show wp l rho (d + 4) 98 290 [(2, 94), (0, x1), (1, z174_l2), (9, 0), (2, r18_0), (0, p18_1), (0, p18_2), (0, p174_0), (0, p174_1), (0, p174_2)] [] h89 Q
                    have kpp := xp96
                    have sm9 := SmV_keep frh89
                    refine w_iinc (ls' := [(2, 94), (0, x1), (1, z174_l2), (9, 0), (2, r18_0), (0, p18_1), (0, p18_2), (0, p174_0), (0, p174_1), (0, (p174_2 + 1))]) gz_98_290 rfl gm_98 rfl rfl rfl ⟨by omega, by omega⟩ ?_
                    refine w_goto (t := 174) gz_98_293 rfl ?_
                    have ce98 : h89 94 11 = (h89 94 11) := (rfl : h89 94 11 = h89 94 11)
                    have ce99 : h89 94 12 = h174_0 94 12 := ((my_fr.at frh89 is_94 rfl).trans ((my_up_role fh62 is_94 is_111 rfl).trans ((my_up_role fh59 is_94 is_96 rfl).trans (rfl : h174_0 94 12 = h174_0 94 12))))
                    have ce100 : h89 94 13 = p174_3 := ((my_fr.at frh89 is_94 rfl).trans ((my_up_role fh62 is_94 is_111 rfl).trans ((my_up_role fh59 is_94 is_96 rfl).trans c94_13_174_0)))
                    have ce101 : h89 94 14 = h174_0 94 14 := ((my_fr.at frh89 is_94 rfl).trans ((my_up_role fh62 is_94 is_111 rfl).trans ((my_up_role fh59 is_94 is_96 rfl).trans (rfl : h174_0 94 14 = h174_0 94 14))))
                    have ce102 : h89 94 15 = h174_0 94 15 := ((my_fr.at frh89 is_94 rfl).trans ((my_up_role fh62 is_94 is_111 rfl).trans ((my_up_role fh59 is_94 is_96 rfl).trans (rfl : h174_0 94 15 = h174_0 94 15))))
                    have ce103 : h89 94 16 = h174_0 94 16 := ((my_fr.at frh89 is_94 rfl).trans ((my_up_role fh62 is_94 is_111 rfl).trans ((my_up_role fh59 is_94 is_96 rfl).trans (rfl : h174_0 94 16 = h174_0 94 16))))
                    have ce104 : h89 98 0 = h174_0 98 0 := ((my_fr.at frh89 is_98 rfl).trans ((my_up_role fh62 is_98 is_111 rfl).trans ((my_up_role fh59 is_98 is_96 rfl).trans (rfl : h174_0 98 0 = h174_0 98 0))))
                    have ce105 : h89 98 1 = h174_0 98 1 := ((my_fr.at frh89 is_98 rfl).trans ((my_up_role fh62 is_98 is_111 rfl).trans ((my_up_role fh59 is_98 is_96 rfl).trans (rfl : h174_0 98 1 = h174_0 98 1))))
                    have ce106 : h89 102 0 = h174_0 102 0 := ((my_fr.at frh89 is_102 rfl).trans ((my_up_role fh62 is_102 is_111 rfl).trans ((my_up_role fh59 is_102 is_96 rfl).trans (rfl : h174_0 102 0 = h174_0 102 0))))
                    have ce107 : h89 102 1 = h174_0 102 1 := ((my_fr.at frh89 is_102 rfl).trans ((my_up_role fh62 is_102 is_111 rfl).trans ((my_up_role fh59 is_102 is_96 rfl).trans (rfl : h174_0 102 1 = h174_0 102 1))))
                    have a96 : ∀ j : Int, h89 96 j = h59 96 j := fun j => ((my_fr.at frh89 is_96 rfl).trans ((my_up_role fh62 is_96 is_111 rfl).trans (rfl : h59 96 j = h59 96 j)))
                    have a99 : ∀ j : Int, h89 99 j = h174_0 99 j := fun j => ((my_fr.at frh89 is_99 rfl).trans ((my_up_role fh62 is_99 is_111 rfl).trans ((my_up_role fh59 is_99 is_96 rfl).trans (rfl : h174_0 99 j = h174_0 99 j))))
                    have a101 : ∀ j : Int, h89 101 j = h174_0 101 j := fun j => ((my_fr.at frh89 is_101 rfl).trans ((my_up_role fh62 is_101 is_111 rfl).trans ((my_up_role fh59 is_101 is_96 rfl).trans (rfl : h174_0 101 j = h174_0 101 j))))
                    have a103 : ∀ j : Int, h89 103 j = h174_0 103 j := fun j => ((my_fr.at frh89 is_103 rfl).trans ((my_up_role fh62 is_103 is_111 rfl).trans ((my_up_role fh59 is_103 is_96 rfl).trans (rfl : h174_0 103 j = h174_0 103 j))))
                    have bf9 : ∀ k j : Int, 0 ≤ k → (k < 94 ∨ 120 ≤ k ∧ k < 151) → h89 k j = h k j := fun k j k0 k1 => (((bg_fr frh89 (by decide +kernel) k j k0 k1).trans ((my_up_ne fh62 (by omega)).trans (my_up_ne fh59 (by omega)))).trans (bf_174_0 k j k0 k1))
                    have o96 : ∀ j : Int, j ≠ p18_2 → h89 96 j = h174_0 96 j := fun j hj => ((my_fr.at frh89 is_96 rfl).trans ((my_up_ne fh62 (by omega)).trans (my_up_ne fh59 (by omega))))
                    exact ih_174_0 (z174_l2) (p174_0) (p174_1) ((p174_2 + 1)) (p174_3) h89 (gh89) (by omega) (by omega) (by omega) (by omega) (by omega) (by omega) (by omega) (by omega) (by omega) (((my_fr.at frh89 is_94 rfl).trans ((my_up_role fh62 is_94 is_111 rfl).trans ((my_up_role fh59 is_94 is_96 rfl).trans c94_13_174_0))).trans (by omega)) Lst_h89t97 Ln_h89 Td_h89 (by first | rfl | exact tl_18_0 | exact tl_174_0 | assumption | omega) (by first | exact le_18_0 | exact le_174_0 | assumption | omega) (by first | exact lv_18_0 | exact lv_174_0 | (rw [show r18_0 = h 27 x1 by omega] at lv0; exact lv0) | assumption | omega) (by first | assumption | omega | (subst_vars; omega) | omega) (by first | assumption | omega | (subst_vars; omega) | omega) (by first | assumption | omega | (subst_vars; omega) | omega) (by first | exact TvN_0 tv_18_0 a96 kp9 | exact TvN_n (by omega) tn_174_0 (fun _ _ => rfl) KpS.rf (Qn_eq (by omega)) | exact TvN_n (by omega) tn_174_0 (fun _ _ => rfl) KpS.rf (Qn_ok (fun z => al (alI.mpr z))) | exact TvN_n (by omega) tn_174_0 o96 kp9 (fun z => sa (qI.mpr z)) | exact TvN_y (by omega) tn_174_0 o96 kp7 no8 kpp sm9 (by omega) (by omega) (by omega) (by omega) q7 | assumption | omega) (by first | exact chI.mp ch8 | exact ch_174_0 | assumption | omega) (by first | (intro z; exfalso; omega) | (intro _; exact ⟨nt8, by omega⟩) | exact nt_174_0 | assumption | omega) (by first | exact ol8 | exact ol_174_0 | assumption | omega) (by first | assumption | omega | (subst_vars; omega) | omega) (by first | assumption | omega | (subst_vars; omega) | omega) (by first | assumption | omega | (subst_vars; omega) | omega) (bf9) (by omega)
                  ·
                    refine w_aload_n gz_98_249 rfl ?_
                    refine w_getX (v := 106) gz_98_250 is_94 rd_2 rfl (by decide) rfl ?_
                    refine w_aload_n gz_98_253 rfl ?_
                    refine w_getX (v := 27) gz_98_254 is_94 rd_2 rfl (by decide) rfl ?_
                    refine w_iload_n gz_98_257 rfl ?_
                    refine w_aload_n gz_98_258 rfl ?_
                    refine w_getX (v := 95) gz_98_259 is_94 rd_2 rfl (by decide) rfl ?_
                    have ag7 := my_ag.fr (F := LwF) gh59 rfl
                    have eu7 : h59 96 p18_2 = p174_2 := my_up_self fh59
                    have o96a : ∀ j : Int, j ≠ p18_2 → h59 96 j = h 96 j := fun j hj => (my_up_ne fh59 (by omega)).trans (tn_174_0.1 j hj)
                    have gd7 : zqGd (h59 96) := Gd_x hk ch_174_0 o96a eu7 (by omega) (by omega)
                    refine w_inv (k := 4) (as := [(2, 95), (0, x1), (2, 27)]) (r := []) (x := 106) (ls0 := [(2, 106), (2, 27), (0, x1), (2, 95), (9, 0), (9, 0), (9, 0), (9, 0)]) gz_98_262 gm_67 rfl is_106 rd_8 rfl rfl rfl rfl rfl (c_View_show6 (d := d) (x0 := 106) (x2 := x1) (x3 := 95) is_106 (by omega) (by omega) (by omega) (by omega) is_95 Ln_h59 Td_h59 (Lw_ag ag7 n_Ln hk.2.2.1) (gd7) (fun h111 v112 frh111 fxh111 w113 xp114 xp115 xp116 xp117 => ?_))
                    have gh111 : my_fr [(2, 11), (7, 0), (7, 1), (7, 2), (7, 3), (7, 4), (7, 5), (8, 0), (8, 1), (30, -1), (42, -1), (43, -1), (44, -1)] h h111 := my_fr.tr gh59 (frh111.mo rfl)
                    have Lst_h111 : Lst h111 := Lst_ag (my_ag.fr frh111 rfl) Lst_h59
                    have Ln_h111 : Ln h111 := Ln_ag (my_ag.fr frh111 rfl) Ln_h59
                    have Td_h111 : Td h111 x1 := Td_ag (my_ag.fr frh111 rfl) Ln_h59 Td_h59
                    show wp l rho (d + 4) 98 265 [(2, 94), (0, x1), (1, z174_l2), (9, 0), (2, r18_0), (0, p18_1), (0, p18_2), (0, p174_0), (0, p174_1), (0, p174_2)] [(2, v112)] h111 Q
                    have vs : VwI h111 106 (h59 96) (h59 (h59 27 x1) 2) (h59 (h59 27 x1) 3) (zqCW h59 x1) := xp115
                    have os := xp116
                    have ys := xp117
                    refine w_aload_n gz_98_265 rfl ?_
                    refine w_getX (v := 102) gz_98_266 is_94 rd_2 rfl (by decide) rfl ?_
                    have ce119 : h111 94 11 = h174_0 94 11 := ((my_fr.at frh111 is_94 rfl).trans ((my_up_role fh59 is_94 is_96 rfl).trans (rfl : h174_0 94 11 = h174_0 94 11)))
                    have ce120 : h111 94 12 = h174_0 94 12 := ((my_fr.at frh111 is_94 rfl).trans ((my_up_role fh59 is_94 is_96 rfl).trans (rfl : h174_0 94 12 = h174_0 94 12)))
                    have ce121 : h111 94 13 = p174_3 := ((my_fr.at frh111 is_94 rfl).trans ((my_up_role fh59 is_94 is_96 rfl).trans c94_13_174_0))
                    have ce122 : h111 94 14 = h174_0 94 14 := ((my_fr.at frh111 is_94 rfl).trans ((my_up_role fh59 is_94 is_96 rfl).trans (rfl : h174_0 94 14 = h174_0 94 14)))
                    have ce123 : h111 94 15 = h174_0 94 15 := ((my_fr.at frh111 is_94 rfl).trans ((my_up_role fh59 is_94 is_96 rfl).trans (rfl : h174_0 94 15 = h174_0 94 15)))
                    have ce124 : h111 94 16 = h174_0 94 16 := ((my_fr.at frh111 is_94 rfl).trans ((my_up_role fh59 is_94 is_96 rfl).trans (rfl : h174_0 94 16 = h174_0 94 16)))
                    have ce125 : h111 98 0 = h174_0 98 0 := ((my_fx.at fxh111 (by omega)).trans ((my_up_role fh59 is_98 is_96 rfl).trans (rfl : h174_0 98 0 = h174_0 98 0)))
                    have ce126 : h111 98 1 = h174_0 98 1 := ((my_fx.at fxh111 (by omega)).trans ((my_up_role fh59 is_98 is_96 rfl).trans (rfl : h174_0 98 1 = h174_0 98 1)))
                    have ce127 : h111 102 0 = h174_0 102 0 := ((my_fx.at fxh111 (by omega)).trans ((my_up_role fh59 is_102 is_96 rfl).trans (rfl : h174_0 102 0 = h174_0 102 0)))
                    have ce128 : h111 102 1 = h174_0 102 1 := ((my_fx.at fxh111 (by omega)).trans ((my_up_role fh59 is_102 is_96 rfl).trans (rfl : h174_0 102 1 = h174_0 102 1)))
                    have ce129 : h111 112 0 = h174_0 112 0 := ((my_fr.at frh111 is_112 rfl).trans ((my_up_role fh59 is_112 is_96 rfl).trans (rfl : h174_0 112 0 = h174_0 112 0)))
                    have ce130 : h111 112 1 = h174_0 112 1 := ((my_fr.at frh111 is_112 rfl).trans ((my_up_role fh59 is_112 is_96 rfl).trans (rfl : h174_0 112 1 = h174_0 112 1)))
                    have ce131 : h111 112 2 = h174_0 112 2 := ((my_fr.at frh111 is_112 rfl).trans ((my_up_role fh59 is_112 is_96 rfl).trans (rfl : h174_0 112 2 = h174_0 112 2)))
                    have ce132 : h111 112 3 = h174_0 112 3 := ((my_fr.at frh111 is_112 rfl).trans ((my_up_role fh59 is_112 is_96 rfl).trans (rfl : h174_0 112 3 = h174_0 112 3)))
                    have ce133 : h111 112 4 = h174_0 112 4 := ((my_fr.at frh111 is_112 rfl).trans ((my_up_role fh59 is_112 is_96 rfl).trans (rfl : h174_0 112 4 = h174_0 112 4)))
                    have ce134 : h111 112 5 = h174_0 112 5 := ((my_fr.at frh111 is_112 rfl).trans ((my_up_role fh59 is_112 is_96 rfl).trans (rfl : h174_0 112 5 = h174_0 112 5)))
                    have ce135 : h111 113 0 = h174_0 113 0 := ((my_fr.at frh111 is_113 rfl).trans ((my_up_role fh59 is_113 is_96 rfl).trans (rfl : h174_0 113 0 = h174_0 113 0)))
                    have ce136 : h111 113 1 = h174_0 113 1 := ((my_fr.at frh111 is_113 rfl).trans ((my_up_role fh59 is_113 is_96 rfl).trans (rfl : h174_0 113 1 = h174_0 113 1)))
                    have ce137 : h111 113 2 = h174_0 113 2 := ((my_fr.at frh111 is_113 rfl).trans ((my_up_role fh59 is_113 is_96 rfl).trans (rfl : h174_0 113 2 = h174_0 113 2)))
                    have ce138 : h111 113 3 = h174_0 113 3 := ((my_fr.at frh111 is_113 rfl).trans ((my_up_role fh59 is_113 is_96 rfl).trans (rfl : h174_0 113 3 = h174_0 113 3)))
                    have ce139 : h111 113 4 = h174_0 113 4 := ((my_fr.at frh111 is_113 rfl).trans ((my_up_role fh59 is_113 is_96 rfl).trans (rfl : h174_0 113 4 = h174_0 113 4)))
                    have ce140 : h111 113 5 = h174_0 113 5 := ((my_fr.at frh111 is_113 rfl).trans ((my_up_role fh59 is_113 is_96 rfl).trans (rfl : h174_0 113 5 = h174_0 113 5)))
                    have a99 : ∀ j : Int, h111 99 j = h174_0 99 j := fun j => ((my_fx.at fxh111 (by omega)).trans ((my_up_role fh59 is_99 is_96 rfl).trans (rfl : h174_0 99 j = h174_0 99 j)))
                    have a101 : ∀ j : Int, h111 101 j = h174_0 101 j := fun j => ((my_fx.at fxh111 (by omega)).trans ((my_up_role fh59 is_101 is_96 rfl).trans (rfl : h174_0 101 j = h174_0 101 j)))
                    have a103 : ∀ j : Int, h111 103 j = h174_0 103 j := fun j => ((my_fx.at fxh111 (by omega)).trans ((my_up_role fh59 is_103 is_96 rfl).trans (rfl : h174_0 103 j = h174_0 103 j)))
                    have sm8 : SmV h174_0 h111 := ⟨by omega, by omega, by omega, by omega, by omega, by omega, by omega, by omega, a99, a101, a103⟩
                    have smh := tn_174_0.2.1.tr sm8
                    have kw8 := SrC_w hk
                    refine w_inv (k := 1) (as := [(2, 102)]) (r := []) (x := v112) (ls0 := [(2, v112), (2, 102), (9, 0)]) gz_98_269 gm_93 rfl w113 rd_8 rfl rfl rfl rfl rfl (c_View_same5 (d := (d + 2)) (x0 := v112) (x1 := 102) w113 is_102 ((by rw [ys]; exact ShS_bd hk n_Ln ag7 gd7 vs)) (WtB_cg hk.2.2.2.2.2.2.1 smh.2.2.2.2.2.2.1 smh.2.2.2.2.2.2.2.1 (by omega) smh.2.2.2.2.2.2.2.2.2.2) (fun xp141 => ?_) (fun xp142 => ?_))
                    ·
                      show wp l rho (d + 4) 98 272 [(2, 94), (0, x1), (1, z174_l2), (9, 0), (2, r18_0), (0, p18_1), (0, p18_2), (0, p174_0), (0, p174_1), (0, p174_2)] [(0, 0)] h111 Q
                      have sa := xp141
                      rw [ys] at sa
                      have qI := Q_sh hk n_Ln ag7 smh o96a eu7 vs os ch_174_0 (by omega) (alI.mp al)
                      refine w_ifeq (t := 290) gz_98_272 rfl (fun u143 => ?_) (fun u143 => by exfalso; omega)
                      refine w_iinc (ls' := [(2, 94), (0, x1), (1, z174_l2), (9, 0), (2, r18_0), (0, p18_1), (0, p18_2), (0, p174_0), (0, p174_1), (0, (p174_2 + 1))]) gz_98_290 rfl gm_98 rfl rfl rfl ⟨by omega, by omega⟩ ?_
                      refine w_goto (t := 174) gz_98_293 rfl ?_
                      have ce144 : h111 111 2 = v38 := ((my_fr.at frh111 is_111 rfl).trans ((my_up_role fh59 is_111 is_96 rfl).trans ev38.symm))
                      have ce145 : h111 111 3 = v40 := ((my_fr.at frh111 is_111 rfl).trans ((my_up_role fh59 is_111 is_96 rfl).trans ev40.symm))
                      have ce146 : h111 111 4 = v42 := ((my_fr.at frh111 is_111 rfl).trans ((my_up_role fh59 is_111 is_96 rfl).trans ev42.symm))
                      have ce147 : h111 94 11 = h174_0 94 11 := ((my_fr.at frh111 is_94 rfl).trans ((my_up_role fh59 is_94 is_96 rfl).trans (rfl : h174_0 94 11 = h174_0 94 11)))
                      have ce148 : h111 94 12 = h174_0 94 12 := ((my_fr.at frh111 is_94 rfl).trans ((my_up_role fh59 is_94 is_96 rfl).trans (rfl : h174_0 94 12 = h174_0 94 12)))
                      have ce149 : h111 94 13 = p174_3 := ((my_fr.at frh111 is_94 rfl).trans ((my_up_role fh59 is_94 is_96 rfl).trans c94_13_174_0))
                      have ce150 : h111 94 14 = h174_0 94 14 := ((my_fr.at frh111 is_94 rfl).trans ((my_up_role fh59 is_94 is_96 rfl).trans (rfl : h174_0 94 14 = h174_0 94 14)))
                      have ce151 : h111 94 15 = h174_0 94 15 := ((my_fr.at frh111 is_94 rfl).trans ((my_up_role fh59 is_94 is_96 rfl).trans (rfl : h174_0 94 15 = h174_0 94 15)))
                      have ce152 : h111 94 16 = h174_0 94 16 := ((my_fr.at frh111 is_94 rfl).trans ((my_up_role fh59 is_94 is_96 rfl).trans (rfl : h174_0 94 16 = h174_0 94 16)))
                      have ce153 : h111 98 0 = h174_0 98 0 := ((my_fx.at fxh111 (by omega)).trans ((my_up_role fh59 is_98 is_96 rfl).trans (rfl : h174_0 98 0 = h174_0 98 0)))
                      have ce154 : h111 98 1 = h174_0 98 1 := ((my_fx.at fxh111 (by omega)).trans ((my_up_role fh59 is_98 is_96 rfl).trans (rfl : h174_0 98 1 = h174_0 98 1)))
                      have ce155 : h111 102 0 = h174_0 102 0 := ((my_fx.at fxh111 (by omega)).trans ((my_up_role fh59 is_102 is_96 rfl).trans (rfl : h174_0 102 0 = h174_0 102 0)))
                      have ce156 : h111 102 1 = h174_0 102 1 := ((my_fx.at fxh111 (by omega)).trans ((my_up_role fh59 is_102 is_96 rfl).trans (rfl : h174_0 102 1 = h174_0 102 1)))
                      have ce157 : h111 112 0 = h174_0 112 0 := ((my_fr.at frh111 is_112 rfl).trans ((my_up_role fh59 is_112 is_96 rfl).trans (rfl : h174_0 112 0 = h174_0 112 0)))
                      have ce158 : h111 112 1 = h174_0 112 1 := ((my_fr.at frh111 is_112 rfl).trans ((my_up_role fh59 is_112 is_96 rfl).trans (rfl : h174_0 112 1 = h174_0 112 1)))
                      have ce159 : h111 112 2 = h174_0 112 2 := ((my_fr.at frh111 is_112 rfl).trans ((my_up_role fh59 is_112 is_96 rfl).trans (rfl : h174_0 112 2 = h174_0 112 2)))
                      have ce160 : h111 112 3 = h174_0 112 3 := ((my_fr.at frh111 is_112 rfl).trans ((my_up_role fh59 is_112 is_96 rfl).trans (rfl : h174_0 112 3 = h174_0 112 3)))
                      have ce161 : h111 112 4 = h174_0 112 4 := ((my_fr.at frh111 is_112 rfl).trans ((my_up_role fh59 is_112 is_96 rfl).trans (rfl : h174_0 112 4 = h174_0 112 4)))
                      have ce162 : h111 112 5 = h174_0 112 5 := ((my_fr.at frh111 is_112 rfl).trans ((my_up_role fh59 is_112 is_96 rfl).trans (rfl : h174_0 112 5 = h174_0 112 5)))
                      have ce163 : h111 113 0 = h174_0 113 0 := ((my_fr.at frh111 is_113 rfl).trans ((my_up_role fh59 is_113 is_96 rfl).trans (rfl : h174_0 113 0 = h174_0 113 0)))
                      have ce164 : h111 113 1 = h174_0 113 1 := ((my_fr.at frh111 is_113 rfl).trans ((my_up_role fh59 is_113 is_96 rfl).trans (rfl : h174_0 113 1 = h174_0 113 1)))
                      have ce165 : h111 113 2 = h174_0 113 2 := ((my_fr.at frh111 is_113 rfl).trans ((my_up_role fh59 is_113 is_96 rfl).trans (rfl : h174_0 113 2 = h174_0 113 2)))
                      have ce166 : h111 113 3 = h174_0 113 3 := ((my_fr.at frh111 is_113 rfl).trans ((my_up_role fh59 is_113 is_96 rfl).trans (rfl : h174_0 113 3 = h174_0 113 3)))
                      have ce167 : h111 113 4 = h174_0 113 4 := ((my_fr.at frh111 is_113 rfl).trans ((my_up_role fh59 is_113 is_96 rfl).trans (rfl : h174_0 113 4 = h174_0 113 4)))
                      have ce168 : h111 113 5 = h174_0 113 5 := ((my_fr.at frh111 is_113 rfl).trans ((my_up_role fh59 is_113 is_96 rfl).trans (rfl : h174_0 113 5 = h174_0 113 5)))
                      have a96 : ∀ j : Int, h111 96 j = h59 96 j := fun j => ((my_fr.at frh111 is_96 rfl).trans (rfl : h59 96 j = h59 96 j))
                      have a99 : ∀ j : Int, h111 99 j = h174_0 99 j := fun j => ((my_fx.at fxh111 (by omega)).trans ((my_up_role fh59 is_99 is_96 rfl).trans (rfl : h174_0 99 j = h174_0 99 j)))
                      have a101 : ∀ j : Int, h111 101 j = h174_0 101 j := fun j => ((my_fx.at fxh111 (by omega)).trans ((my_up_role fh59 is_101 is_96 rfl).trans (rfl : h174_0 101 j = h174_0 101 j)))
                      have a103 : ∀ j : Int, h111 103 j = h174_0 103 j := fun j => ((my_fx.at fxh111 (by omega)).trans ((my_up_role fh59 is_103 is_96 rfl).trans (rfl : h174_0 103 j = h174_0 103 j)))
                      have bf9 : ∀ k j : Int, 0 ≤ k → (k < 94 ∨ 120 ≤ k ∧ k < 151) → h111 k j = h k j := fun k j k0 k1 => (((my_fx.at fxh111 (by omega)).trans (my_up_ne fh59 (by omega))).trans (bf_174_0 k j k0 k1))
                      have o96 : ∀ j : Int, j ≠ p18_2 → h111 96 j = h174_0 96 j := fun j hj => ((my_fr.at frh111 is_96 rfl).trans (my_up_ne fh59 (by omega)))
                      have kp9 : KpS h174_0 h111 := ⟨⟨by omega, by omega, by omega, by omega, by omega, by omega, by omega, by omega, a99, a101, a103⟩, ⟨by omega, by omega⟩, ⟨by omega, by omega, by omega, by omega, by omega, by omega⟩, ⟨by omega, by omega, by omega, by omega, by omega, by omega⟩⟩
                      exact ih_174_0 (z174_l2) (p174_0) (p174_1) ((p174_2 + 1)) (p174_3) h111 (gh111) (by omega) (by omega) (by omega) (by omega) (by omega) (by omega) (by omega) (by omega) (by omega) (((my_fr.at frh111 is_94 rfl).trans ((my_up_role fh59 is_94 is_96 rfl).trans c94_13_174_0)).trans (by omega)) Lst_h111 Ln_h111 Td_h111 (by first | rfl | exact tl_18_0 | exact tl_174_0 | assumption | omega) (by first | exact le_18_0 | exact le_174_0 | assumption | omega) (by first | exact lv_18_0 | exact lv_174_0 | (rw [show r18_0 = h 27 x1 by omega] at lv0; exact lv0) | assumption | omega) (by first | assumption | omega | (subst_vars; omega) | omega) (by first | assumption | omega | (subst_vars; omega) | omega) (by first | assumption | omega | (subst_vars; omega) | omega) (by first | exact TvN_0 tv_18_0 a96 kp9 | exact TvN_n (by omega) tn_174_0 (fun _ _ => rfl) KpS.rf (Qn_eq (by omega)) | exact TvN_n (by omega) tn_174_0 (fun _ _ => rfl) KpS.rf (Qn_ok (fun z => al (alI.mpr z))) | exact TvN_n (by omega) tn_174_0 o96 kp9 (fun z => sa (qI.mpr z)) | exact TvN_y (by omega) tn_174_0 o96 kp7 no8 kpp sm9 (by omega) (by omega) (by omega) (by omega) q7 | assumption | omega) (by first | exact chI.mp ch8 | exact ch_174_0 | assumption | omega) (by first | (intro z; exfalso; omega) | (intro _; exact ⟨nt8, by omega⟩) | exact nt_174_0 | assumption | omega) (by first | exact ol8 | exact ol_174_0 | assumption | omega) (by first | assumption | omega | (subst_vars; omega) | omega) (by first | assumption | omega | (subst_vars; omega) | omega) (by first | assumption | omega | (subst_vars; omega) | omega) (bf9) (by omega)
                    ·
                      show wp l rho (d + 4) 98 272 [(2, 94), (0, x1), (1, z174_l2), (9, 0), (2, r18_0), (0, p18_1), (0, p18_2), (0, p174_0), (0, p174_1), (0, p174_2)] [(0, 1)] h111 Q
                      have sa := xp142
                      rw [ys] at sa
                      have qI := Q_sh hk n_Ln ag7 smh o96a eu7 vs os ch_174_0 (by omega) (alI.mp al)
                      refine w_ifeq (t := 290) gz_98_272 rfl (fun u169 => by exfalso; omega) (fun u169 => ?_)
                      refine w_aload_n gz_98_275 rfl ?_
                      refine w_getX (v := 111) gz_98_276 is_94 rd_2 rfl (by decide) rfl ?_
                      refine w_iload gz_98_279 rfl ?_
                      refine v_putI (j := 5) gz_98_281 rfl is_111 rd_7 rfl (by omega) (by omega) rfl (fun h171 fh171 => ?_)
                      have gh171 : my_fr [(2, 11), (7, 0), (7, 1), (7, 2), (7, 3), (7, 4), (7, 5), (8, 0), (8, 1), (30, -1), (42, -1), (43, -1), (44, -1)] h h171 := my_fr.up gh111 is_111 fh171 rfl
                      have Lst_h171 : Lst h171 := Lst_ne fh171 (by decide) Lst_h111
                      have Ln_h171 : Ln h171 := Ln_ag (my_ag.up fh171 is_111 rfl) Ln_h111
                      have Td_h171 : Td h171 x1 := Td_ag (my_ag.up fh171 is_111 rfl) Ln_h111 Td_h111
                      have ce172 : h171 111 2 = v38 := ((my_up_fld fh171 (by decide)).trans ((my_fr.at frh111 is_111 rfl).trans ((my_up_role fh59 is_111 is_96 rfl).trans ev38.symm)))
                      have ce173 : h171 111 3 = v40 := ((my_up_fld fh171 (by decide)).trans ((my_fr.at frh111 is_111 rfl).trans ((my_up_role fh59 is_111 is_96 rfl).trans ev40.symm)))
                      have ce174 : h171 111 4 = v42 := ((my_up_fld fh171 (by decide)).trans ((my_fr.at frh111 is_111 rfl).trans ((my_up_role fh59 is_111 is_96 rfl).trans ev42.symm)))
                      have ce175 : h171 111 5 = p174_2 := (my_up_self fh171)
                      have ce176 : h171 94 11 = h174_0 94 11 := ((my_up_role fh171 is_94 is_111 rfl).trans ((my_fr.at frh111 is_94 rfl).trans ((my_up_role fh59 is_94 is_96 rfl).trans (rfl : h174_0 94 11 = h174_0 94 11))))
                      have ce177 : h171 94 12 = h174_0 94 12 := ((my_up_role fh171 is_94 is_111 rfl).trans ((my_fr.at frh111 is_94 rfl).trans ((my_up_role fh59 is_94 is_96 rfl).trans (rfl : h174_0 94 12 = h174_0 94 12))))
                      have ce178 : h171 94 13 = p174_3 := ((my_up_role fh171 is_94 is_111 rfl).trans ((my_fr.at frh111 is_94 rfl).trans ((my_up_role fh59 is_94 is_96 rfl).trans c94_13_174_0)))
                      have ce179 : h171 94 14 = h174_0 94 14 := ((my_up_role fh171 is_94 is_111 rfl).trans ((my_fr.at frh111 is_94 rfl).trans ((my_up_role fh59 is_94 is_96 rfl).trans (rfl : h174_0 94 14 = h174_0 94 14))))
                      have ce180 : h171 94 15 = h174_0 94 15 := ((my_up_role fh171 is_94 is_111 rfl).trans ((my_fr.at frh111 is_94 rfl).trans ((my_up_role fh59 is_94 is_96 rfl).trans (rfl : h174_0 94 15 = h174_0 94 15))))
                      have ce181 : h171 94 16 = h174_0 94 16 := ((my_up_role fh171 is_94 is_111 rfl).trans ((my_fr.at frh111 is_94 rfl).trans ((my_up_role fh59 is_94 is_96 rfl).trans (rfl : h174_0 94 16 = h174_0 94 16))))
                      have ce182 : h171 98 0 = h174_0 98 0 := ((my_up_role fh171 is_98 is_111 rfl).trans ((my_fx.at fxh111 (by omega)).trans ((my_up_role fh59 is_98 is_96 rfl).trans (rfl : h174_0 98 0 = h174_0 98 0))))
                      have ce183 : h171 98 1 = h174_0 98 1 := ((my_up_role fh171 is_98 is_111 rfl).trans ((my_fx.at fxh111 (by omega)).trans ((my_up_role fh59 is_98 is_96 rfl).trans (rfl : h174_0 98 1 = h174_0 98 1))))
                      have ce184 : h171 102 0 = h174_0 102 0 := ((my_up_role fh171 is_102 is_111 rfl).trans ((my_fx.at fxh111 (by omega)).trans ((my_up_role fh59 is_102 is_96 rfl).trans (rfl : h174_0 102 0 = h174_0 102 0))))
                      have ce185 : h171 102 1 = h174_0 102 1 := ((my_up_role fh171 is_102 is_111 rfl).trans ((my_fx.at fxh111 (by omega)).trans ((my_up_role fh59 is_102 is_96 rfl).trans (rfl : h174_0 102 1 = h174_0 102 1))))
                      have ce186 : h171 112 0 = h174_0 112 0 := ((my_up_fld fh171 (by decide)).trans ((my_fr.at frh111 is_112 rfl).trans ((my_up_role fh59 is_112 is_96 rfl).trans (rfl : h174_0 112 0 = h174_0 112 0))))
                      have ce187 : h171 112 1 = h174_0 112 1 := ((my_up_fld fh171 (by decide)).trans ((my_fr.at frh111 is_112 rfl).trans ((my_up_role fh59 is_112 is_96 rfl).trans (rfl : h174_0 112 1 = h174_0 112 1))))
                      have ce188 : h171 112 2 = h174_0 112 2 := ((my_up_fld fh171 (by decide)).trans ((my_fr.at frh111 is_112 rfl).trans ((my_up_role fh59 is_112 is_96 rfl).trans (rfl : h174_0 112 2 = h174_0 112 2))))
                      have ce189 : h171 112 3 = h174_0 112 3 := ((my_up_fld fh171 (by decide)).trans ((my_fr.at frh111 is_112 rfl).trans ((my_up_role fh59 is_112 is_96 rfl).trans (rfl : h174_0 112 3 = h174_0 112 3))))
                      have ce190 : h171 112 4 = h174_0 112 4 := ((my_up_fld fh171 (by decide)).trans ((my_fr.at frh111 is_112 rfl).trans ((my_up_role fh59 is_112 is_96 rfl).trans (rfl : h174_0 112 4 = h174_0 112 4))))
                      have ce191 : h171 112 5 = h174_0 112 5 := ((my_up_ne fh171 (by omega)).trans ((my_fr.at frh111 is_112 rfl).trans ((my_up_role fh59 is_112 is_96 rfl).trans (rfl : h174_0 112 5 = h174_0 112 5))))
                      have ce192 : h171 113 0 = h174_0 113 0 := ((my_up_fld fh171 (by decide)).trans ((my_fr.at frh111 is_113 rfl).trans ((my_up_role fh59 is_113 is_96 rfl).trans (rfl : h174_0 113 0 = h174_0 113 0))))
                      have ce193 : h171 113 1 = h174_0 113 1 := ((my_up_fld fh171 (by decide)).trans ((my_fr.at frh111 is_113 rfl).trans ((my_up_role fh59 is_113 is_96 rfl).trans (rfl : h174_0 113 1 = h174_0 113 1))))
                      have ce194 : h171 113 2 = h174_0 113 2 := ((my_up_fld fh171 (by decide)).trans ((my_fr.at frh111 is_113 rfl).trans ((my_up_role fh59 is_113 is_96 rfl).trans (rfl : h174_0 113 2 = h174_0 113 2))))
                      have ce195 : h171 113 3 = h174_0 113 3 := ((my_up_fld fh171 (by decide)).trans ((my_fr.at frh111 is_113 rfl).trans ((my_up_role fh59 is_113 is_96 rfl).trans (rfl : h174_0 113 3 = h174_0 113 3))))
                      have ce196 : h171 113 4 = h174_0 113 4 := ((my_up_fld fh171 (by decide)).trans ((my_fr.at frh111 is_113 rfl).trans ((my_up_role fh59 is_113 is_96 rfl).trans (rfl : h174_0 113 4 = h174_0 113 4))))
                      have ce197 : h171 113 5 = h174_0 113 5 := ((my_up_ne fh171 (by omega)).trans ((my_fr.at frh111 is_113 rfl).trans ((my_up_role fh59 is_113 is_96 rfl).trans (rfl : h174_0 113 5 = h174_0 113 5))))
                      have a99 : ∀ j : Int, h171 99 j = h174_0 99 j := fun j => ((my_up_role fh171 is_99 is_111 rfl).trans ((my_fx.at fxh111 (by omega)).trans ((my_up_role fh59 is_99 is_96 rfl).trans (rfl : h174_0 99 j = h174_0 99 j))))
                      have a101 : ∀ j : Int, h171 101 j = h174_0 101 j := fun j => ((my_up_role fh171 is_101 is_111 rfl).trans ((my_fx.at fxh111 (by omega)).trans ((my_up_role fh59 is_101 is_96 rfl).trans (rfl : h174_0 101 j = h174_0 101 j))))
                      have a103 : ∀ j : Int, h171 103 j = h174_0 103 j := fun j => ((my_up_role fh171 is_103 is_111 rfl).trans ((my_fx.at fxh111 (by omega)).trans ((my_up_role fh59 is_103 is_96 rfl).trans (rfl : h174_0 103 j = h174_0 103 j))))
                      have kp7 : KpS h174_0 h171 := ⟨⟨by omega, by omega, by omega, by omega, by omega, by omega, by omega, by omega, a99, a101, a103⟩, ⟨by omega, by omega⟩, ⟨by omega, by omega, by omega, by omega, by omega, by omega⟩, ⟨by omega, by omega, by omega, by omega, by omega, by omega⟩⟩
                      have hf7 : 0 ≤ h171 94 11 ∧ h171 94 11 ≤ 100000 := by
                        have q := TvN_f (by omega) (by omega) tn_174_0 no8
                        have e := kp7.2.1.1
                        omega
                      have q7 : Qh h x1 p18_2 p174_2 := by first | exact qI.mp sa | exact Q_nt hk lv_174_0 htp (by omega) (by omega) (nt_174_0 (by omega)).1 (nt_174_0 (by omega)).2 ch_174_0 (by omega) (alI.mp al)
                      refine w_aload_n gz_98_284 rfl ?_
                      refine w_iconst gz_98_285 (by decide) ?_
                      refine w_iconst gz_98_286 (by decide) ?_
                      refine w_inv (k := 0) (as := [(0, 1), (0, 1)]) (r := []) (x := 94) (ls0 := [(2, 94), (0, 1), (0, 1)]) gz_98_287 gm_94 rfl is_94 rd_2 rfl rfl rfl rfl rfl (c_Desk_keep5 (d := (d + 2)) (x1 := 1) (x2 := 1) (by omega) (by omega) (by omega) (by omega) Lst_h171 (by first | assumption | exact no_such_saying | exact Fp_told (by omega) (by omega) | omega | (subst_vars; omega) | omega) (by first | assumption | exact no_such_saying | exact Fp_told (by omega) (by omega) | omega | (subst_vars; omega) | omega) (by first | assumption | exact no_such_saying | exact Fp_told (by omega) (by omega) | omega | (subst_vars; omega) | omega) (hf7) (fun h198 frh198 w199 w200 xp201 xp202 xp203 xp204 xp205 Lst_h198t206 => ?_))
                      have gh198 : my_fr [(2, 11), (7, 0), (7, 1), (7, 2), (7, 3), (7, 4), (7, 5), (8, 0), (8, 1), (30, -1), (42, -1), (43, -1), (44, -1)] h h198 := my_fr.tr gh171 (frh198.mo rfl)
                      have Ln_h198 : Ln h198 := Ln_ag (my_ag.fr frh198 rfl) Ln_h171
                      have Td_h198 : Td h198 x1 := Td_ag (my_ag.fr frh198 rfl) Ln_h171 Td_h171
                      show wp l rho (d + 4) 98 290 [(2, 94), (0, x1), (1, z174_l2), (9, 0), (2, r18_0), (0, p18_1), (0, p18_2), (0, p174_0), (0, p174_1), (0, p174_2)] [] h198 Q
                      have kpp := xp205
                      have sm9 := SmV_keep frh198
                      refine w_iinc (ls' := [(2, 94), (0, x1), (1, z174_l2), (9, 0), (2, r18_0), (0, p18_1), (0, p18_2), (0, p174_0), (0, p174_1), (0, (p174_2 + 1))]) gz_98_290 rfl gm_98 rfl rfl rfl ⟨by omega, by omega⟩ ?_
                      refine w_goto (t := 174) gz_98_293 rfl ?_
                      have ce207 : h198 94 11 = (h198 94 11) := (rfl : h198 94 11 = h198 94 11)
                      have ce208 : h198 94 12 = h174_0 94 12 := ((my_fr.at frh198 is_94 rfl).trans ((my_up_role fh171 is_94 is_111 rfl).trans ((my_fr.at frh111 is_94 rfl).trans ((my_up_role fh59 is_94 is_96 rfl).trans (rfl : h174_0 94 12 = h174_0 94 12)))))
                      have ce209 : h198 94 13 = p174_3 := ((my_fr.at frh198 is_94 rfl).trans ((my_up_role fh171 is_94 is_111 rfl).trans ((my_fr.at frh111 is_94 rfl).trans ((my_up_role fh59 is_94 is_96 rfl).trans c94_13_174_0))))
                      have ce210 : h198 94 14 = h174_0 94 14 := ((my_fr.at frh198 is_94 rfl).trans ((my_up_role fh171 is_94 is_111 rfl).trans ((my_fr.at frh111 is_94 rfl).trans ((my_up_role fh59 is_94 is_96 rfl).trans (rfl : h174_0 94 14 = h174_0 94 14)))))
                      have ce211 : h198 94 15 = h174_0 94 15 := ((my_fr.at frh198 is_94 rfl).trans ((my_up_role fh171 is_94 is_111 rfl).trans ((my_fr.at frh111 is_94 rfl).trans ((my_up_role fh59 is_94 is_96 rfl).trans (rfl : h174_0 94 15 = h174_0 94 15)))))
                      have ce212 : h198 94 16 = h174_0 94 16 := ((my_fr.at frh198 is_94 rfl).trans ((my_up_role fh171 is_94 is_111 rfl).trans ((my_fr.at frh111 is_94 rfl).trans ((my_up_role fh59 is_94 is_96 rfl).trans (rfl : h174_0 94 16 = h174_0 94 16)))))
                      have ce213 : h198 98 0 = h174_0 98 0 := ((my_fr.at frh198 is_98 rfl).trans ((my_up_role fh171 is_98 is_111 rfl).trans ((my_fx.at fxh111 (by omega)).trans ((my_up_role fh59 is_98 is_96 rfl).trans (rfl : h174_0 98 0 = h174_0 98 0)))))
                      have ce214 : h198 98 1 = h174_0 98 1 := ((my_fr.at frh198 is_98 rfl).trans ((my_up_role fh171 is_98 is_111 rfl).trans ((my_fx.at fxh111 (by omega)).trans ((my_up_role fh59 is_98 is_96 rfl).trans (rfl : h174_0 98 1 = h174_0 98 1)))))
                      have ce215 : h198 102 0 = h174_0 102 0 := ((my_fr.at frh198 is_102 rfl).trans ((my_up_role fh171 is_102 is_111 rfl).trans ((my_fx.at fxh111 (by omega)).trans ((my_up_role fh59 is_102 is_96 rfl).trans (rfl : h174_0 102 0 = h174_0 102 0)))))
                      have ce216 : h198 102 1 = h174_0 102 1 := ((my_fr.at frh198 is_102 rfl).trans ((my_up_role fh171 is_102 is_111 rfl).trans ((my_fx.at fxh111 (by omega)).trans ((my_up_role fh59 is_102 is_96 rfl).trans (rfl : h174_0 102 1 = h174_0 102 1)))))
                      have a96 : ∀ j : Int, h198 96 j = h59 96 j := fun j => ((my_fr.at frh198 is_96 rfl).trans ((my_up_role fh171 is_96 is_111 rfl).trans ((my_fr.at frh111 is_96 rfl).trans (rfl : h59 96 j = h59 96 j))))
                      have a99 : ∀ j : Int, h198 99 j = h174_0 99 j := fun j => ((my_fr.at frh198 is_99 rfl).trans ((my_up_role fh171 is_99 is_111 rfl).trans ((my_fx.at fxh111 (by omega)).trans ((my_up_role fh59 is_99 is_96 rfl).trans (rfl : h174_0 99 j = h174_0 99 j)))))
                      have a101 : ∀ j : Int, h198 101 j = h174_0 101 j := fun j => ((my_fr.at frh198 is_101 rfl).trans ((my_up_role fh171 is_101 is_111 rfl).trans ((my_fx.at fxh111 (by omega)).trans ((my_up_role fh59 is_101 is_96 rfl).trans (rfl : h174_0 101 j = h174_0 101 j)))))
                      have a103 : ∀ j : Int, h198 103 j = h174_0 103 j := fun j => ((my_fr.at frh198 is_103 rfl).trans ((my_up_role fh171 is_103 is_111 rfl).trans ((my_fx.at fxh111 (by omega)).trans ((my_up_role fh59 is_103 is_96 rfl).trans (rfl : h174_0 103 j = h174_0 103 j)))))
                      have bf9 : ∀ k j : Int, 0 ≤ k → (k < 94 ∨ 120 ≤ k ∧ k < 151) → h198 k j = h k j := fun k j k0 k1 => (((bg_fr frh198 (by decide +kernel) k j k0 k1).trans ((my_up_ne fh171 (by omega)).trans ((my_fx.at fxh111 (by omega)).trans (my_up_ne fh59 (by omega))))).trans (bf_174_0 k j k0 k1))
                      have o96 : ∀ j : Int, j ≠ p18_2 → h198 96 j = h174_0 96 j := fun j hj => ((my_fr.at frh198 is_96 rfl).trans ((my_up_ne fh171 (by omega)).trans ((my_fr.at frh111 is_96 rfl).trans (my_up_ne fh59 (by omega)))))
                      exact ih_174_0 (z174_l2) (p174_0) (p174_1) ((p174_2 + 1)) (p174_3) h198 (gh198) (by omega) (by omega) (by omega) (by omega) (by omega) (by omega) (by omega) (by omega) (by omega) (((my_fr.at frh198 is_94 rfl).trans ((my_up_role fh171 is_94 is_111 rfl).trans ((my_fr.at frh111 is_94 rfl).trans ((my_up_role fh59 is_94 is_96 rfl).trans c94_13_174_0)))).trans (by omega)) Lst_h198t206 Ln_h198 Td_h198 (by first | rfl | exact tl_18_0 | exact tl_174_0 | assumption | omega) (by first | exact le_18_0 | exact le_174_0 | assumption | omega) (by first | exact lv_18_0 | exact lv_174_0 | (rw [show r18_0 = h 27 x1 by omega] at lv0; exact lv0) | assumption | omega) (by first | assumption | omega | (subst_vars; omega) | omega) (by first | assumption | omega | (subst_vars; omega) | omega) (by first | assumption | omega | (subst_vars; omega) | omega) (by first | exact TvN_0 tv_18_0 a96 kp9 | exact TvN_n (by omega) tn_174_0 (fun _ _ => rfl) KpS.rf (Qn_eq (by omega)) | exact TvN_n (by omega) tn_174_0 (fun _ _ => rfl) KpS.rf (Qn_ok (fun z => al (alI.mpr z))) | exact TvN_n (by omega) tn_174_0 o96 kp9 (fun z => sa (qI.mpr z)) | exact TvN_y (by omega) tn_174_0 o96 kp7 no8 kpp sm9 (by omega) (by omega) (by omega) (by omega) q7 | assumption | omega) (by first | exact chI.mp ch8 | exact ch_174_0 | assumption | omega) (by first | (intro z; exfalso; omega) | (intro _; exact ⟨nt8, by omega⟩) | exact nt_174_0 | assumption | omega) (by first | exact ol8 | exact ol_174_0 | assumption | omega) (by first | assumption | omega | (subst_vars; omega) | omega) (by first | assumption | omega | (subst_vars; omega) | omega) (by first | assumption | omega | (subst_vars; omega) | omega) (bf9) (by omega)
            ·
              show wp l rho (d + 4) 98 185 [(2, 94), (0, x1), (1, z174_l2), (9, 0), (2, r18_0), (0, p18_1), (0, p18_2), (0, p174_0), (0, p174_1), (0, p174_2)] [(0, 1)] h174_0 Q
              have en8 := xp31
              refine w_ifne (t := 296) gz_98_185 rfl (fun u217 => ?_) (fun u217 => by exfalso; omega)
              refine w_aload_n gz_98_296 rfl ?_
              refine w_getX (v := 95) gz_98_297 is_94 rd_2 rfl (by decide) rfl ?_
              refine w_getX (v := 96) gz_98_300 is_95 rd_6 rfl (by decide) rfl ?_
              refine w_iload gz_98_303 rfl ?_
              refine w_iload gz_98_305 rfl ?_
              refine w_iast gz_98_307 is_96 rd_30 (by omega) (by omega) (by omega) (by omega) (fun h220 fh220 => ?_)
              have gh220 : my_fr [(2, 11), (7, 0), (7, 1), (7, 2), (7, 3), (7, 4), (7, 5), (8, 0), (8, 1), (30, -1), (42, -1), (43, -1), (44, -1)] h h220 := my_fr.up gh_174_0 is_96 fh220 rfl
              have Lst_h220 : Lst h220 := Lst_ag (my_ag.up fh220 is_96 rfl) n_Lst_174_0
              have Ln_h220 : Ln h220 := Ln_ag (my_ag.up fh220 is_96 rfl) n_Ln_174_0
              have Td_h220 : Td h220 x1 := Td_ag (my_ag.up fh220 is_96 rfl) n_Ln_174_0 n_Td_174_0
              refine w_iinc (ls' := [(2, 94), (0, x1), (1, z174_l2), (9, 0), (2, r18_0), (0, p18_1), (0, (p18_2 + 1)), (0, p174_0), (0, p174_1), (0, p174_2)]) gz_98_308 rfl gm_98 rfl rfl rfl ⟨by omega, by omega⟩ ?_
              refine w_goto (t := 18) gz_98_311 rfl ?_
              have ce221 : h220 94 11 = h174_0 94 11 := ((my_up_role fh220 is_94 is_96 rfl).trans (rfl : h174_0 94 11 = h174_0 94 11))
              have ce222 : h220 94 12 = h174_0 94 12 := ((my_up_role fh220 is_94 is_96 rfl).trans (rfl : h174_0 94 12 = h174_0 94 12))
              have ce223 : h220 94 13 = p174_3 := ((my_up_role fh220 is_94 is_96 rfl).trans c94_13_174_0)
              have ce224 : h220 94 14 = h174_0 94 14 := ((my_up_role fh220 is_94 is_96 rfl).trans (rfl : h174_0 94 14 = h174_0 94 14))
              have ce225 : h220 94 15 = h174_0 94 15 := ((my_up_role fh220 is_94 is_96 rfl).trans (rfl : h174_0 94 15 = h174_0 94 15))
              have ce226 : h220 94 16 = h174_0 94 16 := ((my_up_role fh220 is_94 is_96 rfl).trans (rfl : h174_0 94 16 = h174_0 94 16))
              have ce227 : h220 98 0 = h174_0 98 0 := ((my_up_role fh220 is_98 is_96 rfl).trans (rfl : h174_0 98 0 = h174_0 98 0))
              have ce228 : h220 98 1 = h174_0 98 1 := ((my_up_role fh220 is_98 is_96 rfl).trans (rfl : h174_0 98 1 = h174_0 98 1))
              have ce229 : h220 102 0 = h174_0 102 0 := ((my_up_role fh220 is_102 is_96 rfl).trans (rfl : h174_0 102 0 = h174_0 102 0))
              have ce230 : h220 102 1 = h174_0 102 1 := ((my_up_role fh220 is_102 is_96 rfl).trans (rfl : h174_0 102 1 = h174_0 102 1))
              have ce231 : h220 112 0 = h174_0 112 0 := ((my_up_role fh220 is_112 is_96 rfl).trans (rfl : h174_0 112 0 = h174_0 112 0))
              have ce232 : h220 112 1 = h174_0 112 1 := ((my_up_role fh220 is_112 is_96 rfl).trans (rfl : h174_0 112 1 = h174_0 112 1))
              have ce233 : h220 112 2 = h174_0 112 2 := ((my_up_role fh220 is_112 is_96 rfl).trans (rfl : h174_0 112 2 = h174_0 112 2))
              have ce234 : h220 112 3 = h174_0 112 3 := ((my_up_role fh220 is_112 is_96 rfl).trans (rfl : h174_0 112 3 = h174_0 112 3))
              have ce235 : h220 112 4 = h174_0 112 4 := ((my_up_role fh220 is_112 is_96 rfl).trans (rfl : h174_0 112 4 = h174_0 112 4))
              have ce236 : h220 112 5 = h174_0 112 5 := ((my_up_role fh220 is_112 is_96 rfl).trans (rfl : h174_0 112 5 = h174_0 112 5))
              have ce237 : h220 113 0 = h174_0 113 0 := ((my_up_role fh220 is_113 is_96 rfl).trans (rfl : h174_0 113 0 = h174_0 113 0))
              have ce238 : h220 113 1 = h174_0 113 1 := ((my_up_role fh220 is_113 is_96 rfl).trans (rfl : h174_0 113 1 = h174_0 113 1))
              have ce239 : h220 113 2 = h174_0 113 2 := ((my_up_role fh220 is_113 is_96 rfl).trans (rfl : h174_0 113 2 = h174_0 113 2))
              have ce240 : h220 113 3 = h174_0 113 3 := ((my_up_role fh220 is_113 is_96 rfl).trans (rfl : h174_0 113 3 = h174_0 113 3))
              have ce241 : h220 113 4 = h174_0 113 4 := ((my_up_role fh220 is_113 is_96 rfl).trans (rfl : h174_0 113 4 = h174_0 113 4))
              have ce242 : h220 113 5 = h174_0 113 5 := ((my_up_role fh220 is_113 is_96 rfl).trans (rfl : h174_0 113 5 = h174_0 113 5))
              have a96 : ∀ j : Int, h220 96 j = h220 96 j := fun j => rfl
              have a99 : ∀ j : Int, h220 99 j = h174_0 99 j := fun j => ((my_up_role fh220 is_99 is_96 rfl).trans (rfl : h174_0 99 j = h174_0 99 j))
              have a101 : ∀ j : Int, h220 101 j = h174_0 101 j := fun j => ((my_up_role fh220 is_101 is_96 rfl).trans (rfl : h174_0 101 j = h174_0 101 j))
              have a103 : ∀ j : Int, h220 103 j = h174_0 103 j := fun j => ((my_up_role fh220 is_103 is_96 rfl).trans (rfl : h174_0 103 j = h174_0 103 j))
              have bf9 : ∀ k j : Int, 0 ≤ k → (k < 94 ∨ 120 ≤ k ∧ k < 151) → h220 k j = h k j := fun k j k0 k1 => ((my_up_ne fh220 (by omega)).trans (bf_174_0 k j k0 k1))
              have kp9 : KpS h174_0 h220 := ⟨⟨by omega, by omega, by omega, by omega, by omega, by omega, by omega, by omega, a99, a101, a103⟩, ⟨by omega, by omega⟩, ⟨by omega, by omega, by omega, by omega, by omega, by omega⟩, ⟨by omega, by omega, by omega, by omega, by omega, by omega⟩⟩
              refine w_weak (ls' := [(2, 94), (0, x1), (1, z174_l2), (9, 0), (2, r18_0), (0, p18_1), (0, (p18_2 + 1)), (9, 0), (9, 0), (9, 0)]) (wk_e (wk_e (wk_e (wk_9 (wk_e (wk_e (wk_e (wk_9 (wk_9 (wk_9 wk_n)))))))))) ?_
              exact ih_18_0 (z174_l2) (r18_0) (p18_1) ((p18_2 + 1)) h220 (gh220) tr18_0_18_0 (by omega) (by omega) Lst_h220 Ln_h220 Td_h220 (by first | rfl | exact tl_18_0 | exact tl_174_0 | assumption | omega) (by first | exact le_18_0 | exact le_174_0 | assumption | omega) (by first | exact lv_18_0 | exact lv_174_0 | (rw [show r18_0 = h 27 x1 by omega] at lv0; exact lv0) | assumption | omega) (by first | exact TvO_0 hd | exact TvO_e (by omega) (by omega) (by omega) tn_174_0 (by first | exact Or.inl (by omega) | exact Or.inr ⟨by omega, by omega, by omega⟩) fh220 (by omega) | exact TvO_n (by omega) tv_18_0 a96 kp9 (Qn_ch (fun z => ch8 (chI.mpr z))) | exact TvO_n (by omega) tv_18_0 a96 kp9 (Qn_nt hk lv_18_0 htp (by omega) (by omega) nt8 (by omega)) | assumption | omega) (bf9) (by omega)
      refine w_iload gz_98_18 rfl ?_
      refine w_aload_n gz_98_20 rfl ?_
      refine w_getX (v := 95) gz_98_21 is_94 rd_2 rfl (by decide) rfl ?_
      refine w_getX (v := 96) gz_98_24 is_95 rd_6 rfl (by decide) rfl ?_
      refine v_alen (j := 240) gz_98_27 rfl is_96 rd_30 (by decide) ?_
      refine w_icge (t := 314) gz_98_28 rfl (fun u245 => ?_) (fun u245 => ?_)
      ·
        exact w_vret gz_98_314 gm_98 (k0 h18_0 (gh_18_0) (by first | exact TvO_z (by omega) (by omega) tv_18_0 (by first | exact Or.inl (by omega) | exact Or.inr ⟨by omega, by omega, by omega⟩) | exact bf_18_0 | assumption | omega) (by first | exact TvO_z (by omega) (by omega) tv_18_0 (by first | exact Or.inl (by omega) | exact Or.inr ⟨by omega, by omega, by omega⟩) | exact bf_18_0 | assumption | omega) n_Lst_18_0)
      ·
        refine w_aload_n gz_98_31 rfl ?_
        refine w_inv (k := 0) (as := []) (r := []) (x := 94) (ls0 := [(2, 94)]) gz_98_32 gm_100 rfl is_94 rd_2 rfl rfl rfl rfl rfl (c_Desk_isEnough5 (d := (d + 3))   (fun w246 w247 xp248 => ?_) (fun w249 xp250 => ?_))
        ·
          show wp l rho (d + 4) 98 35 [(2, 94), (0, x1), (1, z18_l2), (9, 0), (2, r18_0), (0, p18_1), (0, p18_2), (9, 0), (9, 0), (9, 0)] [(0, 0)] h18_0 Q
          have en8 := xp248
          refine w_ifne (t := 314) gz_98_35 rfl (fun u251 => by exfalso; omega) (fun u251 => ?_)
          refine w_aload_n gz_98_38 rfl ?_
          refine w_getX (v := 111) gz_98_39 is_94 rd_2 rfl (by decide) rfl ?_
          refine w_iload gz_98_42 rfl ?_
          refine w_iconst gz_98_44 (by decide) ?_
          refine w_idiv gz_98_45 (by omega) (by decide) ?_
          refine w_bipush gz_98_46 (by decide) ?_
          refine w_idiv gz_98_48 (by omega) (by decide) ?_
          refine v_putI (j := 2) gz_98_49 rfl is_111 rd_7 rfl (by omega) (by omega) rfl (fun h253 fh253 => ?_)
          have gh253 : my_fr [(2, 11), (7, 0), (7, 1), (7, 2), (7, 3), (7, 4), (7, 5), (8, 0), (8, 1), (30, -1), (42, -1), (43, -1), (44, -1)] h h253 := my_fr.up gh_18_0 is_111 fh253 rfl
          have Lst_h253 : Lst h253 := Lst_ne fh253 (by decide) n_Lst_18_0
          have Ln_h253 : Ln h253 := Ln_ag (my_ag.up fh253 is_111 rfl) n_Ln_18_0
          have Td_h253 : Td h253 x1 := Td_ag (my_ag.up fh253 is_111 rfl) n_Ln_18_0 n_Td_18_0
          refine w_aload_n gz_98_52 rfl ?_
          refine w_getX (v := 111) gz_98_53 is_94 rd_2 rfl (by decide) rfl ?_
          refine w_iload gz_98_56 rfl ?_
          refine w_iconst gz_98_58 (by decide) ?_
          refine w_idiv gz_98_59 (by omega) (by decide) ?_
          refine w_bipush gz_98_60 (by decide) ?_
          refine w_irem gz_98_62 (by omega) (by decide) ?_
          refine v_putI (j := 3) gz_98_63 rfl is_111 rd_7 rfl (by omega) (by omega) rfl (fun h255 fh255 => ?_)
          have gh255 : my_fr [(2, 11), (7, 0), (7, 1), (7, 2), (7, 3), (7, 4), (7, 5), (8, 0), (8, 1), (30, -1), (42, -1), (43, -1), (44, -1)] h h255 := my_fr.up gh253 is_111 fh255 rfl
          have Lst_h255 : Lst h255 := Lst_ne fh255 (by decide) Lst_h253
          have Ln_h255 : Ln h255 := Ln_ag (my_ag.up fh255 is_111 rfl) Ln_h253
          have Td_h255 : Td h255 x1 := Td_ag (my_ag.up fh255 is_111 rfl) Ln_h253 Td_h253
          refine w_aload_n gz_98_66 rfl ?_
          refine w_getX (v := 111) gz_98_67 is_94 rd_2 rfl (by decide) rfl ?_
          refine w_iload gz_98_70 rfl ?_
          refine w_iconst gz_98_72 (by decide) ?_
          refine w_irem gz_98_73 (by omega) (by decide) ?_
          refine v_putI (j := 4) gz_98_74 rfl is_111 rd_7 rfl (by omega) (by omega) rfl (fun h257 fh257 => ?_)
          have gh257 : my_fr [(2, 11), (7, 0), (7, 1), (7, 2), (7, 3), (7, 4), (7, 5), (8, 0), (8, 1), (30, -1), (42, -1), (43, -1), (44, -1)] h h257 := my_fr.up gh255 is_111 fh257 rfl
          have Lst_h257 : Lst h257 := Lst_ne fh257 (by decide) Lst_h255
          have Ln_h257 : Ln h257 := Ln_ag (my_ag.up fh257 is_111 rfl) Ln_h255
          have Td_h257 : Td h257 x1 := Td_ag (my_ag.up fh257 is_111 rfl) Ln_h255 Td_h255
          refine w_iload gz_98_77 rfl ?_
          refine w_i2l gz_98_79 ?_
          refine w_aload_n gz_98_80 rfl ?_
          refine w_getX (v := 111) gz_98_81 is_94 rd_2 rfl (by decide) rfl ?_
          refine v_getI (j := 2) gz_98_84 rfl is_111 rd_7 rfl (fun v259 ev259 pv259 qv259 => ?_)
          have zv259 := ev259.trans ((my_up_fld fh257 (by decide)).trans ((my_up_fld fh255 (by decide)).trans (my_up_self fh253)))
          refine w_aload_n gz_98_87 rfl ?_
          refine w_getX (v := 111) gz_98_88 is_94 rd_2 rfl (by decide) rfl ?_
          refine v_getI (j := 4) gz_98_91 rfl is_111 rd_7 rfl (fun v261 ev261 pv261 qv261 => ?_)
          have zv261 := ev261.trans (my_up_self fh257)
          refine w_inS (k := 0) (as := [(0, v261), (0, v259)]) (r := [(1, p18_1)]) (ls0 := [(0, v259), (0, v261)]) gz_98_94 gm_29 rfl rfl rfl rfl rfl rfl ?_
          refine w_iload_n gz_29_0 rfl ?_
          refine w_iconst gz_29_1 (by decide) ?_
          refine w_imul gz_29_2 ⟨by omega, by omega⟩ ?_
          refine w_iload_n gz_29_3 rfl ?_
          refine w_iadd gz_29_4 ⟨by omega, by omega⟩ ?_
          refine w_iret gz_29_5 gm_29 ?_
          show wp l rho (d + 4) 98 97 [(2, 94), (0, x1), (1, z18_l2), (9, 0), (2, r18_0), (0, p18_1), (0, p18_2), (9, 0), (9, 0), (9, 0)] [(0, ((v259 * 4) + v261)), (1, p18_1)] h257 Q
          refine w_inS (k := 0) (as := [(0, ((v259 * 4) + v261)), (1, p18_1)]) (r := []) (ls0 := [(1, p18_1), (9, 0), (0, ((v259 * 4) + v261))]) gz_98_97 gm_69 rfl rfl rfl rfl rfl rfl ?_
          refine w_lload_n gz_69_0 rfl ?_
          refine w_iload_n gz_69_1 rfl ?_
          refine w_lshrX gz_69_2 (fun v262 ev262 pv262 => ?_)
          refine w_lconst gz_69_3 ?_
          refine w_landX gz_69_4 (fun v263 ev263 pv263 => ?_)
          refine w_lconst gz_69_5 ?_
          refine w_lcmpE gz_69_6 (fun v264 pv264 qv264 xv264 => ?_)
          refine w_ifeq (t := 14) gz_69_7 rfl (fun u265 => ?_) (fun u265 => ?_)
          ·
            refine w_iconst gz_69_14 (by decide) ?_
            refine w_bret gz_69_15 gm_69 (by omega) (by omega) ?_
            show wp l rho (d + 4) 98 100 [(2, 94), (0, x1), (1, z18_l2), (9, 0), (2, r18_0), (0, p18_1), (0, p18_2), (9, 0), (9, 0), (9, 0)] [(0, 0)] h257 Q
            have hb1 := hasBit_z (M := p18_1) (C := 4 * (p18_2 / 80) + p18_2 % 4) (by assumption) (by assumption) (by assumption) (by omega) (by omega) (by omega) (by omega)
            refine w_ifeq (t := 132) gz_98_100 rfl (fun u266 => ?_) (fun u266 => by exfalso; omega)
            refine w_iconst gz_98_132 (by decide) ?_
            have nt8 : NtO p18_1 x2 p18_2 := by rw [← tl_18_0]; first | exact Or.inl (hb1.1 (by assumption)) | exact Or.inr (hb2.1 (by assumption))
            refine w_istore (ls' := [(2, 94), (0, x1), (1, z18_l2), (9, 0), (2, r18_0), (0, p18_1), (0, p18_2), (0, 0), (9, 0), (9, 0)]) gz_98_133 gm_98 rfl rfl rfl ?_
            refine w_aload_n gz_98_135 rfl ?_
            refine w_aload gz_98_136 rfl ?_
            refine w_inv (k := 0) (as := [(2, r18_0)]) (r := []) (x := 94) (ls0 := [(2, 94), (2, r18_0)]) gz_98_138 gm_101 rfl is_94 rd_2 rfl rfl rfl rfl rfl (c_Desk_isChangeable5 (d := (d + 2)) (x1 := r18_0) tr18_0_18_0 (by first | assumption | exact no_such_saying | exact Fp_told (by omega) (by omega) | omega | (subst_vars; omega) | omega) (fun xp267 => ?_) (fun xp268 => ?_))
            ·
              show wp l rho (d + 4) 98 141 [(2, 94), (0, x1), (1, z18_l2), (9, 0), (2, r18_0), (0, p18_1), (0, p18_2), (0, 0), (9, 0), (9, 0)] [(0, 0)] h257 Q
              have ch8 := xp267
              have ce269 : h257 111 2 = v259 := ev259.symm
              have ce270 : h257 111 3 = ((p18_2 / 4) % 20) := ((my_up_fld fh257 (by decide)).trans (my_up_self fh255))
              have ce271 : h257 111 4 = v261 := ev261.symm
              have ce272 : h257 94 11 = h18_0 94 11 := ((my_up_role fh257 is_94 is_111 rfl).trans ((my_up_role fh255 is_94 is_111 rfl).trans ((my_up_role fh253 is_94 is_111 rfl).trans (rfl : h18_0 94 11 = h18_0 94 11))))
              have ce273 : h257 94 12 = h18_0 94 12 := ((my_up_role fh257 is_94 is_111 rfl).trans ((my_up_role fh255 is_94 is_111 rfl).trans ((my_up_role fh253 is_94 is_111 rfl).trans (rfl : h18_0 94 12 = h18_0 94 12))))
              have ce274 : h257 94 13 = (h18_0 94 13) := ((my_up_role fh257 is_94 is_111 rfl).trans ((my_up_role fh255 is_94 is_111 rfl).trans ((my_up_role fh253 is_94 is_111 rfl).trans (rfl : h18_0 94 13 = h18_0 94 13))))
              have ce275 : h257 94 14 = h18_0 94 14 := ((my_up_role fh257 is_94 is_111 rfl).trans ((my_up_role fh255 is_94 is_111 rfl).trans ((my_up_role fh253 is_94 is_111 rfl).trans (rfl : h18_0 94 14 = h18_0 94 14))))
              have ce276 : h257 94 15 = h18_0 94 15 := ((my_up_role fh257 is_94 is_111 rfl).trans ((my_up_role fh255 is_94 is_111 rfl).trans ((my_up_role fh253 is_94 is_111 rfl).trans (rfl : h18_0 94 15 = h18_0 94 15))))
              have ce277 : h257 94 16 = h18_0 94 16 := ((my_up_role fh257 is_94 is_111 rfl).trans ((my_up_role fh255 is_94 is_111 rfl).trans ((my_up_role fh253 is_94 is_111 rfl).trans (rfl : h18_0 94 16 = h18_0 94 16))))
              have ce278 : h257 98 0 = h18_0 98 0 := ((my_up_role fh257 is_98 is_111 rfl).trans ((my_up_role fh255 is_98 is_111 rfl).trans ((my_up_role fh253 is_98 is_111 rfl).trans (rfl : h18_0 98 0 = h18_0 98 0))))
              have ce279 : h257 98 1 = h18_0 98 1 := ((my_up_role fh257 is_98 is_111 rfl).trans ((my_up_role fh255 is_98 is_111 rfl).trans ((my_up_role fh253 is_98 is_111 rfl).trans (rfl : h18_0 98 1 = h18_0 98 1))))
              have ce280 : h257 102 0 = h18_0 102 0 := ((my_up_role fh257 is_102 is_111 rfl).trans ((my_up_role fh255 is_102 is_111 rfl).trans ((my_up_role fh253 is_102 is_111 rfl).trans (rfl : h18_0 102 0 = h18_0 102 0))))
              have ce281 : h257 102 1 = h18_0 102 1 := ((my_up_role fh257 is_102 is_111 rfl).trans ((my_up_role fh255 is_102 is_111 rfl).trans ((my_up_role fh253 is_102 is_111 rfl).trans (rfl : h18_0 102 1 = h18_0 102 1))))
              have ce282 : h257 112 0 = h18_0 112 0 := ((my_up_fld fh257 (by decide)).trans ((my_up_fld fh255 (by decide)).trans ((my_up_fld fh253 (by decide)).trans (rfl : h18_0 112 0 = h18_0 112 0))))
              have ce283 : h257 112 1 = h18_0 112 1 := ((my_up_fld fh257 (by decide)).trans ((my_up_fld fh255 (by decide)).trans ((my_up_fld fh253 (by decide)).trans (rfl : h18_0 112 1 = h18_0 112 1))))
              have ce284 : h257 112 2 = h18_0 112 2 := ((my_up_fld fh257 (by decide)).trans ((my_up_fld fh255 (by decide)).trans ((my_up_ne fh253 (by omega)).trans (rfl : h18_0 112 2 = h18_0 112 2))))
              have ce285 : h257 112 3 = h18_0 112 3 := ((my_up_fld fh257 (by decide)).trans ((my_up_ne fh255 (by omega)).trans ((my_up_fld fh253 (by decide)).trans (rfl : h18_0 112 3 = h18_0 112 3))))
              have ce286 : h257 112 4 = h18_0 112 4 := ((my_up_ne fh257 (by omega)).trans ((my_up_fld fh255 (by decide)).trans ((my_up_fld fh253 (by decide)).trans (rfl : h18_0 112 4 = h18_0 112 4))))
              have ce287 : h257 112 5 = h18_0 112 5 := ((my_up_fld fh257 (by decide)).trans ((my_up_fld fh255 (by decide)).trans ((my_up_fld fh253 (by decide)).trans (rfl : h18_0 112 5 = h18_0 112 5))))
              have ce288 : h257 113 0 = h18_0 113 0 := ((my_up_fld fh257 (by decide)).trans ((my_up_fld fh255 (by decide)).trans ((my_up_fld fh253 (by decide)).trans (rfl : h18_0 113 0 = h18_0 113 0))))
              have ce289 : h257 113 1 = h18_0 113 1 := ((my_up_fld fh257 (by decide)).trans ((my_up_fld fh255 (by decide)).trans ((my_up_fld fh253 (by decide)).trans (rfl : h18_0 113 1 = h18_0 113 1))))
              have ce290 : h257 113 2 = h18_0 113 2 := ((my_up_fld fh257 (by decide)).trans ((my_up_fld fh255 (by decide)).trans ((my_up_ne fh253 (by omega)).trans (rfl : h18_0 113 2 = h18_0 113 2))))
              have ce291 : h257 113 3 = h18_0 113 3 := ((my_up_fld fh257 (by decide)).trans ((my_up_ne fh255 (by omega)).trans ((my_up_fld fh253 (by decide)).trans (rfl : h18_0 113 3 = h18_0 113 3))))
              have ce292 : h257 113 4 = h18_0 113 4 := ((my_up_ne fh257 (by omega)).trans ((my_up_fld fh255 (by decide)).trans ((my_up_fld fh253 (by decide)).trans (rfl : h18_0 113 4 = h18_0 113 4))))
              have ce293 : h257 113 5 = h18_0 113 5 := ((my_up_fld fh257 (by decide)).trans ((my_up_fld fh255 (by decide)).trans ((my_up_fld fh253 (by decide)).trans (rfl : h18_0 113 5 = h18_0 113 5))))
              have a96 : ∀ j : Int, h257 96 j = h18_0 96 j := fun j => ((my_up_role fh257 is_96 is_111 rfl).trans ((my_up_role fh255 is_96 is_111 rfl).trans ((my_up_role fh253 is_96 is_111 rfl).trans (rfl : h18_0 96 j = h18_0 96 j))))
              have a99 : ∀ j : Int, h257 99 j = h18_0 99 j := fun j => ((my_up_role fh257 is_99 is_111 rfl).trans ((my_up_role fh255 is_99 is_111 rfl).trans ((my_up_role fh253 is_99 is_111 rfl).trans (rfl : h18_0 99 j = h18_0 99 j))))
              have a101 : ∀ j : Int, h257 101 j = h18_0 101 j := fun j => ((my_up_role fh257 is_101 is_111 rfl).trans ((my_up_role fh255 is_101 is_111 rfl).trans ((my_up_role fh253 is_101 is_111 rfl).trans (rfl : h18_0 101 j = h18_0 101 j))))
              have a103 : ∀ j : Int, h257 103 j = h18_0 103 j := fun j => ((my_up_role fh257 is_103 is_111 rfl).trans ((my_up_role fh255 is_103 is_111 rfl).trans ((my_up_role fh253 is_103 is_111 rfl).trans (rfl : h18_0 103 j = h18_0 103 j))))
              have kp9 : KpS h18_0 h257 := ⟨⟨by omega, by omega, by omega, by omega, by omega, by omega, by omega, by omega, a99, a101, a103⟩, ⟨by omega, by omega⟩, ⟨by omega, by omega, by omega, by omega, by omega, by omega⟩, ⟨by omega, by omega, by omega, by omega, by omega, by omega⟩⟩
              have chI := CH_i (x := p18_2) (g := h257) (L := r18_0) (a := h257 111 2) (b := h257 111 3) (c := h257 111 4) hk (by omega) (by omega) le_18_0 (fun j => (a96 j).trans (tv_18_0.1 j)) (fun j => my_fr.at gh257 pis_2 rfl) (my_fr.at gh257 (n_Ln.2.2.1 _ (by omega) (by omega)) rfl) (by omega) (by omega) (by omega)
              have as8 : h257 94 14 = h 94 14 := kp9.1.2.1.trans tv_18_0.2.1.2.1
              refine w_ifeq (t := 308) gz_98_141 rfl (fun u294 => ?_) (fun u294 => by exfalso; omega)
              refine w_iinc (ls' := [(2, 94), (0, x1), (1, z18_l2), (9, 0), (2, r18_0), (0, p18_1), (0, (p18_2 + 1)), (0, 0), (9, 0), (9, 0)]) gz_98_308 rfl gm_98 rfl rfl rfl ⟨by omega, by omega⟩ ?_
              refine w_goto (t := 18) gz_98_311 rfl ?_
              have ce295 : h257 94 11 = h18_0 94 11 := ((my_up_role fh257 is_94 is_111 rfl).trans ((my_up_role fh255 is_94 is_111 rfl).trans ((my_up_role fh253 is_94 is_111 rfl).trans (rfl : h18_0 94 11 = h18_0 94 11))))
              have ce296 : h257 94 12 = h18_0 94 12 := ((my_up_role fh257 is_94 is_111 rfl).trans ((my_up_role fh255 is_94 is_111 rfl).trans ((my_up_role fh253 is_94 is_111 rfl).trans (rfl : h18_0 94 12 = h18_0 94 12))))
              have ce297 : h257 94 13 = (h18_0 94 13) := ((my_up_role fh257 is_94 is_111 rfl).trans ((my_up_role fh255 is_94 is_111 rfl).trans ((my_up_role fh253 is_94 is_111 rfl).trans (rfl : h18_0 94 13 = h18_0 94 13))))
              have ce298 : h257 94 14 = h18_0 94 14 := ((my_up_role fh257 is_94 is_111 rfl).trans ((my_up_role fh255 is_94 is_111 rfl).trans ((my_up_role fh253 is_94 is_111 rfl).trans (rfl : h18_0 94 14 = h18_0 94 14))))
              have ce299 : h257 94 15 = h18_0 94 15 := ((my_up_role fh257 is_94 is_111 rfl).trans ((my_up_role fh255 is_94 is_111 rfl).trans ((my_up_role fh253 is_94 is_111 rfl).trans (rfl : h18_0 94 15 = h18_0 94 15))))
              have ce300 : h257 94 16 = h18_0 94 16 := ((my_up_role fh257 is_94 is_111 rfl).trans ((my_up_role fh255 is_94 is_111 rfl).trans ((my_up_role fh253 is_94 is_111 rfl).trans (rfl : h18_0 94 16 = h18_0 94 16))))
              have ce301 : h257 98 0 = h18_0 98 0 := ((my_up_role fh257 is_98 is_111 rfl).trans ((my_up_role fh255 is_98 is_111 rfl).trans ((my_up_role fh253 is_98 is_111 rfl).trans (rfl : h18_0 98 0 = h18_0 98 0))))
              have ce302 : h257 98 1 = h18_0 98 1 := ((my_up_role fh257 is_98 is_111 rfl).trans ((my_up_role fh255 is_98 is_111 rfl).trans ((my_up_role fh253 is_98 is_111 rfl).trans (rfl : h18_0 98 1 = h18_0 98 1))))
              have ce303 : h257 102 0 = h18_0 102 0 := ((my_up_role fh257 is_102 is_111 rfl).trans ((my_up_role fh255 is_102 is_111 rfl).trans ((my_up_role fh253 is_102 is_111 rfl).trans (rfl : h18_0 102 0 = h18_0 102 0))))
              have ce304 : h257 102 1 = h18_0 102 1 := ((my_up_role fh257 is_102 is_111 rfl).trans ((my_up_role fh255 is_102 is_111 rfl).trans ((my_up_role fh253 is_102 is_111 rfl).trans (rfl : h18_0 102 1 = h18_0 102 1))))
              have ce305 : h257 112 0 = h18_0 112 0 := ((my_up_fld fh257 (by decide)).trans ((my_up_fld fh255 (by decide)).trans ((my_up_fld fh253 (by decide)).trans (rfl : h18_0 112 0 = h18_0 112 0))))
              have ce306 : h257 112 1 = h18_0 112 1 := ((my_up_fld fh257 (by decide)).trans ((my_up_fld fh255 (by decide)).trans ((my_up_fld fh253 (by decide)).trans (rfl : h18_0 112 1 = h18_0 112 1))))
              have ce307 : h257 112 2 = h18_0 112 2 := ((my_up_fld fh257 (by decide)).trans ((my_up_fld fh255 (by decide)).trans ((my_up_ne fh253 (by omega)).trans (rfl : h18_0 112 2 = h18_0 112 2))))
              have ce308 : h257 112 3 = h18_0 112 3 := ((my_up_fld fh257 (by decide)).trans ((my_up_ne fh255 (by omega)).trans ((my_up_fld fh253 (by decide)).trans (rfl : h18_0 112 3 = h18_0 112 3))))
              have ce309 : h257 112 4 = h18_0 112 4 := ((my_up_ne fh257 (by omega)).trans ((my_up_fld fh255 (by decide)).trans ((my_up_fld fh253 (by decide)).trans (rfl : h18_0 112 4 = h18_0 112 4))))
              have ce310 : h257 112 5 = h18_0 112 5 := ((my_up_fld fh257 (by decide)).trans ((my_up_fld fh255 (by decide)).trans ((my_up_fld fh253 (by decide)).trans (rfl : h18_0 112 5 = h18_0 112 5))))
              have ce311 : h257 113 0 = h18_0 113 0 := ((my_up_fld fh257 (by decide)).trans ((my_up_fld fh255 (by decide)).trans ((my_up_fld fh253 (by decide)).trans (rfl : h18_0 113 0 = h18_0 113 0))))
              have ce312 : h257 113 1 = h18_0 113 1 := ((my_up_fld fh257 (by decide)).trans ((my_up_fld fh255 (by decide)).trans ((my_up_fld fh253 (by decide)).trans (rfl : h18_0 113 1 = h18_0 113 1))))
              have ce313 : h257 113 2 = h18_0 113 2 := ((my_up_fld fh257 (by decide)).trans ((my_up_fld fh255 (by decide)).trans ((my_up_ne fh253 (by omega)).trans (rfl : h18_0 113 2 = h18_0 113 2))))
              have ce314 : h257 113 3 = h18_0 113 3 := ((my_up_fld fh257 (by decide)).trans ((my_up_ne fh255 (by omega)).trans ((my_up_fld fh253 (by decide)).trans (rfl : h18_0 113 3 = h18_0 113 3))))
              have ce315 : h257 113 4 = h18_0 113 4 := ((my_up_ne fh257 (by omega)).trans ((my_up_fld fh255 (by decide)).trans ((my_up_fld fh253 (by decide)).trans (rfl : h18_0 113 4 = h18_0 113 4))))
              have ce316 : h257 113 5 = h18_0 113 5 := ((my_up_fld fh257 (by decide)).trans ((my_up_fld fh255 (by decide)).trans ((my_up_fld fh253 (by decide)).trans (rfl : h18_0 113 5 = h18_0 113 5))))
              have a96 : ∀ j : Int, h257 96 j = h18_0 96 j := fun j => ((my_up_role fh257 is_96 is_111 rfl).trans ((my_up_role fh255 is_96 is_111 rfl).trans ((my_up_role fh253 is_96 is_111 rfl).trans (rfl : h18_0 96 j = h18_0 96 j))))
              have a99 : ∀ j : Int, h257 99 j = h18_0 99 j := fun j => ((my_up_role fh257 is_99 is_111 rfl).trans ((my_up_role fh255 is_99 is_111 rfl).trans ((my_up_role fh253 is_99 is_111 rfl).trans (rfl : h18_0 99 j = h18_0 99 j))))
              have a101 : ∀ j : Int, h257 101 j = h18_0 101 j := fun j => ((my_up_role fh257 is_101 is_111 rfl).trans ((my_up_role fh255 is_101 is_111 rfl).trans ((my_up_role fh253 is_101 is_111 rfl).trans (rfl : h18_0 101 j = h18_0 101 j))))
              have a103 : ∀ j : Int, h257 103 j = h18_0 103 j := fun j => ((my_up_role fh257 is_103 is_111 rfl).trans ((my_up_role fh255 is_103 is_111 rfl).trans ((my_up_role fh253 is_103 is_111 rfl).trans (rfl : h18_0 103 j = h18_0 103 j))))
              have bf9 : ∀ k j : Int, 0 ≤ k → (k < 94 ∨ 120 ≤ k ∧ k < 151) → h257 k j = h k j := fun k j k0 k1 => (((my_up_ne fh257 (by omega)).trans ((my_up_ne fh255 (by omega)).trans (my_up_ne fh253 (by omega)))).trans (bf_18_0 k j k0 k1))
              have kp9 : KpS h18_0 h257 := ⟨⟨by omega, by omega, by omega, by omega, by omega, by omega, by omega, by omega, a99, a101, a103⟩, ⟨by omega, by omega⟩, ⟨by omega, by omega, by omega, by omega, by omega, by omega⟩, ⟨by omega, by omega, by omega, by omega, by omega, by omega⟩⟩
              refine w_weak (ls' := [(2, 94), (0, x1), (1, z18_l2), (9, 0), (2, r18_0), (0, p18_1), (0, (p18_2 + 1)), (9, 0), (9, 0), (9, 0)]) (wk_e (wk_e (wk_e (wk_9 (wk_e (wk_e (wk_e (wk_9 (wk_9 (wk_9 wk_n)))))))))) ?_
              exact ih_18_0 (z18_l2) (r18_0) (p18_1) ((p18_2 + 1)) h257 (gh257) tr18_0_18_0 (by omega) (by omega) Lst_h257 Ln_h257 Td_h257 (by first | rfl | exact tl_18_0 | exact tl_174_0 | assumption | omega) (by first | exact le_18_0 | exact le_174_0 | assumption | omega) (by first | exact lv_18_0 | exact lv_174_0 | (rw [show r18_0 = h 27 x1 by omega] at lv0; exact lv0) | assumption | omega) (by first | exact TvO_0 hd | exact TvO_e (by omega) (by omega) (by omega) tn_174_0 (by first | exact Or.inl (by omega) | exact Or.inr ⟨by omega, by omega, by omega⟩) fh257 (by omega) | exact TvO_n (by omega) tv_18_0 a96 kp9 (Qn_ch (fun z => ch8 (chI.mpr z))) | exact TvO_n (by omega) tv_18_0 a96 kp9 (Qn_nt hk lv_18_0 htp (by omega) (by omega) nt8 (by omega)) | assumption | omega) (bf9) (by omega)
            ·
              show wp l rho (d + 4) 98 141 [(2, 94), (0, x1), (1, z18_l2), (9, 0), (2, r18_0), (0, p18_1), (0, p18_2), (0, 0), (9, 0), (9, 0)] [(0, 1)] h257 Q
              have ch8 := xp268
              have ce317 : h257 111 2 = v259 := ev259.symm
              have ce318 : h257 111 3 = ((p18_2 / 4) % 20) := ((my_up_fld fh257 (by decide)).trans (my_up_self fh255))
              have ce319 : h257 111 4 = v261 := ev261.symm
              have ce320 : h257 94 11 = h18_0 94 11 := ((my_up_role fh257 is_94 is_111 rfl).trans ((my_up_role fh255 is_94 is_111 rfl).trans ((my_up_role fh253 is_94 is_111 rfl).trans (rfl : h18_0 94 11 = h18_0 94 11))))
              have ce321 : h257 94 12 = h18_0 94 12 := ((my_up_role fh257 is_94 is_111 rfl).trans ((my_up_role fh255 is_94 is_111 rfl).trans ((my_up_role fh253 is_94 is_111 rfl).trans (rfl : h18_0 94 12 = h18_0 94 12))))
              have ce322 : h257 94 13 = (h18_0 94 13) := ((my_up_role fh257 is_94 is_111 rfl).trans ((my_up_role fh255 is_94 is_111 rfl).trans ((my_up_role fh253 is_94 is_111 rfl).trans (rfl : h18_0 94 13 = h18_0 94 13))))
              have ce323 : h257 94 14 = h18_0 94 14 := ((my_up_role fh257 is_94 is_111 rfl).trans ((my_up_role fh255 is_94 is_111 rfl).trans ((my_up_role fh253 is_94 is_111 rfl).trans (rfl : h18_0 94 14 = h18_0 94 14))))
              have ce324 : h257 94 15 = h18_0 94 15 := ((my_up_role fh257 is_94 is_111 rfl).trans ((my_up_role fh255 is_94 is_111 rfl).trans ((my_up_role fh253 is_94 is_111 rfl).trans (rfl : h18_0 94 15 = h18_0 94 15))))
              have ce325 : h257 94 16 = h18_0 94 16 := ((my_up_role fh257 is_94 is_111 rfl).trans ((my_up_role fh255 is_94 is_111 rfl).trans ((my_up_role fh253 is_94 is_111 rfl).trans (rfl : h18_0 94 16 = h18_0 94 16))))
              have ce326 : h257 98 0 = h18_0 98 0 := ((my_up_role fh257 is_98 is_111 rfl).trans ((my_up_role fh255 is_98 is_111 rfl).trans ((my_up_role fh253 is_98 is_111 rfl).trans (rfl : h18_0 98 0 = h18_0 98 0))))
              have ce327 : h257 98 1 = h18_0 98 1 := ((my_up_role fh257 is_98 is_111 rfl).trans ((my_up_role fh255 is_98 is_111 rfl).trans ((my_up_role fh253 is_98 is_111 rfl).trans (rfl : h18_0 98 1 = h18_0 98 1))))
              have ce328 : h257 102 0 = h18_0 102 0 := ((my_up_role fh257 is_102 is_111 rfl).trans ((my_up_role fh255 is_102 is_111 rfl).trans ((my_up_role fh253 is_102 is_111 rfl).trans (rfl : h18_0 102 0 = h18_0 102 0))))
              have ce329 : h257 102 1 = h18_0 102 1 := ((my_up_role fh257 is_102 is_111 rfl).trans ((my_up_role fh255 is_102 is_111 rfl).trans ((my_up_role fh253 is_102 is_111 rfl).trans (rfl : h18_0 102 1 = h18_0 102 1))))
              have ce330 : h257 112 0 = h18_0 112 0 := ((my_up_fld fh257 (by decide)).trans ((my_up_fld fh255 (by decide)).trans ((my_up_fld fh253 (by decide)).trans (rfl : h18_0 112 0 = h18_0 112 0))))
              have ce331 : h257 112 1 = h18_0 112 1 := ((my_up_fld fh257 (by decide)).trans ((my_up_fld fh255 (by decide)).trans ((my_up_fld fh253 (by decide)).trans (rfl : h18_0 112 1 = h18_0 112 1))))
              have ce332 : h257 112 2 = h18_0 112 2 := ((my_up_fld fh257 (by decide)).trans ((my_up_fld fh255 (by decide)).trans ((my_up_ne fh253 (by omega)).trans (rfl : h18_0 112 2 = h18_0 112 2))))
              have ce333 : h257 112 3 = h18_0 112 3 := ((my_up_fld fh257 (by decide)).trans ((my_up_ne fh255 (by omega)).trans ((my_up_fld fh253 (by decide)).trans (rfl : h18_0 112 3 = h18_0 112 3))))
              have ce334 : h257 112 4 = h18_0 112 4 := ((my_up_ne fh257 (by omega)).trans ((my_up_fld fh255 (by decide)).trans ((my_up_fld fh253 (by decide)).trans (rfl : h18_0 112 4 = h18_0 112 4))))
              have ce335 : h257 112 5 = h18_0 112 5 := ((my_up_fld fh257 (by decide)).trans ((my_up_fld fh255 (by decide)).trans ((my_up_fld fh253 (by decide)).trans (rfl : h18_0 112 5 = h18_0 112 5))))
              have ce336 : h257 113 0 = h18_0 113 0 := ((my_up_fld fh257 (by decide)).trans ((my_up_fld fh255 (by decide)).trans ((my_up_fld fh253 (by decide)).trans (rfl : h18_0 113 0 = h18_0 113 0))))
              have ce337 : h257 113 1 = h18_0 113 1 := ((my_up_fld fh257 (by decide)).trans ((my_up_fld fh255 (by decide)).trans ((my_up_fld fh253 (by decide)).trans (rfl : h18_0 113 1 = h18_0 113 1))))
              have ce338 : h257 113 2 = h18_0 113 2 := ((my_up_fld fh257 (by decide)).trans ((my_up_fld fh255 (by decide)).trans ((my_up_ne fh253 (by omega)).trans (rfl : h18_0 113 2 = h18_0 113 2))))
              have ce339 : h257 113 3 = h18_0 113 3 := ((my_up_fld fh257 (by decide)).trans ((my_up_ne fh255 (by omega)).trans ((my_up_fld fh253 (by decide)).trans (rfl : h18_0 113 3 = h18_0 113 3))))
              have ce340 : h257 113 4 = h18_0 113 4 := ((my_up_ne fh257 (by omega)).trans ((my_up_fld fh255 (by decide)).trans ((my_up_fld fh253 (by decide)).trans (rfl : h18_0 113 4 = h18_0 113 4))))
              have ce341 : h257 113 5 = h18_0 113 5 := ((my_up_fld fh257 (by decide)).trans ((my_up_fld fh255 (by decide)).trans ((my_up_fld fh253 (by decide)).trans (rfl : h18_0 113 5 = h18_0 113 5))))
              have a96 : ∀ j : Int, h257 96 j = h18_0 96 j := fun j => ((my_up_role fh257 is_96 is_111 rfl).trans ((my_up_role fh255 is_96 is_111 rfl).trans ((my_up_role fh253 is_96 is_111 rfl).trans (rfl : h18_0 96 j = h18_0 96 j))))
              have a99 : ∀ j : Int, h257 99 j = h18_0 99 j := fun j => ((my_up_role fh257 is_99 is_111 rfl).trans ((my_up_role fh255 is_99 is_111 rfl).trans ((my_up_role fh253 is_99 is_111 rfl).trans (rfl : h18_0 99 j = h18_0 99 j))))
              have a101 : ∀ j : Int, h257 101 j = h18_0 101 j := fun j => ((my_up_role fh257 is_101 is_111 rfl).trans ((my_up_role fh255 is_101 is_111 rfl).trans ((my_up_role fh253 is_101 is_111 rfl).trans (rfl : h18_0 101 j = h18_0 101 j))))
              have a103 : ∀ j : Int, h257 103 j = h18_0 103 j := fun j => ((my_up_role fh257 is_103 is_111 rfl).trans ((my_up_role fh255 is_103 is_111 rfl).trans ((my_up_role fh253 is_103 is_111 rfl).trans (rfl : h18_0 103 j = h18_0 103 j))))
              have kp9 : KpS h18_0 h257 := ⟨⟨by omega, by omega, by omega, by omega, by omega, by omega, by omega, by omega, a99, a101, a103⟩, ⟨by omega, by omega⟩, ⟨by omega, by omega, by omega, by omega, by omega, by omega⟩, ⟨by omega, by omega, by omega, by omega, by omega, by omega⟩⟩
              have chI := CH_i (x := p18_2) (g := h257) (L := r18_0) (a := h257 111 2) (b := h257 111 3) (c := h257 111 4) hk (by omega) (by omega) le_18_0 (fun j => (a96 j).trans (tv_18_0.1 j)) (fun j => my_fr.at gh257 pis_2 rfl) (my_fr.at gh257 (n_Ln.2.2.1 _ (by omega) (by omega)) rfl) (by omega) (by omega) (by omega)
              have as8 : h257 94 14 = h 94 14 := kp9.1.2.1.trans tv_18_0.2.1.2.1
              refine w_ifeq (t := 308) gz_98_141 rfl (fun u342 => by exfalso; omega) (fun u342 => ?_)
              refine w_iload gz_98_144 rfl ?_
              refine w_ifne (t := 159) gz_98_146 rfl (fun u343 => by exfalso; omega) (fun u343 => ?_)
              refine w_aload_n gz_98_149 rfl ?_
              refine v_getI (j := 14) gz_98_150 rfl is_94 rd_2 rfl (fun v344 ev344 pv344 qv344 => ?_)
              refine w_ifne (t := 159) gz_98_153 rfl (fun u345 => ?_) (fun u345 => ?_)
              ·
                refine w_aload_n gz_98_159 rfl ?_
                refine w_getX (v := 95) gz_98_160 is_94 rd_2 rfl (by decide) rfl ?_
                refine w_getX (v := 96) gz_98_163 is_95 rd_6 rfl (by decide) rfl ?_
                refine w_iload gz_98_166 rfl ?_
                refine w_iald gz_98_168 is_96 rd_30 (by omega) (by omega) (fun v348 ev348 pv348 qv348 => ?_)
                refine w_istore (ls' := [(2, 94), (0, x1), (1, z18_l2), (9, 0), (2, r18_0), (0, p18_1), (0, p18_2), (0, 0), (0, v348), (9, 0)]) gz_98_169 gm_98 rfl rfl rfl ?_
                have ol8 : v348 = h 96 p18_2 := by
                  have q1 := a96 p18_2
                  have q2 := tv_18_0.1 p18_2
                  omega
                refine w_iconst gz_98_171 (by decide) ?_
                refine w_istore (ls' := [(2, 94), (0, x1), (1, z18_l2), (9, 0), (2, r18_0), (0, p18_1), (0, p18_2), (0, 0), (0, v348), (0, 0)]) gz_98_172 gm_98 rfl rfl rfl ?_
                have ce349 : h257 111 2 = v259 := ev259.symm
                have ce350 : h257 111 3 = ((p18_2 / 4) % 20) := ((my_up_fld fh257 (by decide)).trans (my_up_self fh255))
                have ce351 : h257 111 4 = v261 := ev261.symm
                have ce352 : h257 94 11 = h18_0 94 11 := ((my_up_role fh257 is_94 is_111 rfl).trans ((my_up_role fh255 is_94 is_111 rfl).trans ((my_up_role fh253 is_94 is_111 rfl).trans (rfl : h18_0 94 11 = h18_0 94 11))))
                have ce353 : h257 94 12 = h18_0 94 12 := ((my_up_role fh257 is_94 is_111 rfl).trans ((my_up_role fh255 is_94 is_111 rfl).trans ((my_up_role fh253 is_94 is_111 rfl).trans (rfl : h18_0 94 12 = h18_0 94 12))))
                have ce354 : h257 94 13 = (h18_0 94 13) := ((my_up_role fh257 is_94 is_111 rfl).trans ((my_up_role fh255 is_94 is_111 rfl).trans ((my_up_role fh253 is_94 is_111 rfl).trans (rfl : h18_0 94 13 = h18_0 94 13))))
                have ce355 : h257 94 14 = v344 := ev344.symm
                have ce356 : h257 94 15 = h18_0 94 15 := ((my_up_role fh257 is_94 is_111 rfl).trans ((my_up_role fh255 is_94 is_111 rfl).trans ((my_up_role fh253 is_94 is_111 rfl).trans (rfl : h18_0 94 15 = h18_0 94 15))))
                have ce357 : h257 94 16 = h18_0 94 16 := ((my_up_role fh257 is_94 is_111 rfl).trans ((my_up_role fh255 is_94 is_111 rfl).trans ((my_up_role fh253 is_94 is_111 rfl).trans (rfl : h18_0 94 16 = h18_0 94 16))))
                have ce358 : h257 98 0 = h18_0 98 0 := ((my_up_role fh257 is_98 is_111 rfl).trans ((my_up_role fh255 is_98 is_111 rfl).trans ((my_up_role fh253 is_98 is_111 rfl).trans (rfl : h18_0 98 0 = h18_0 98 0))))
                have ce359 : h257 98 1 = h18_0 98 1 := ((my_up_role fh257 is_98 is_111 rfl).trans ((my_up_role fh255 is_98 is_111 rfl).trans ((my_up_role fh253 is_98 is_111 rfl).trans (rfl : h18_0 98 1 = h18_0 98 1))))
                have ce360 : h257 102 0 = h18_0 102 0 := ((my_up_role fh257 is_102 is_111 rfl).trans ((my_up_role fh255 is_102 is_111 rfl).trans ((my_up_role fh253 is_102 is_111 rfl).trans (rfl : h18_0 102 0 = h18_0 102 0))))
                have ce361 : h257 102 1 = h18_0 102 1 := ((my_up_role fh257 is_102 is_111 rfl).trans ((my_up_role fh255 is_102 is_111 rfl).trans ((my_up_role fh253 is_102 is_111 rfl).trans (rfl : h18_0 102 1 = h18_0 102 1))))
                have ce362 : h257 112 0 = h18_0 112 0 := ((my_up_fld fh257 (by decide)).trans ((my_up_fld fh255 (by decide)).trans ((my_up_fld fh253 (by decide)).trans (rfl : h18_0 112 0 = h18_0 112 0))))
                have ce363 : h257 112 1 = h18_0 112 1 := ((my_up_fld fh257 (by decide)).trans ((my_up_fld fh255 (by decide)).trans ((my_up_fld fh253 (by decide)).trans (rfl : h18_0 112 1 = h18_0 112 1))))
                have ce364 : h257 112 2 = h18_0 112 2 := ((my_up_fld fh257 (by decide)).trans ((my_up_fld fh255 (by decide)).trans ((my_up_ne fh253 (by omega)).trans (rfl : h18_0 112 2 = h18_0 112 2))))
                have ce365 : h257 112 3 = h18_0 112 3 := ((my_up_fld fh257 (by decide)).trans ((my_up_ne fh255 (by omega)).trans ((my_up_fld fh253 (by decide)).trans (rfl : h18_0 112 3 = h18_0 112 3))))
                have ce366 : h257 112 4 = h18_0 112 4 := ((my_up_ne fh257 (by omega)).trans ((my_up_fld fh255 (by decide)).trans ((my_up_fld fh253 (by decide)).trans (rfl : h18_0 112 4 = h18_0 112 4))))
                have ce367 : h257 112 5 = h18_0 112 5 := ((my_up_fld fh257 (by decide)).trans ((my_up_fld fh255 (by decide)).trans ((my_up_fld fh253 (by decide)).trans (rfl : h18_0 112 5 = h18_0 112 5))))
                have ce368 : h257 113 0 = h18_0 113 0 := ((my_up_fld fh257 (by decide)).trans ((my_up_fld fh255 (by decide)).trans ((my_up_fld fh253 (by decide)).trans (rfl : h18_0 113 0 = h18_0 113 0))))
                have ce369 : h257 113 1 = h18_0 113 1 := ((my_up_fld fh257 (by decide)).trans ((my_up_fld fh255 (by decide)).trans ((my_up_fld fh253 (by decide)).trans (rfl : h18_0 113 1 = h18_0 113 1))))
                have ce370 : h257 113 2 = h18_0 113 2 := ((my_up_fld fh257 (by decide)).trans ((my_up_fld fh255 (by decide)).trans ((my_up_ne fh253 (by omega)).trans (rfl : h18_0 113 2 = h18_0 113 2))))
                have ce371 : h257 113 3 = h18_0 113 3 := ((my_up_fld fh257 (by decide)).trans ((my_up_ne fh255 (by omega)).trans ((my_up_fld fh253 (by decide)).trans (rfl : h18_0 113 3 = h18_0 113 3))))
                have ce372 : h257 113 4 = h18_0 113 4 := ((my_up_ne fh257 (by omega)).trans ((my_up_fld fh255 (by decide)).trans ((my_up_fld fh253 (by decide)).trans (rfl : h18_0 113 4 = h18_0 113 4))))
                have ce373 : h257 113 5 = h18_0 113 5 := ((my_up_fld fh257 (by decide)).trans ((my_up_fld fh255 (by decide)).trans ((my_up_fld fh253 (by decide)).trans (rfl : h18_0 113 5 = h18_0 113 5))))
                have a96 : ∀ j : Int, h257 96 j = h18_0 96 j := fun j => ((my_up_role fh257 is_96 is_111 rfl).trans ((my_up_role fh255 is_96 is_111 rfl).trans ((my_up_role fh253 is_96 is_111 rfl).trans (rfl : h18_0 96 j = h18_0 96 j))))
                have a99 : ∀ j : Int, h257 99 j = h18_0 99 j := fun j => ((my_up_role fh257 is_99 is_111 rfl).trans ((my_up_role fh255 is_99 is_111 rfl).trans ((my_up_role fh253 is_99 is_111 rfl).trans (rfl : h18_0 99 j = h18_0 99 j))))
                have a101 : ∀ j : Int, h257 101 j = h18_0 101 j := fun j => ((my_up_role fh257 is_101 is_111 rfl).trans ((my_up_role fh255 is_101 is_111 rfl).trans ((my_up_role fh253 is_101 is_111 rfl).trans (rfl : h18_0 101 j = h18_0 101 j))))
                have a103 : ∀ j : Int, h257 103 j = h18_0 103 j := fun j => ((my_up_role fh257 is_103 is_111 rfl).trans ((my_up_role fh255 is_103 is_111 rfl).trans ((my_up_role fh253 is_103 is_111 rfl).trans (rfl : h18_0 103 j = h18_0 103 j))))
                have bf9 : ∀ k j : Int, 0 ≤ k → (k < 94 ∨ 120 ≤ k ∧ k < 151) → h257 k j = h k j := fun k j k0 k1 => (((my_up_ne fh257 (by omega)).trans ((my_up_ne fh255 (by omega)).trans (my_up_ne fh253 (by omega)))).trans (bf_18_0 k j k0 k1))
                have o96 : ∀ j : Int, j ≠ p18_2 → h257 96 j = h18_0 96 j := fun j hj => ((my_up_ne fh257 (by omega)).trans ((my_up_ne fh255 (by omega)).trans (my_up_ne fh253 (by omega))))
                have kp9 : KpS h18_0 h257 := ⟨⟨by omega, by omega, by omega, by omega, by omega, by omega, by omega, by omega, a99, a101, a103⟩, ⟨by omega, by omega⟩, ⟨by omega, by omega, by omega, by omega, by omega, by omega⟩, ⟨by omega, by omega, by omega, by omega, by omega, by omega⟩⟩
                exact J174_0 21 (z18_l2) (0) (v348) (0) ((h18_0 94 13)) h257 (gh257) (by omega) (by omega) (by omega) (by omega) (by omega) (by omega) (by omega) (by omega) (by omega) (((my_up_role fh257 is_94 is_111 rfl).trans ((my_up_role fh255 is_94 is_111 rfl).trans ((my_up_role fh253 is_94 is_111 rfl).trans (rfl : h18_0 94 13 = h18_0 94 13)))).trans (by omega)) Lst_h257 Ln_h257 Td_h257 (by first | rfl | exact tl_18_0 | exact tl_174_0 | assumption | omega) (by first | exact le_18_0 | exact le_174_0 | assumption | omega) (by first | exact lv_18_0 | exact lv_174_0 | (rw [show r18_0 = h 27 x1 by omega] at lv0; exact lv0) | assumption | omega) (by first | assumption | omega | (subst_vars; omega) | omega) (by first | assumption | omega | (subst_vars; omega) | omega) (by first | assumption | omega | (subst_vars; omega) | omega) (by first | exact TvN_0 tv_18_0 a96 kp9 | exact TvN_n (by omega) tn_174_0 (fun _ _ => rfl) KpS.rf (Qn_eq (by omega)) | exact TvN_n (by omega) tn_174_0 (fun _ _ => rfl) KpS.rf (Qn_ok (fun z => al (alI.mpr z))) | exact TvN_n (by omega) tn_174_0 o96 kp9 (fun z => sa (qI.mpr z)) | exact TvN_y (by omega) tn_174_0 o96 kp7 no8 kpp sm9 (by omega) (by omega) (by omega) (by omega) q7 | assumption | omega) (by first | exact chI.mp ch8 | exact ch_174_0 | assumption | omega) (by first | (intro z; exfalso; omega) | (intro _; exact ⟨nt8, by omega⟩) | exact nt_174_0 | assumption | omega) (by first | exact ol8 | exact ol_174_0 | assumption | omega) (by first | assumption | omega | (subst_vars; omega) | omega) (by first | assumption | omega | (subst_vars; omega) | omega) (by first | assumption | omega | (subst_vars; omega) | omega) (bf9) (by omega)
              ·
                refine w_goto (t := 308) gz_98_156 rfl ?_
                refine w_iinc (ls' := [(2, 94), (0, x1), (1, z18_l2), (9, 0), (2, r18_0), (0, p18_1), (0, (p18_2 + 1)), (0, 0), (9, 0), (9, 0)]) gz_98_308 rfl gm_98 rfl rfl rfl ⟨by omega, by omega⟩ ?_
                refine w_goto (t := 18) gz_98_311 rfl ?_
                have ce374 : h257 94 11 = h18_0 94 11 := ((my_up_role fh257 is_94 is_111 rfl).trans ((my_up_role fh255 is_94 is_111 rfl).trans ((my_up_role fh253 is_94 is_111 rfl).trans (rfl : h18_0 94 11 = h18_0 94 11))))
                have ce375 : h257 94 12 = h18_0 94 12 := ((my_up_role fh257 is_94 is_111 rfl).trans ((my_up_role fh255 is_94 is_111 rfl).trans ((my_up_role fh253 is_94 is_111 rfl).trans (rfl : h18_0 94 12 = h18_0 94 12))))
                have ce376 : h257 94 13 = (h18_0 94 13) := ((my_up_role fh257 is_94 is_111 rfl).trans ((my_up_role fh255 is_94 is_111 rfl).trans ((my_up_role fh253 is_94 is_111 rfl).trans (rfl : h18_0 94 13 = h18_0 94 13))))
                have ce377 : h257 94 14 = v344 := ev344.symm
                have ce378 : h257 94 15 = h18_0 94 15 := ((my_up_role fh257 is_94 is_111 rfl).trans ((my_up_role fh255 is_94 is_111 rfl).trans ((my_up_role fh253 is_94 is_111 rfl).trans (rfl : h18_0 94 15 = h18_0 94 15))))
                have ce379 : h257 94 16 = h18_0 94 16 := ((my_up_role fh257 is_94 is_111 rfl).trans ((my_up_role fh255 is_94 is_111 rfl).trans ((my_up_role fh253 is_94 is_111 rfl).trans (rfl : h18_0 94 16 = h18_0 94 16))))
                have ce380 : h257 98 0 = h18_0 98 0 := ((my_up_role fh257 is_98 is_111 rfl).trans ((my_up_role fh255 is_98 is_111 rfl).trans ((my_up_role fh253 is_98 is_111 rfl).trans (rfl : h18_0 98 0 = h18_0 98 0))))
                have ce381 : h257 98 1 = h18_0 98 1 := ((my_up_role fh257 is_98 is_111 rfl).trans ((my_up_role fh255 is_98 is_111 rfl).trans ((my_up_role fh253 is_98 is_111 rfl).trans (rfl : h18_0 98 1 = h18_0 98 1))))
                have ce382 : h257 102 0 = h18_0 102 0 := ((my_up_role fh257 is_102 is_111 rfl).trans ((my_up_role fh255 is_102 is_111 rfl).trans ((my_up_role fh253 is_102 is_111 rfl).trans (rfl : h18_0 102 0 = h18_0 102 0))))
                have ce383 : h257 102 1 = h18_0 102 1 := ((my_up_role fh257 is_102 is_111 rfl).trans ((my_up_role fh255 is_102 is_111 rfl).trans ((my_up_role fh253 is_102 is_111 rfl).trans (rfl : h18_0 102 1 = h18_0 102 1))))
                have ce384 : h257 112 0 = h18_0 112 0 := ((my_up_fld fh257 (by decide)).trans ((my_up_fld fh255 (by decide)).trans ((my_up_fld fh253 (by decide)).trans (rfl : h18_0 112 0 = h18_0 112 0))))
                have ce385 : h257 112 1 = h18_0 112 1 := ((my_up_fld fh257 (by decide)).trans ((my_up_fld fh255 (by decide)).trans ((my_up_fld fh253 (by decide)).trans (rfl : h18_0 112 1 = h18_0 112 1))))
                have ce386 : h257 112 2 = h18_0 112 2 := ((my_up_fld fh257 (by decide)).trans ((my_up_fld fh255 (by decide)).trans ((my_up_ne fh253 (by omega)).trans (rfl : h18_0 112 2 = h18_0 112 2))))
                have ce387 : h257 112 3 = h18_0 112 3 := ((my_up_fld fh257 (by decide)).trans ((my_up_ne fh255 (by omega)).trans ((my_up_fld fh253 (by decide)).trans (rfl : h18_0 112 3 = h18_0 112 3))))
                have ce388 : h257 112 4 = h18_0 112 4 := ((my_up_ne fh257 (by omega)).trans ((my_up_fld fh255 (by decide)).trans ((my_up_fld fh253 (by decide)).trans (rfl : h18_0 112 4 = h18_0 112 4))))
                have ce389 : h257 112 5 = h18_0 112 5 := ((my_up_fld fh257 (by decide)).trans ((my_up_fld fh255 (by decide)).trans ((my_up_fld fh253 (by decide)).trans (rfl : h18_0 112 5 = h18_0 112 5))))
                have ce390 : h257 113 0 = h18_0 113 0 := ((my_up_fld fh257 (by decide)).trans ((my_up_fld fh255 (by decide)).trans ((my_up_fld fh253 (by decide)).trans (rfl : h18_0 113 0 = h18_0 113 0))))
                have ce391 : h257 113 1 = h18_0 113 1 := ((my_up_fld fh257 (by decide)).trans ((my_up_fld fh255 (by decide)).trans ((my_up_fld fh253 (by decide)).trans (rfl : h18_0 113 1 = h18_0 113 1))))
                have ce392 : h257 113 2 = h18_0 113 2 := ((my_up_fld fh257 (by decide)).trans ((my_up_fld fh255 (by decide)).trans ((my_up_ne fh253 (by omega)).trans (rfl : h18_0 113 2 = h18_0 113 2))))
                have ce393 : h257 113 3 = h18_0 113 3 := ((my_up_fld fh257 (by decide)).trans ((my_up_ne fh255 (by omega)).trans ((my_up_fld fh253 (by decide)).trans (rfl : h18_0 113 3 = h18_0 113 3))))
                have ce394 : h257 113 4 = h18_0 113 4 := ((my_up_ne fh257 (by omega)).trans ((my_up_fld fh255 (by decide)).trans ((my_up_fld fh253 (by decide)).trans (rfl : h18_0 113 4 = h18_0 113 4))))
                have ce395 : h257 113 5 = h18_0 113 5 := ((my_up_fld fh257 (by decide)).trans ((my_up_fld fh255 (by decide)).trans ((my_up_fld fh253 (by decide)).trans (rfl : h18_0 113 5 = h18_0 113 5))))
                have a96 : ∀ j : Int, h257 96 j = h18_0 96 j := fun j => ((my_up_role fh257 is_96 is_111 rfl).trans ((my_up_role fh255 is_96 is_111 rfl).trans ((my_up_role fh253 is_96 is_111 rfl).trans (rfl : h18_0 96 j = h18_0 96 j))))
                have a99 : ∀ j : Int, h257 99 j = h18_0 99 j := fun j => ((my_up_role fh257 is_99 is_111 rfl).trans ((my_up_role fh255 is_99 is_111 rfl).trans ((my_up_role fh253 is_99 is_111 rfl).trans (rfl : h18_0 99 j = h18_0 99 j))))
                have a101 : ∀ j : Int, h257 101 j = h18_0 101 j := fun j => ((my_up_role fh257 is_101 is_111 rfl).trans ((my_up_role fh255 is_101 is_111 rfl).trans ((my_up_role fh253 is_101 is_111 rfl).trans (rfl : h18_0 101 j = h18_0 101 j))))
                have a103 : ∀ j : Int, h257 103 j = h18_0 103 j := fun j => ((my_up_role fh257 is_103 is_111 rfl).trans ((my_up_role fh255 is_103 is_111 rfl).trans ((my_up_role fh253 is_103 is_111 rfl).trans (rfl : h18_0 103 j = h18_0 103 j))))
                have bf9 : ∀ k j : Int, 0 ≤ k → (k < 94 ∨ 120 ≤ k ∧ k < 151) → h257 k j = h k j := fun k j k0 k1 => (((my_up_ne fh257 (by omega)).trans ((my_up_ne fh255 (by omega)).trans (my_up_ne fh253 (by omega)))).trans (bf_18_0 k j k0 k1))
                have kp9 : KpS h18_0 h257 := ⟨⟨by omega, by omega, by omega, by omega, by omega, by omega, by omega, by omega, a99, a101, a103⟩, ⟨by omega, by omega⟩, ⟨by omega, by omega, by omega, by omega, by omega, by omega⟩, ⟨by omega, by omega, by omega, by omega, by omega, by omega⟩⟩
                refine w_weak (ls' := [(2, 94), (0, x1), (1, z18_l2), (9, 0), (2, r18_0), (0, p18_1), (0, (p18_2 + 1)), (9, 0), (9, 0), (9, 0)]) (wk_e (wk_e (wk_e (wk_9 (wk_e (wk_e (wk_e (wk_9 (wk_9 (wk_9 wk_n)))))))))) ?_
                exact ih_18_0 (z18_l2) (r18_0) (p18_1) ((p18_2 + 1)) h257 (gh257) tr18_0_18_0 (by omega) (by omega) Lst_h257 Ln_h257 Td_h257 (by first | rfl | exact tl_18_0 | exact tl_174_0 | assumption | omega) (by first | exact le_18_0 | exact le_174_0 | assumption | omega) (by first | exact lv_18_0 | exact lv_174_0 | (rw [show r18_0 = h 27 x1 by omega] at lv0; exact lv0) | assumption | omega) (by first | exact TvO_0 hd | exact TvO_e (by omega) (by omega) (by omega) tn_174_0 (by first | exact Or.inl (by omega) | exact Or.inr ⟨by omega, by omega, by omega⟩) fh257 (by omega) | exact TvO_n (by omega) tv_18_0 a96 kp9 (Qn_ch (fun z => ch8 (chI.mpr z))) | exact TvO_n (by omega) tv_18_0 a96 kp9 (Qn_nt hk lv_18_0 htp (by omega) (by omega) nt8 (by omega)) | assumption | omega) (bf9) (by omega)
          ·
            refine w_iconst gz_69_10 (by decide) ?_
            refine w_goto (t := 15) gz_69_11 rfl ?_
            refine w_bret gz_69_15 gm_69 (by omega) (by omega) ?_
            show wp l rho (d + 4) 98 100 [(2, 94), (0, x1), (1, z18_l2), (9, 0), (2, r18_0), (0, p18_1), (0, p18_2), (9, 0), (9, 0), (9, 0)] [(0, 1)] h257 Q
            have hb1 := hasBit_z (M := p18_1) (C := 4 * (p18_2 / 80) + p18_2 % 4) (by assumption) (by assumption) (by assumption) (by omega) (by omega) (by omega) (by omega)
            refine w_ifeq (t := 132) gz_98_100 rfl (fun u396 => by exfalso; omega) (fun u396 => ?_)
            refine w_lload_n gz_98_103 rfl ?_
            refine w_aload_n gz_98_104 rfl ?_
            refine w_getX (v := 111) gz_98_105 is_94 rd_2 rfl (by decide) rfl ?_
            refine v_getI (j := 2) gz_98_108 rfl is_111 rd_7 rfl (fun v398 ev398 pv398 qv398 => ?_)
            have zv398 := ev398.trans ev259.symm
            refine w_bipush gz_98_111 (by decide) ?_
            refine w_imul gz_98_113 ⟨by omega, by omega⟩ ?_
            refine w_aload_n gz_98_114 rfl ?_
            refine w_getX (v := 111) gz_98_115 is_94 rd_2 rfl (by decide) rfl ?_
            refine v_getI (j := 3) gz_98_118 rfl is_111 rd_7 rfl (fun v400 ev400 pv400 qv400 => ?_)
            have zv400 := ev400.trans ((my_up_fld fh257 (by decide)).trans (my_up_self fh255))
            refine w_iadd gz_98_121 ⟨by omega, by omega⟩ ?_
            refine w_inS (k := 0) (as := [(0, ((v398 * 20) + v400)), (1, z18_l2)]) (r := []) (ls0 := [(1, z18_l2), (9, 0), (0, ((v398 * 20) + v400))]) gz_98_122 gm_69 rfl rfl rfl rfl rfl rfl ?_
            refine w_lload_n gz_69_0 rfl ?_
            refine w_iload_n gz_69_1 rfl ?_
            refine w_lshrX gz_69_2 (fun v401 ev401 pv401 => ?_)
            refine w_lconst gz_69_3 ?_
            refine w_landX gz_69_4 (fun v402 ev402 pv402 => ?_)
            refine w_lconst gz_69_5 ?_
            refine w_lcmpE gz_69_6 (fun v403 pv403 qv403 xv403 => ?_)
            refine w_ifeq (t := 14) gz_69_7 rfl (fun u404 => ?_) (fun u404 => ?_)
            ·
              refine w_iconst gz_69_14 (by decide) ?_
              refine w_bret gz_69_15 gm_69 (by omega) (by omega) ?_
              show wp l rho (d + 4) 98 125 [(2, 94), (0, x1), (1, z18_l2), (9, 0), (2, r18_0), (0, p18_1), (0, p18_2), (9, 0), (9, 0), (9, 0)] [(0, 0)] h257 Q
              have hb2 := hasBit_z (M := z18_l2) (C := 20 * (p18_2 / 80) + p18_2 / 4 % 20) (by assumption) (by assumption) (by assumption) (by omega) (by omega) (by omega) (by omega)
              refine w_ifeq (t := 132) gz_98_125 rfl (fun u405 => ?_) (fun u405 => by exfalso; omega)
              refine w_iconst gz_98_132 (by decide) ?_
              have nt8 : NtO p18_1 x2 p18_2 := by rw [← tl_18_0]; first | exact Or.inl (hb1.1 (by assumption)) | exact Or.inr (hb2.1 (by assumption))
              refine w_istore (ls' := [(2, 94), (0, x1), (1, z18_l2), (9, 0), (2, r18_0), (0, p18_1), (0, p18_2), (0, 0), (9, 0), (9, 0)]) gz_98_133 gm_98 rfl rfl rfl ?_
              refine w_aload_n gz_98_135 rfl ?_
              refine w_aload gz_98_136 rfl ?_
              refine w_inv (k := 0) (as := [(2, r18_0)]) (r := []) (x := 94) (ls0 := [(2, 94), (2, r18_0)]) gz_98_138 gm_101 rfl is_94 rd_2 rfl rfl rfl rfl rfl (c_Desk_isChangeable5 (d := (d + 2)) (x1 := r18_0) tr18_0_18_0 (by first | assumption | exact no_such_saying | exact Fp_told (by omega) (by omega) | omega | (subst_vars; omega) | omega) (fun xp406 => ?_) (fun xp407 => ?_))
              ·
                show wp l rho (d + 4) 98 141 [(2, 94), (0, x1), (1, z18_l2), (9, 0), (2, r18_0), (0, p18_1), (0, p18_2), (0, 0), (9, 0), (9, 0)] [(0, 0)] h257 Q
                have ch8 := xp406
                have ce408 : h257 111 2 = v398 := ev398.symm
                have ce409 : h257 111 3 = v400 := ev400.symm
                have ce410 : h257 111 4 = v261 := ev261.symm
                have ce411 : h257 94 11 = h18_0 94 11 := ((my_up_role fh257 is_94 is_111 rfl).trans ((my_up_role fh255 is_94 is_111 rfl).trans ((my_up_role fh253 is_94 is_111 rfl).trans (rfl : h18_0 94 11 = h18_0 94 11))))
                have ce412 : h257 94 12 = h18_0 94 12 := ((my_up_role fh257 is_94 is_111 rfl).trans ((my_up_role fh255 is_94 is_111 rfl).trans ((my_up_role fh253 is_94 is_111 rfl).trans (rfl : h18_0 94 12 = h18_0 94 12))))
                have ce413 : h257 94 13 = (h18_0 94 13) := ((my_up_role fh257 is_94 is_111 rfl).trans ((my_up_role fh255 is_94 is_111 rfl).trans ((my_up_role fh253 is_94 is_111 rfl).trans (rfl : h18_0 94 13 = h18_0 94 13))))
                have ce414 : h257 94 14 = h18_0 94 14 := ((my_up_role fh257 is_94 is_111 rfl).trans ((my_up_role fh255 is_94 is_111 rfl).trans ((my_up_role fh253 is_94 is_111 rfl).trans (rfl : h18_0 94 14 = h18_0 94 14))))
                have ce415 : h257 94 15 = h18_0 94 15 := ((my_up_role fh257 is_94 is_111 rfl).trans ((my_up_role fh255 is_94 is_111 rfl).trans ((my_up_role fh253 is_94 is_111 rfl).trans (rfl : h18_0 94 15 = h18_0 94 15))))
                have ce416 : h257 94 16 = h18_0 94 16 := ((my_up_role fh257 is_94 is_111 rfl).trans ((my_up_role fh255 is_94 is_111 rfl).trans ((my_up_role fh253 is_94 is_111 rfl).trans (rfl : h18_0 94 16 = h18_0 94 16))))
                have ce417 : h257 98 0 = h18_0 98 0 := ((my_up_role fh257 is_98 is_111 rfl).trans ((my_up_role fh255 is_98 is_111 rfl).trans ((my_up_role fh253 is_98 is_111 rfl).trans (rfl : h18_0 98 0 = h18_0 98 0))))
                have ce418 : h257 98 1 = h18_0 98 1 := ((my_up_role fh257 is_98 is_111 rfl).trans ((my_up_role fh255 is_98 is_111 rfl).trans ((my_up_role fh253 is_98 is_111 rfl).trans (rfl : h18_0 98 1 = h18_0 98 1))))
                have ce419 : h257 102 0 = h18_0 102 0 := ((my_up_role fh257 is_102 is_111 rfl).trans ((my_up_role fh255 is_102 is_111 rfl).trans ((my_up_role fh253 is_102 is_111 rfl).trans (rfl : h18_0 102 0 = h18_0 102 0))))
                have ce420 : h257 102 1 = h18_0 102 1 := ((my_up_role fh257 is_102 is_111 rfl).trans ((my_up_role fh255 is_102 is_111 rfl).trans ((my_up_role fh253 is_102 is_111 rfl).trans (rfl : h18_0 102 1 = h18_0 102 1))))
                have ce421 : h257 112 0 = h18_0 112 0 := ((my_up_fld fh257 (by decide)).trans ((my_up_fld fh255 (by decide)).trans ((my_up_fld fh253 (by decide)).trans (rfl : h18_0 112 0 = h18_0 112 0))))
                have ce422 : h257 112 1 = h18_0 112 1 := ((my_up_fld fh257 (by decide)).trans ((my_up_fld fh255 (by decide)).trans ((my_up_fld fh253 (by decide)).trans (rfl : h18_0 112 1 = h18_0 112 1))))
                have ce423 : h257 112 2 = h18_0 112 2 := ((my_up_fld fh257 (by decide)).trans ((my_up_fld fh255 (by decide)).trans ((my_up_ne fh253 (by omega)).trans (rfl : h18_0 112 2 = h18_0 112 2))))
                have ce424 : h257 112 3 = h18_0 112 3 := ((my_up_fld fh257 (by decide)).trans ((my_up_ne fh255 (by omega)).trans ((my_up_fld fh253 (by decide)).trans (rfl : h18_0 112 3 = h18_0 112 3))))
                have ce425 : h257 112 4 = h18_0 112 4 := ((my_up_ne fh257 (by omega)).trans ((my_up_fld fh255 (by decide)).trans ((my_up_fld fh253 (by decide)).trans (rfl : h18_0 112 4 = h18_0 112 4))))
                have ce426 : h257 112 5 = h18_0 112 5 := ((my_up_fld fh257 (by decide)).trans ((my_up_fld fh255 (by decide)).trans ((my_up_fld fh253 (by decide)).trans (rfl : h18_0 112 5 = h18_0 112 5))))
                have ce427 : h257 113 0 = h18_0 113 0 := ((my_up_fld fh257 (by decide)).trans ((my_up_fld fh255 (by decide)).trans ((my_up_fld fh253 (by decide)).trans (rfl : h18_0 113 0 = h18_0 113 0))))
                have ce428 : h257 113 1 = h18_0 113 1 := ((my_up_fld fh257 (by decide)).trans ((my_up_fld fh255 (by decide)).trans ((my_up_fld fh253 (by decide)).trans (rfl : h18_0 113 1 = h18_0 113 1))))
                have ce429 : h257 113 2 = h18_0 113 2 := ((my_up_fld fh257 (by decide)).trans ((my_up_fld fh255 (by decide)).trans ((my_up_ne fh253 (by omega)).trans (rfl : h18_0 113 2 = h18_0 113 2))))
                have ce430 : h257 113 3 = h18_0 113 3 := ((my_up_fld fh257 (by decide)).trans ((my_up_ne fh255 (by omega)).trans ((my_up_fld fh253 (by decide)).trans (rfl : h18_0 113 3 = h18_0 113 3))))
                have ce431 : h257 113 4 = h18_0 113 4 := ((my_up_ne fh257 (by omega)).trans ((my_up_fld fh255 (by decide)).trans ((my_up_fld fh253 (by decide)).trans (rfl : h18_0 113 4 = h18_0 113 4))))
                have ce432 : h257 113 5 = h18_0 113 5 := ((my_up_fld fh257 (by decide)).trans ((my_up_fld fh255 (by decide)).trans ((my_up_fld fh253 (by decide)).trans (rfl : h18_0 113 5 = h18_0 113 5))))
                have a96 : ∀ j : Int, h257 96 j = h18_0 96 j := fun j => ((my_up_role fh257 is_96 is_111 rfl).trans ((my_up_role fh255 is_96 is_111 rfl).trans ((my_up_role fh253 is_96 is_111 rfl).trans (rfl : h18_0 96 j = h18_0 96 j))))
                have a99 : ∀ j : Int, h257 99 j = h18_0 99 j := fun j => ((my_up_role fh257 is_99 is_111 rfl).trans ((my_up_role fh255 is_99 is_111 rfl).trans ((my_up_role fh253 is_99 is_111 rfl).trans (rfl : h18_0 99 j = h18_0 99 j))))
                have a101 : ∀ j : Int, h257 101 j = h18_0 101 j := fun j => ((my_up_role fh257 is_101 is_111 rfl).trans ((my_up_role fh255 is_101 is_111 rfl).trans ((my_up_role fh253 is_101 is_111 rfl).trans (rfl : h18_0 101 j = h18_0 101 j))))
                have a103 : ∀ j : Int, h257 103 j = h18_0 103 j := fun j => ((my_up_role fh257 is_103 is_111 rfl).trans ((my_up_role fh255 is_103 is_111 rfl).trans ((my_up_role fh253 is_103 is_111 rfl).trans (rfl : h18_0 103 j = h18_0 103 j))))
                have kp9 : KpS h18_0 h257 := ⟨⟨by omega, by omega, by omega, by omega, by omega, by omega, by omega, by omega, a99, a101, a103⟩, ⟨by omega, by omega⟩, ⟨by omega, by omega, by omega, by omega, by omega, by omega⟩, ⟨by omega, by omega, by omega, by omega, by omega, by omega⟩⟩
                have chI := CH_i (x := p18_2) (g := h257) (L := r18_0) (a := h257 111 2) (b := h257 111 3) (c := h257 111 4) hk (by omega) (by omega) le_18_0 (fun j => (a96 j).trans (tv_18_0.1 j)) (fun j => my_fr.at gh257 pis_2 rfl) (my_fr.at gh257 (n_Ln.2.2.1 _ (by omega) (by omega)) rfl) (by omega) (by omega) (by omega)
                have as8 : h257 94 14 = h 94 14 := kp9.1.2.1.trans tv_18_0.2.1.2.1
                refine w_ifeq (t := 308) gz_98_141 rfl (fun u433 => ?_) (fun u433 => by exfalso; omega)
                refine w_iinc (ls' := [(2, 94), (0, x1), (1, z18_l2), (9, 0), (2, r18_0), (0, p18_1), (0, (p18_2 + 1)), (0, 0), (9, 0), (9, 0)]) gz_98_308 rfl gm_98 rfl rfl rfl ⟨by omega, by omega⟩ ?_
                refine w_goto (t := 18) gz_98_311 rfl ?_
                have ce434 : h257 94 11 = h18_0 94 11 := ((my_up_role fh257 is_94 is_111 rfl).trans ((my_up_role fh255 is_94 is_111 rfl).trans ((my_up_role fh253 is_94 is_111 rfl).trans (rfl : h18_0 94 11 = h18_0 94 11))))
                have ce435 : h257 94 12 = h18_0 94 12 := ((my_up_role fh257 is_94 is_111 rfl).trans ((my_up_role fh255 is_94 is_111 rfl).trans ((my_up_role fh253 is_94 is_111 rfl).trans (rfl : h18_0 94 12 = h18_0 94 12))))
                have ce436 : h257 94 13 = (h18_0 94 13) := ((my_up_role fh257 is_94 is_111 rfl).trans ((my_up_role fh255 is_94 is_111 rfl).trans ((my_up_role fh253 is_94 is_111 rfl).trans (rfl : h18_0 94 13 = h18_0 94 13))))
                have ce437 : h257 94 14 = h18_0 94 14 := ((my_up_role fh257 is_94 is_111 rfl).trans ((my_up_role fh255 is_94 is_111 rfl).trans ((my_up_role fh253 is_94 is_111 rfl).trans (rfl : h18_0 94 14 = h18_0 94 14))))
                have ce438 : h257 94 15 = h18_0 94 15 := ((my_up_role fh257 is_94 is_111 rfl).trans ((my_up_role fh255 is_94 is_111 rfl).trans ((my_up_role fh253 is_94 is_111 rfl).trans (rfl : h18_0 94 15 = h18_0 94 15))))
                have ce439 : h257 94 16 = h18_0 94 16 := ((my_up_role fh257 is_94 is_111 rfl).trans ((my_up_role fh255 is_94 is_111 rfl).trans ((my_up_role fh253 is_94 is_111 rfl).trans (rfl : h18_0 94 16 = h18_0 94 16))))
                have ce440 : h257 98 0 = h18_0 98 0 := ((my_up_role fh257 is_98 is_111 rfl).trans ((my_up_role fh255 is_98 is_111 rfl).trans ((my_up_role fh253 is_98 is_111 rfl).trans (rfl : h18_0 98 0 = h18_0 98 0))))
                have ce441 : h257 98 1 = h18_0 98 1 := ((my_up_role fh257 is_98 is_111 rfl).trans ((my_up_role fh255 is_98 is_111 rfl).trans ((my_up_role fh253 is_98 is_111 rfl).trans (rfl : h18_0 98 1 = h18_0 98 1))))
                have ce442 : h257 102 0 = h18_0 102 0 := ((my_up_role fh257 is_102 is_111 rfl).trans ((my_up_role fh255 is_102 is_111 rfl).trans ((my_up_role fh253 is_102 is_111 rfl).trans (rfl : h18_0 102 0 = h18_0 102 0))))
                have ce443 : h257 102 1 = h18_0 102 1 := ((my_up_role fh257 is_102 is_111 rfl).trans ((my_up_role fh255 is_102 is_111 rfl).trans ((my_up_role fh253 is_102 is_111 rfl).trans (rfl : h18_0 102 1 = h18_0 102 1))))
                have ce444 : h257 112 0 = h18_0 112 0 := ((my_up_fld fh257 (by decide)).trans ((my_up_fld fh255 (by decide)).trans ((my_up_fld fh253 (by decide)).trans (rfl : h18_0 112 0 = h18_0 112 0))))
                have ce445 : h257 112 1 = h18_0 112 1 := ((my_up_fld fh257 (by decide)).trans ((my_up_fld fh255 (by decide)).trans ((my_up_fld fh253 (by decide)).trans (rfl : h18_0 112 1 = h18_0 112 1))))
                have ce446 : h257 112 2 = h18_0 112 2 := ((my_up_fld fh257 (by decide)).trans ((my_up_fld fh255 (by decide)).trans ((my_up_ne fh253 (by omega)).trans (rfl : h18_0 112 2 = h18_0 112 2))))
                have ce447 : h257 112 3 = h18_0 112 3 := ((my_up_fld fh257 (by decide)).trans ((my_up_ne fh255 (by omega)).trans ((my_up_fld fh253 (by decide)).trans (rfl : h18_0 112 3 = h18_0 112 3))))
                have ce448 : h257 112 4 = h18_0 112 4 := ((my_up_ne fh257 (by omega)).trans ((my_up_fld fh255 (by decide)).trans ((my_up_fld fh253 (by decide)).trans (rfl : h18_0 112 4 = h18_0 112 4))))
                have ce449 : h257 112 5 = h18_0 112 5 := ((my_up_fld fh257 (by decide)).trans ((my_up_fld fh255 (by decide)).trans ((my_up_fld fh253 (by decide)).trans (rfl : h18_0 112 5 = h18_0 112 5))))
                have ce450 : h257 113 0 = h18_0 113 0 := ((my_up_fld fh257 (by decide)).trans ((my_up_fld fh255 (by decide)).trans ((my_up_fld fh253 (by decide)).trans (rfl : h18_0 113 0 = h18_0 113 0))))
                have ce451 : h257 113 1 = h18_0 113 1 := ((my_up_fld fh257 (by decide)).trans ((my_up_fld fh255 (by decide)).trans ((my_up_fld fh253 (by decide)).trans (rfl : h18_0 113 1 = h18_0 113 1))))
                have ce452 : h257 113 2 = h18_0 113 2 := ((my_up_fld fh257 (by decide)).trans ((my_up_fld fh255 (by decide)).trans ((my_up_ne fh253 (by omega)).trans (rfl : h18_0 113 2 = h18_0 113 2))))
                have ce453 : h257 113 3 = h18_0 113 3 := ((my_up_fld fh257 (by decide)).trans ((my_up_ne fh255 (by omega)).trans ((my_up_fld fh253 (by decide)).trans (rfl : h18_0 113 3 = h18_0 113 3))))
                have ce454 : h257 113 4 = h18_0 113 4 := ((my_up_ne fh257 (by omega)).trans ((my_up_fld fh255 (by decide)).trans ((my_up_fld fh253 (by decide)).trans (rfl : h18_0 113 4 = h18_0 113 4))))
                have ce455 : h257 113 5 = h18_0 113 5 := ((my_up_fld fh257 (by decide)).trans ((my_up_fld fh255 (by decide)).trans ((my_up_fld fh253 (by decide)).trans (rfl : h18_0 113 5 = h18_0 113 5))))
                have a96 : ∀ j : Int, h257 96 j = h18_0 96 j := fun j => ((my_up_role fh257 is_96 is_111 rfl).trans ((my_up_role fh255 is_96 is_111 rfl).trans ((my_up_role fh253 is_96 is_111 rfl).trans (rfl : h18_0 96 j = h18_0 96 j))))
                have a99 : ∀ j : Int, h257 99 j = h18_0 99 j := fun j => ((my_up_role fh257 is_99 is_111 rfl).trans ((my_up_role fh255 is_99 is_111 rfl).trans ((my_up_role fh253 is_99 is_111 rfl).trans (rfl : h18_0 99 j = h18_0 99 j))))
                have a101 : ∀ j : Int, h257 101 j = h18_0 101 j := fun j => ((my_up_role fh257 is_101 is_111 rfl).trans ((my_up_role fh255 is_101 is_111 rfl).trans ((my_up_role fh253 is_101 is_111 rfl).trans (rfl : h18_0 101 j = h18_0 101 j))))
                have a103 : ∀ j : Int, h257 103 j = h18_0 103 j := fun j => ((my_up_role fh257 is_103 is_111 rfl).trans ((my_up_role fh255 is_103 is_111 rfl).trans ((my_up_role fh253 is_103 is_111 rfl).trans (rfl : h18_0 103 j = h18_0 103 j))))
                have bf9 : ∀ k j : Int, 0 ≤ k → (k < 94 ∨ 120 ≤ k ∧ k < 151) → h257 k j = h k j := fun k j k0 k1 => (((my_up_ne fh257 (by omega)).trans ((my_up_ne fh255 (by omega)).trans (my_up_ne fh253 (by omega)))).trans (bf_18_0 k j k0 k1))
                have kp9 : KpS h18_0 h257 := ⟨⟨by omega, by omega, by omega, by omega, by omega, by omega, by omega, by omega, a99, a101, a103⟩, ⟨by omega, by omega⟩, ⟨by omega, by omega, by omega, by omega, by omega, by omega⟩, ⟨by omega, by omega, by omega, by omega, by omega, by omega⟩⟩
                refine w_weak (ls' := [(2, 94), (0, x1), (1, z18_l2), (9, 0), (2, r18_0), (0, p18_1), (0, (p18_2 + 1)), (9, 0), (9, 0), (9, 0)]) (wk_e (wk_e (wk_e (wk_9 (wk_e (wk_e (wk_e (wk_9 (wk_9 (wk_9 wk_n)))))))))) ?_
                exact ih_18_0 (z18_l2) (r18_0) (p18_1) ((p18_2 + 1)) h257 (gh257) tr18_0_18_0 (by omega) (by omega) Lst_h257 Ln_h257 Td_h257 (by first | rfl | exact tl_18_0 | exact tl_174_0 | assumption | omega) (by first | exact le_18_0 | exact le_174_0 | assumption | omega) (by first | exact lv_18_0 | exact lv_174_0 | (rw [show r18_0 = h 27 x1 by omega] at lv0; exact lv0) | assumption | omega) (by first | exact TvO_0 hd | exact TvO_e (by omega) (by omega) (by omega) tn_174_0 (by first | exact Or.inl (by omega) | exact Or.inr ⟨by omega, by omega, by omega⟩) fh257 (by omega) | exact TvO_n (by omega) tv_18_0 a96 kp9 (Qn_ch (fun z => ch8 (chI.mpr z))) | exact TvO_n (by omega) tv_18_0 a96 kp9 (Qn_nt hk lv_18_0 htp (by omega) (by omega) nt8 (by omega)) | assumption | omega) (bf9) (by omega)
              ·
                show wp l rho (d + 4) 98 141 [(2, 94), (0, x1), (1, z18_l2), (9, 0), (2, r18_0), (0, p18_1), (0, p18_2), (0, 0), (9, 0), (9, 0)] [(0, 1)] h257 Q
                have ch8 := xp407
                have ce456 : h257 111 2 = v398 := ev398.symm
                have ce457 : h257 111 3 = v400 := ev400.symm
                have ce458 : h257 111 4 = v261 := ev261.symm
                have ce459 : h257 94 11 = h18_0 94 11 := ((my_up_role fh257 is_94 is_111 rfl).trans ((my_up_role fh255 is_94 is_111 rfl).trans ((my_up_role fh253 is_94 is_111 rfl).trans (rfl : h18_0 94 11 = h18_0 94 11))))
                have ce460 : h257 94 12 = h18_0 94 12 := ((my_up_role fh257 is_94 is_111 rfl).trans ((my_up_role fh255 is_94 is_111 rfl).trans ((my_up_role fh253 is_94 is_111 rfl).trans (rfl : h18_0 94 12 = h18_0 94 12))))
                have ce461 : h257 94 13 = (h18_0 94 13) := ((my_up_role fh257 is_94 is_111 rfl).trans ((my_up_role fh255 is_94 is_111 rfl).trans ((my_up_role fh253 is_94 is_111 rfl).trans (rfl : h18_0 94 13 = h18_0 94 13))))
                have ce462 : h257 94 14 = h18_0 94 14 := ((my_up_role fh257 is_94 is_111 rfl).trans ((my_up_role fh255 is_94 is_111 rfl).trans ((my_up_role fh253 is_94 is_111 rfl).trans (rfl : h18_0 94 14 = h18_0 94 14))))
                have ce463 : h257 94 15 = h18_0 94 15 := ((my_up_role fh257 is_94 is_111 rfl).trans ((my_up_role fh255 is_94 is_111 rfl).trans ((my_up_role fh253 is_94 is_111 rfl).trans (rfl : h18_0 94 15 = h18_0 94 15))))
                have ce464 : h257 94 16 = h18_0 94 16 := ((my_up_role fh257 is_94 is_111 rfl).trans ((my_up_role fh255 is_94 is_111 rfl).trans ((my_up_role fh253 is_94 is_111 rfl).trans (rfl : h18_0 94 16 = h18_0 94 16))))
                have ce465 : h257 98 0 = h18_0 98 0 := ((my_up_role fh257 is_98 is_111 rfl).trans ((my_up_role fh255 is_98 is_111 rfl).trans ((my_up_role fh253 is_98 is_111 rfl).trans (rfl : h18_0 98 0 = h18_0 98 0))))
                have ce466 : h257 98 1 = h18_0 98 1 := ((my_up_role fh257 is_98 is_111 rfl).trans ((my_up_role fh255 is_98 is_111 rfl).trans ((my_up_role fh253 is_98 is_111 rfl).trans (rfl : h18_0 98 1 = h18_0 98 1))))
                have ce467 : h257 102 0 = h18_0 102 0 := ((my_up_role fh257 is_102 is_111 rfl).trans ((my_up_role fh255 is_102 is_111 rfl).trans ((my_up_role fh253 is_102 is_111 rfl).trans (rfl : h18_0 102 0 = h18_0 102 0))))
                have ce468 : h257 102 1 = h18_0 102 1 := ((my_up_role fh257 is_102 is_111 rfl).trans ((my_up_role fh255 is_102 is_111 rfl).trans ((my_up_role fh253 is_102 is_111 rfl).trans (rfl : h18_0 102 1 = h18_0 102 1))))
                have ce469 : h257 112 0 = h18_0 112 0 := ((my_up_fld fh257 (by decide)).trans ((my_up_fld fh255 (by decide)).trans ((my_up_fld fh253 (by decide)).trans (rfl : h18_0 112 0 = h18_0 112 0))))
                have ce470 : h257 112 1 = h18_0 112 1 := ((my_up_fld fh257 (by decide)).trans ((my_up_fld fh255 (by decide)).trans ((my_up_fld fh253 (by decide)).trans (rfl : h18_0 112 1 = h18_0 112 1))))
                have ce471 : h257 112 2 = h18_0 112 2 := ((my_up_fld fh257 (by decide)).trans ((my_up_fld fh255 (by decide)).trans ((my_up_ne fh253 (by omega)).trans (rfl : h18_0 112 2 = h18_0 112 2))))
                have ce472 : h257 112 3 = h18_0 112 3 := ((my_up_fld fh257 (by decide)).trans ((my_up_ne fh255 (by omega)).trans ((my_up_fld fh253 (by decide)).trans (rfl : h18_0 112 3 = h18_0 112 3))))
                have ce473 : h257 112 4 = h18_0 112 4 := ((my_up_ne fh257 (by omega)).trans ((my_up_fld fh255 (by decide)).trans ((my_up_fld fh253 (by decide)).trans (rfl : h18_0 112 4 = h18_0 112 4))))
                have ce474 : h257 112 5 = h18_0 112 5 := ((my_up_fld fh257 (by decide)).trans ((my_up_fld fh255 (by decide)).trans ((my_up_fld fh253 (by decide)).trans (rfl : h18_0 112 5 = h18_0 112 5))))
                have ce475 : h257 113 0 = h18_0 113 0 := ((my_up_fld fh257 (by decide)).trans ((my_up_fld fh255 (by decide)).trans ((my_up_fld fh253 (by decide)).trans (rfl : h18_0 113 0 = h18_0 113 0))))
                have ce476 : h257 113 1 = h18_0 113 1 := ((my_up_fld fh257 (by decide)).trans ((my_up_fld fh255 (by decide)).trans ((my_up_fld fh253 (by decide)).trans (rfl : h18_0 113 1 = h18_0 113 1))))
                have ce477 : h257 113 2 = h18_0 113 2 := ((my_up_fld fh257 (by decide)).trans ((my_up_fld fh255 (by decide)).trans ((my_up_ne fh253 (by omega)).trans (rfl : h18_0 113 2 = h18_0 113 2))))
                have ce478 : h257 113 3 = h18_0 113 3 := ((my_up_fld fh257 (by decide)).trans ((my_up_ne fh255 (by omega)).trans ((my_up_fld fh253 (by decide)).trans (rfl : h18_0 113 3 = h18_0 113 3))))
                have ce479 : h257 113 4 = h18_0 113 4 := ((my_up_ne fh257 (by omega)).trans ((my_up_fld fh255 (by decide)).trans ((my_up_fld fh253 (by decide)).trans (rfl : h18_0 113 4 = h18_0 113 4))))
                have ce480 : h257 113 5 = h18_0 113 5 := ((my_up_fld fh257 (by decide)).trans ((my_up_fld fh255 (by decide)).trans ((my_up_fld fh253 (by decide)).trans (rfl : h18_0 113 5 = h18_0 113 5))))
                have a96 : ∀ j : Int, h257 96 j = h18_0 96 j := fun j => ((my_up_role fh257 is_96 is_111 rfl).trans ((my_up_role fh255 is_96 is_111 rfl).trans ((my_up_role fh253 is_96 is_111 rfl).trans (rfl : h18_0 96 j = h18_0 96 j))))
                have a99 : ∀ j : Int, h257 99 j = h18_0 99 j := fun j => ((my_up_role fh257 is_99 is_111 rfl).trans ((my_up_role fh255 is_99 is_111 rfl).trans ((my_up_role fh253 is_99 is_111 rfl).trans (rfl : h18_0 99 j = h18_0 99 j))))
                have a101 : ∀ j : Int, h257 101 j = h18_0 101 j := fun j => ((my_up_role fh257 is_101 is_111 rfl).trans ((my_up_role fh255 is_101 is_111 rfl).trans ((my_up_role fh253 is_101 is_111 rfl).trans (rfl : h18_0 101 j = h18_0 101 j))))
                have a103 : ∀ j : Int, h257 103 j = h18_0 103 j := fun j => ((my_up_role fh257 is_103 is_111 rfl).trans ((my_up_role fh255 is_103 is_111 rfl).trans ((my_up_role fh253 is_103 is_111 rfl).trans (rfl : h18_0 103 j = h18_0 103 j))))
                have kp9 : KpS h18_0 h257 := ⟨⟨by omega, by omega, by omega, by omega, by omega, by omega, by omega, by omega, a99, a101, a103⟩, ⟨by omega, by omega⟩, ⟨by omega, by omega, by omega, by omega, by omega, by omega⟩, ⟨by omega, by omega, by omega, by omega, by omega, by omega⟩⟩
                have chI := CH_i (x := p18_2) (g := h257) (L := r18_0) (a := h257 111 2) (b := h257 111 3) (c := h257 111 4) hk (by omega) (by omega) le_18_0 (fun j => (a96 j).trans (tv_18_0.1 j)) (fun j => my_fr.at gh257 pis_2 rfl) (my_fr.at gh257 (n_Ln.2.2.1 _ (by omega) (by omega)) rfl) (by omega) (by omega) (by omega)
                have as8 : h257 94 14 = h 94 14 := kp9.1.2.1.trans tv_18_0.2.1.2.1
                refine w_ifeq (t := 308) gz_98_141 rfl (fun u481 => by exfalso; omega) (fun u481 => ?_)
                refine w_iload gz_98_144 rfl ?_
                refine w_ifne (t := 159) gz_98_146 rfl (fun u482 => by exfalso; omega) (fun u482 => ?_)
                refine w_aload_n gz_98_149 rfl ?_
                refine v_getI (j := 14) gz_98_150 rfl is_94 rd_2 rfl (fun v483 ev483 pv483 qv483 => ?_)
                refine w_ifne (t := 159) gz_98_153 rfl (fun u484 => ?_) (fun u484 => ?_)
                ·
                  refine w_aload_n gz_98_159 rfl ?_
                  refine w_getX (v := 95) gz_98_160 is_94 rd_2 rfl (by decide) rfl ?_
                  refine w_getX (v := 96) gz_98_163 is_95 rd_6 rfl (by decide) rfl ?_
                  refine w_iload gz_98_166 rfl ?_
                  refine w_iald gz_98_168 is_96 rd_30 (by omega) (by omega) (fun v487 ev487 pv487 qv487 => ?_)
                  refine w_istore (ls' := [(2, 94), (0, x1), (1, z18_l2), (9, 0), (2, r18_0), (0, p18_1), (0, p18_2), (0, 0), (0, v487), (9, 0)]) gz_98_169 gm_98 rfl rfl rfl ?_
                  have ol8 : v487 = h 96 p18_2 := by
                    have q1 := a96 p18_2
                    have q2 := tv_18_0.1 p18_2
                    omega
                  refine w_iconst gz_98_171 (by decide) ?_
                  refine w_istore (ls' := [(2, 94), (0, x1), (1, z18_l2), (9, 0), (2, r18_0), (0, p18_1), (0, p18_2), (0, 0), (0, v487), (0, 0)]) gz_98_172 gm_98 rfl rfl rfl ?_
                  have ce488 : h257 111 2 = v398 := ev398.symm
                  have ce489 : h257 111 3 = v400 := ev400.symm
                  have ce490 : h257 111 4 = v261 := ev261.symm
                  have ce491 : h257 94 11 = h18_0 94 11 := ((my_up_role fh257 is_94 is_111 rfl).trans ((my_up_role fh255 is_94 is_111 rfl).trans ((my_up_role fh253 is_94 is_111 rfl).trans (rfl : h18_0 94 11 = h18_0 94 11))))
                  have ce492 : h257 94 12 = h18_0 94 12 := ((my_up_role fh257 is_94 is_111 rfl).trans ((my_up_role fh255 is_94 is_111 rfl).trans ((my_up_role fh253 is_94 is_111 rfl).trans (rfl : h18_0 94 12 = h18_0 94 12))))
                  have ce493 : h257 94 13 = (h18_0 94 13) := ((my_up_role fh257 is_94 is_111 rfl).trans ((my_up_role fh255 is_94 is_111 rfl).trans ((my_up_role fh253 is_94 is_111 rfl).trans (rfl : h18_0 94 13 = h18_0 94 13))))
                  have ce494 : h257 94 14 = v483 := ev483.symm
                  have ce495 : h257 94 15 = h18_0 94 15 := ((my_up_role fh257 is_94 is_111 rfl).trans ((my_up_role fh255 is_94 is_111 rfl).trans ((my_up_role fh253 is_94 is_111 rfl).trans (rfl : h18_0 94 15 = h18_0 94 15))))
                  have ce496 : h257 94 16 = h18_0 94 16 := ((my_up_role fh257 is_94 is_111 rfl).trans ((my_up_role fh255 is_94 is_111 rfl).trans ((my_up_role fh253 is_94 is_111 rfl).trans (rfl : h18_0 94 16 = h18_0 94 16))))
                  have ce497 : h257 98 0 = h18_0 98 0 := ((my_up_role fh257 is_98 is_111 rfl).trans ((my_up_role fh255 is_98 is_111 rfl).trans ((my_up_role fh253 is_98 is_111 rfl).trans (rfl : h18_0 98 0 = h18_0 98 0))))
                  have ce498 : h257 98 1 = h18_0 98 1 := ((my_up_role fh257 is_98 is_111 rfl).trans ((my_up_role fh255 is_98 is_111 rfl).trans ((my_up_role fh253 is_98 is_111 rfl).trans (rfl : h18_0 98 1 = h18_0 98 1))))
                  have ce499 : h257 102 0 = h18_0 102 0 := ((my_up_role fh257 is_102 is_111 rfl).trans ((my_up_role fh255 is_102 is_111 rfl).trans ((my_up_role fh253 is_102 is_111 rfl).trans (rfl : h18_0 102 0 = h18_0 102 0))))
                  have ce500 : h257 102 1 = h18_0 102 1 := ((my_up_role fh257 is_102 is_111 rfl).trans ((my_up_role fh255 is_102 is_111 rfl).trans ((my_up_role fh253 is_102 is_111 rfl).trans (rfl : h18_0 102 1 = h18_0 102 1))))
                  have ce501 : h257 112 0 = h18_0 112 0 := ((my_up_fld fh257 (by decide)).trans ((my_up_fld fh255 (by decide)).trans ((my_up_fld fh253 (by decide)).trans (rfl : h18_0 112 0 = h18_0 112 0))))
                  have ce502 : h257 112 1 = h18_0 112 1 := ((my_up_fld fh257 (by decide)).trans ((my_up_fld fh255 (by decide)).trans ((my_up_fld fh253 (by decide)).trans (rfl : h18_0 112 1 = h18_0 112 1))))
                  have ce503 : h257 112 2 = h18_0 112 2 := ((my_up_fld fh257 (by decide)).trans ((my_up_fld fh255 (by decide)).trans ((my_up_ne fh253 (by omega)).trans (rfl : h18_0 112 2 = h18_0 112 2))))
                  have ce504 : h257 112 3 = h18_0 112 3 := ((my_up_fld fh257 (by decide)).trans ((my_up_ne fh255 (by omega)).trans ((my_up_fld fh253 (by decide)).trans (rfl : h18_0 112 3 = h18_0 112 3))))
                  have ce505 : h257 112 4 = h18_0 112 4 := ((my_up_ne fh257 (by omega)).trans ((my_up_fld fh255 (by decide)).trans ((my_up_fld fh253 (by decide)).trans (rfl : h18_0 112 4 = h18_0 112 4))))
                  have ce506 : h257 112 5 = h18_0 112 5 := ((my_up_fld fh257 (by decide)).trans ((my_up_fld fh255 (by decide)).trans ((my_up_fld fh253 (by decide)).trans (rfl : h18_0 112 5 = h18_0 112 5))))
                  have ce507 : h257 113 0 = h18_0 113 0 := ((my_up_fld fh257 (by decide)).trans ((my_up_fld fh255 (by decide)).trans ((my_up_fld fh253 (by decide)).trans (rfl : h18_0 113 0 = h18_0 113 0))))
                  have ce508 : h257 113 1 = h18_0 113 1 := ((my_up_fld fh257 (by decide)).trans ((my_up_fld fh255 (by decide)).trans ((my_up_fld fh253 (by decide)).trans (rfl : h18_0 113 1 = h18_0 113 1))))
                  have ce509 : h257 113 2 = h18_0 113 2 := ((my_up_fld fh257 (by decide)).trans ((my_up_fld fh255 (by decide)).trans ((my_up_ne fh253 (by omega)).trans (rfl : h18_0 113 2 = h18_0 113 2))))
                  have ce510 : h257 113 3 = h18_0 113 3 := ((my_up_fld fh257 (by decide)).trans ((my_up_ne fh255 (by omega)).trans ((my_up_fld fh253 (by decide)).trans (rfl : h18_0 113 3 = h18_0 113 3))))
                  have ce511 : h257 113 4 = h18_0 113 4 := ((my_up_ne fh257 (by omega)).trans ((my_up_fld fh255 (by decide)).trans ((my_up_fld fh253 (by decide)).trans (rfl : h18_0 113 4 = h18_0 113 4))))
                  have ce512 : h257 113 5 = h18_0 113 5 := ((my_up_fld fh257 (by decide)).trans ((my_up_fld fh255 (by decide)).trans ((my_up_fld fh253 (by decide)).trans (rfl : h18_0 113 5 = h18_0 113 5))))
                  have a96 : ∀ j : Int, h257 96 j = h18_0 96 j := fun j => ((my_up_role fh257 is_96 is_111 rfl).trans ((my_up_role fh255 is_96 is_111 rfl).trans ((my_up_role fh253 is_96 is_111 rfl).trans (rfl : h18_0 96 j = h18_0 96 j))))
                  have a99 : ∀ j : Int, h257 99 j = h18_0 99 j := fun j => ((my_up_role fh257 is_99 is_111 rfl).trans ((my_up_role fh255 is_99 is_111 rfl).trans ((my_up_role fh253 is_99 is_111 rfl).trans (rfl : h18_0 99 j = h18_0 99 j))))
                  have a101 : ∀ j : Int, h257 101 j = h18_0 101 j := fun j => ((my_up_role fh257 is_101 is_111 rfl).trans ((my_up_role fh255 is_101 is_111 rfl).trans ((my_up_role fh253 is_101 is_111 rfl).trans (rfl : h18_0 101 j = h18_0 101 j))))
                  have a103 : ∀ j : Int, h257 103 j = h18_0 103 j := fun j => ((my_up_role fh257 is_103 is_111 rfl).trans ((my_up_role fh255 is_103 is_111 rfl).trans ((my_up_role fh253 is_103 is_111 rfl).trans (rfl : h18_0 103 j = h18_0 103 j))))
                  have bf9 : ∀ k j : Int, 0 ≤ k → (k < 94 ∨ 120 ≤ k ∧ k < 151) → h257 k j = h k j := fun k j k0 k1 => (((my_up_ne fh257 (by omega)).trans ((my_up_ne fh255 (by omega)).trans (my_up_ne fh253 (by omega)))).trans (bf_18_0 k j k0 k1))
                  have o96 : ∀ j : Int, j ≠ p18_2 → h257 96 j = h18_0 96 j := fun j hj => ((my_up_ne fh257 (by omega)).trans ((my_up_ne fh255 (by omega)).trans (my_up_ne fh253 (by omega))))
                  have kp9 : KpS h18_0 h257 := ⟨⟨by omega, by omega, by omega, by omega, by omega, by omega, by omega, by omega, a99, a101, a103⟩, ⟨by omega, by omega⟩, ⟨by omega, by omega, by omega, by omega, by omega, by omega⟩, ⟨by omega, by omega, by omega, by omega, by omega, by omega⟩⟩
                  exact J174_0 21 (z18_l2) (0) (v487) (0) ((h18_0 94 13)) h257 (gh257) (by omega) (by omega) (by omega) (by omega) (by omega) (by omega) (by omega) (by omega) (by omega) (((my_up_role fh257 is_94 is_111 rfl).trans ((my_up_role fh255 is_94 is_111 rfl).trans ((my_up_role fh253 is_94 is_111 rfl).trans (rfl : h18_0 94 13 = h18_0 94 13)))).trans (by omega)) Lst_h257 Ln_h257 Td_h257 (by first | rfl | exact tl_18_0 | exact tl_174_0 | assumption | omega) (by first | exact le_18_0 | exact le_174_0 | assumption | omega) (by first | exact lv_18_0 | exact lv_174_0 | (rw [show r18_0 = h 27 x1 by omega] at lv0; exact lv0) | assumption | omega) (by first | assumption | omega | (subst_vars; omega) | omega) (by first | assumption | omega | (subst_vars; omega) | omega) (by first | assumption | omega | (subst_vars; omega) | omega) (by first | exact TvN_0 tv_18_0 a96 kp9 | exact TvN_n (by omega) tn_174_0 (fun _ _ => rfl) KpS.rf (Qn_eq (by omega)) | exact TvN_n (by omega) tn_174_0 (fun _ _ => rfl) KpS.rf (Qn_ok (fun z => al (alI.mpr z))) | exact TvN_n (by omega) tn_174_0 o96 kp9 (fun z => sa (qI.mpr z)) | exact TvN_y (by omega) tn_174_0 o96 kp7 no8 kpp sm9 (by omega) (by omega) (by omega) (by omega) q7 | assumption | omega) (by first | exact chI.mp ch8 | exact ch_174_0 | assumption | omega) (by first | (intro z; exfalso; omega) | (intro _; exact ⟨nt8, by omega⟩) | exact nt_174_0 | assumption | omega) (by first | exact ol8 | exact ol_174_0 | assumption | omega) (by first | assumption | omega | (subst_vars; omega) | omega) (by first | assumption | omega | (subst_vars; omega) | omega) (by first | assumption | omega | (subst_vars; omega) | omega) (bf9) (by omega)
                ·
                  refine w_goto (t := 308) gz_98_156 rfl ?_
                  refine w_iinc (ls' := [(2, 94), (0, x1), (1, z18_l2), (9, 0), (2, r18_0), (0, p18_1), (0, (p18_2 + 1)), (0, 0), (9, 0), (9, 0)]) gz_98_308 rfl gm_98 rfl rfl rfl ⟨by omega, by omega⟩ ?_
                  refine w_goto (t := 18) gz_98_311 rfl ?_
                  have ce513 : h257 94 11 = h18_0 94 11 := ((my_up_role fh257 is_94 is_111 rfl).trans ((my_up_role fh255 is_94 is_111 rfl).trans ((my_up_role fh253 is_94 is_111 rfl).trans (rfl : h18_0 94 11 = h18_0 94 11))))
                  have ce514 : h257 94 12 = h18_0 94 12 := ((my_up_role fh257 is_94 is_111 rfl).trans ((my_up_role fh255 is_94 is_111 rfl).trans ((my_up_role fh253 is_94 is_111 rfl).trans (rfl : h18_0 94 12 = h18_0 94 12))))
                  have ce515 : h257 94 13 = (h18_0 94 13) := ((my_up_role fh257 is_94 is_111 rfl).trans ((my_up_role fh255 is_94 is_111 rfl).trans ((my_up_role fh253 is_94 is_111 rfl).trans (rfl : h18_0 94 13 = h18_0 94 13))))
                  have ce516 : h257 94 14 = v483 := ev483.symm
                  have ce517 : h257 94 15 = h18_0 94 15 := ((my_up_role fh257 is_94 is_111 rfl).trans ((my_up_role fh255 is_94 is_111 rfl).trans ((my_up_role fh253 is_94 is_111 rfl).trans (rfl : h18_0 94 15 = h18_0 94 15))))
                  have ce518 : h257 94 16 = h18_0 94 16 := ((my_up_role fh257 is_94 is_111 rfl).trans ((my_up_role fh255 is_94 is_111 rfl).trans ((my_up_role fh253 is_94 is_111 rfl).trans (rfl : h18_0 94 16 = h18_0 94 16))))
                  have ce519 : h257 98 0 = h18_0 98 0 := ((my_up_role fh257 is_98 is_111 rfl).trans ((my_up_role fh255 is_98 is_111 rfl).trans ((my_up_role fh253 is_98 is_111 rfl).trans (rfl : h18_0 98 0 = h18_0 98 0))))
                  have ce520 : h257 98 1 = h18_0 98 1 := ((my_up_role fh257 is_98 is_111 rfl).trans ((my_up_role fh255 is_98 is_111 rfl).trans ((my_up_role fh253 is_98 is_111 rfl).trans (rfl : h18_0 98 1 = h18_0 98 1))))
                  have ce521 : h257 102 0 = h18_0 102 0 := ((my_up_role fh257 is_102 is_111 rfl).trans ((my_up_role fh255 is_102 is_111 rfl).trans ((my_up_role fh253 is_102 is_111 rfl).trans (rfl : h18_0 102 0 = h18_0 102 0))))
                  have ce522 : h257 102 1 = h18_0 102 1 := ((my_up_role fh257 is_102 is_111 rfl).trans ((my_up_role fh255 is_102 is_111 rfl).trans ((my_up_role fh253 is_102 is_111 rfl).trans (rfl : h18_0 102 1 = h18_0 102 1))))
                  have ce523 : h257 112 0 = h18_0 112 0 := ((my_up_fld fh257 (by decide)).trans ((my_up_fld fh255 (by decide)).trans ((my_up_fld fh253 (by decide)).trans (rfl : h18_0 112 0 = h18_0 112 0))))
                  have ce524 : h257 112 1 = h18_0 112 1 := ((my_up_fld fh257 (by decide)).trans ((my_up_fld fh255 (by decide)).trans ((my_up_fld fh253 (by decide)).trans (rfl : h18_0 112 1 = h18_0 112 1))))
                  have ce525 : h257 112 2 = h18_0 112 2 := ((my_up_fld fh257 (by decide)).trans ((my_up_fld fh255 (by decide)).trans ((my_up_ne fh253 (by omega)).trans (rfl : h18_0 112 2 = h18_0 112 2))))
                  have ce526 : h257 112 3 = h18_0 112 3 := ((my_up_fld fh257 (by decide)).trans ((my_up_ne fh255 (by omega)).trans ((my_up_fld fh253 (by decide)).trans (rfl : h18_0 112 3 = h18_0 112 3))))
                  have ce527 : h257 112 4 = h18_0 112 4 := ((my_up_ne fh257 (by omega)).trans ((my_up_fld fh255 (by decide)).trans ((my_up_fld fh253 (by decide)).trans (rfl : h18_0 112 4 = h18_0 112 4))))
                  have ce528 : h257 112 5 = h18_0 112 5 := ((my_up_fld fh257 (by decide)).trans ((my_up_fld fh255 (by decide)).trans ((my_up_fld fh253 (by decide)).trans (rfl : h18_0 112 5 = h18_0 112 5))))
                  have ce529 : h257 113 0 = h18_0 113 0 := ((my_up_fld fh257 (by decide)).trans ((my_up_fld fh255 (by decide)).trans ((my_up_fld fh253 (by decide)).trans (rfl : h18_0 113 0 = h18_0 113 0))))
                  have ce530 : h257 113 1 = h18_0 113 1 := ((my_up_fld fh257 (by decide)).trans ((my_up_fld fh255 (by decide)).trans ((my_up_fld fh253 (by decide)).trans (rfl : h18_0 113 1 = h18_0 113 1))))
                  have ce531 : h257 113 2 = h18_0 113 2 := ((my_up_fld fh257 (by decide)).trans ((my_up_fld fh255 (by decide)).trans ((my_up_ne fh253 (by omega)).trans (rfl : h18_0 113 2 = h18_0 113 2))))
                  have ce532 : h257 113 3 = h18_0 113 3 := ((my_up_fld fh257 (by decide)).trans ((my_up_ne fh255 (by omega)).trans ((my_up_fld fh253 (by decide)).trans (rfl : h18_0 113 3 = h18_0 113 3))))
                  have ce533 : h257 113 4 = h18_0 113 4 := ((my_up_ne fh257 (by omega)).trans ((my_up_fld fh255 (by decide)).trans ((my_up_fld fh253 (by decide)).trans (rfl : h18_0 113 4 = h18_0 113 4))))
                  have ce534 : h257 113 5 = h18_0 113 5 := ((my_up_fld fh257 (by decide)).trans ((my_up_fld fh255 (by decide)).trans ((my_up_fld fh253 (by decide)).trans (rfl : h18_0 113 5 = h18_0 113 5))))
                  have a96 : ∀ j : Int, h257 96 j = h18_0 96 j := fun j => ((my_up_role fh257 is_96 is_111 rfl).trans ((my_up_role fh255 is_96 is_111 rfl).trans ((my_up_role fh253 is_96 is_111 rfl).trans (rfl : h18_0 96 j = h18_0 96 j))))
                  have a99 : ∀ j : Int, h257 99 j = h18_0 99 j := fun j => ((my_up_role fh257 is_99 is_111 rfl).trans ((my_up_role fh255 is_99 is_111 rfl).trans ((my_up_role fh253 is_99 is_111 rfl).trans (rfl : h18_0 99 j = h18_0 99 j))))
                  have a101 : ∀ j : Int, h257 101 j = h18_0 101 j := fun j => ((my_up_role fh257 is_101 is_111 rfl).trans ((my_up_role fh255 is_101 is_111 rfl).trans ((my_up_role fh253 is_101 is_111 rfl).trans (rfl : h18_0 101 j = h18_0 101 j))))
                  have a103 : ∀ j : Int, h257 103 j = h18_0 103 j := fun j => ((my_up_role fh257 is_103 is_111 rfl).trans ((my_up_role fh255 is_103 is_111 rfl).trans ((my_up_role fh253 is_103 is_111 rfl).trans (rfl : h18_0 103 j = h18_0 103 j))))
                  have bf9 : ∀ k j : Int, 0 ≤ k → (k < 94 ∨ 120 ≤ k ∧ k < 151) → h257 k j = h k j := fun k j k0 k1 => (((my_up_ne fh257 (by omega)).trans ((my_up_ne fh255 (by omega)).trans (my_up_ne fh253 (by omega)))).trans (bf_18_0 k j k0 k1))
                  have kp9 : KpS h18_0 h257 := ⟨⟨by omega, by omega, by omega, by omega, by omega, by omega, by omega, by omega, a99, a101, a103⟩, ⟨by omega, by omega⟩, ⟨by omega, by omega, by omega, by omega, by omega, by omega⟩, ⟨by omega, by omega, by omega, by omega, by omega, by omega⟩⟩
                  refine w_weak (ls' := [(2, 94), (0, x1), (1, z18_l2), (9, 0), (2, r18_0), (0, p18_1), (0, (p18_2 + 1)), (9, 0), (9, 0), (9, 0)]) (wk_e (wk_e (wk_e (wk_9 (wk_e (wk_e (wk_e (wk_9 (wk_9 (wk_9 wk_n)))))))))) ?_
                  exact ih_18_0 (z18_l2) (r18_0) (p18_1) ((p18_2 + 1)) h257 (gh257) tr18_0_18_0 (by omega) (by omega) Lst_h257 Ln_h257 Td_h257 (by first | rfl | exact tl_18_0 | exact tl_174_0 | assumption | omega) (by first | exact le_18_0 | exact le_174_0 | assumption | omega) (by first | exact lv_18_0 | exact lv_174_0 | (rw [show r18_0 = h 27 x1 by omega] at lv0; exact lv0) | assumption | omega) (by first | exact TvO_0 hd | exact TvO_e (by omega) (by omega) (by omega) tn_174_0 (by first | exact Or.inl (by omega) | exact Or.inr ⟨by omega, by omega, by omega⟩) fh257 (by omega) | exact TvO_n (by omega) tv_18_0 a96 kp9 (Qn_ch (fun z => ch8 (chI.mpr z))) | exact TvO_n (by omega) tv_18_0 a96 kp9 (Qn_nt hk lv_18_0 htp (by omega) (by omega) nt8 (by omega)) | assumption | omega) (bf9) (by omega)
            ·
              refine w_iconst gz_69_10 (by decide) ?_
              refine w_goto (t := 15) gz_69_11 rfl ?_
              refine w_bret gz_69_15 gm_69 (by omega) (by omega) ?_
              show wp l rho (d + 4) 98 125 [(2, 94), (0, x1), (1, z18_l2), (9, 0), (2, r18_0), (0, p18_1), (0, p18_2), (9, 0), (9, 0), (9, 0)] [(0, 1)] h257 Q
              have hb2 := hasBit_z (M := z18_l2) (C := 20 * (p18_2 / 80) + p18_2 / 4 % 20) (by assumption) (by assumption) (by assumption) (by omega) (by omega) (by omega) (by omega)
              refine w_ifeq (t := 132) gz_98_125 rfl (fun u535 => by exfalso; omega) (fun u535 => ?_)
              refine w_iconst gz_98_128 (by decide) ?_
              refine w_goto (t := 133) gz_98_129 rfl ?_
              refine w_istore (ls' := [(2, 94), (0, x1), (1, z18_l2), (9, 0), (2, r18_0), (0, p18_1), (0, p18_2), (0, 1), (9, 0), (9, 0)]) gz_98_133 gm_98 rfl rfl rfl ?_
              refine w_aload_n gz_98_135 rfl ?_
              refine w_aload gz_98_136 rfl ?_
              refine w_inv (k := 0) (as := [(2, r18_0)]) (r := []) (x := 94) (ls0 := [(2, 94), (2, r18_0)]) gz_98_138 gm_101 rfl is_94 rd_2 rfl rfl rfl rfl rfl (c_Desk_isChangeable5 (d := (d + 2)) (x1 := r18_0) tr18_0_18_0 (by first | assumption | exact no_such_saying | exact Fp_told (by omega) (by omega) | omega | (subst_vars; omega) | omega) (fun xp536 => ?_) (fun xp537 => ?_))
              ·
                show wp l rho (d + 4) 98 141 [(2, 94), (0, x1), (1, z18_l2), (9, 0), (2, r18_0), (0, p18_1), (0, p18_2), (0, 1), (9, 0), (9, 0)] [(0, 0)] h257 Q
                have ch8 := xp536
                have ce538 : h257 111 2 = v398 := ev398.symm
                have ce539 : h257 111 3 = v400 := ev400.symm
                have ce540 : h257 111 4 = v261 := ev261.symm
                have ce541 : h257 94 11 = h18_0 94 11 := ((my_up_role fh257 is_94 is_111 rfl).trans ((my_up_role fh255 is_94 is_111 rfl).trans ((my_up_role fh253 is_94 is_111 rfl).trans (rfl : h18_0 94 11 = h18_0 94 11))))
                have ce542 : h257 94 12 = h18_0 94 12 := ((my_up_role fh257 is_94 is_111 rfl).trans ((my_up_role fh255 is_94 is_111 rfl).trans ((my_up_role fh253 is_94 is_111 rfl).trans (rfl : h18_0 94 12 = h18_0 94 12))))
                have ce543 : h257 94 13 = (h18_0 94 13) := ((my_up_role fh257 is_94 is_111 rfl).trans ((my_up_role fh255 is_94 is_111 rfl).trans ((my_up_role fh253 is_94 is_111 rfl).trans (rfl : h18_0 94 13 = h18_0 94 13))))
                have ce544 : h257 94 14 = h18_0 94 14 := ((my_up_role fh257 is_94 is_111 rfl).trans ((my_up_role fh255 is_94 is_111 rfl).trans ((my_up_role fh253 is_94 is_111 rfl).trans (rfl : h18_0 94 14 = h18_0 94 14))))
                have ce545 : h257 94 15 = h18_0 94 15 := ((my_up_role fh257 is_94 is_111 rfl).trans ((my_up_role fh255 is_94 is_111 rfl).trans ((my_up_role fh253 is_94 is_111 rfl).trans (rfl : h18_0 94 15 = h18_0 94 15))))
                have ce546 : h257 94 16 = h18_0 94 16 := ((my_up_role fh257 is_94 is_111 rfl).trans ((my_up_role fh255 is_94 is_111 rfl).trans ((my_up_role fh253 is_94 is_111 rfl).trans (rfl : h18_0 94 16 = h18_0 94 16))))
                have ce547 : h257 98 0 = h18_0 98 0 := ((my_up_role fh257 is_98 is_111 rfl).trans ((my_up_role fh255 is_98 is_111 rfl).trans ((my_up_role fh253 is_98 is_111 rfl).trans (rfl : h18_0 98 0 = h18_0 98 0))))
                have ce548 : h257 98 1 = h18_0 98 1 := ((my_up_role fh257 is_98 is_111 rfl).trans ((my_up_role fh255 is_98 is_111 rfl).trans ((my_up_role fh253 is_98 is_111 rfl).trans (rfl : h18_0 98 1 = h18_0 98 1))))
                have ce549 : h257 102 0 = h18_0 102 0 := ((my_up_role fh257 is_102 is_111 rfl).trans ((my_up_role fh255 is_102 is_111 rfl).trans ((my_up_role fh253 is_102 is_111 rfl).trans (rfl : h18_0 102 0 = h18_0 102 0))))
                have ce550 : h257 102 1 = h18_0 102 1 := ((my_up_role fh257 is_102 is_111 rfl).trans ((my_up_role fh255 is_102 is_111 rfl).trans ((my_up_role fh253 is_102 is_111 rfl).trans (rfl : h18_0 102 1 = h18_0 102 1))))
                have ce551 : h257 112 0 = h18_0 112 0 := ((my_up_fld fh257 (by decide)).trans ((my_up_fld fh255 (by decide)).trans ((my_up_fld fh253 (by decide)).trans (rfl : h18_0 112 0 = h18_0 112 0))))
                have ce552 : h257 112 1 = h18_0 112 1 := ((my_up_fld fh257 (by decide)).trans ((my_up_fld fh255 (by decide)).trans ((my_up_fld fh253 (by decide)).trans (rfl : h18_0 112 1 = h18_0 112 1))))
                have ce553 : h257 112 2 = h18_0 112 2 := ((my_up_fld fh257 (by decide)).trans ((my_up_fld fh255 (by decide)).trans ((my_up_ne fh253 (by omega)).trans (rfl : h18_0 112 2 = h18_0 112 2))))
                have ce554 : h257 112 3 = h18_0 112 3 := ((my_up_fld fh257 (by decide)).trans ((my_up_ne fh255 (by omega)).trans ((my_up_fld fh253 (by decide)).trans (rfl : h18_0 112 3 = h18_0 112 3))))
                have ce555 : h257 112 4 = h18_0 112 4 := ((my_up_ne fh257 (by omega)).trans ((my_up_fld fh255 (by decide)).trans ((my_up_fld fh253 (by decide)).trans (rfl : h18_0 112 4 = h18_0 112 4))))
                have ce556 : h257 112 5 = h18_0 112 5 := ((my_up_fld fh257 (by decide)).trans ((my_up_fld fh255 (by decide)).trans ((my_up_fld fh253 (by decide)).trans (rfl : h18_0 112 5 = h18_0 112 5))))
                have ce557 : h257 113 0 = h18_0 113 0 := ((my_up_fld fh257 (by decide)).trans ((my_up_fld fh255 (by decide)).trans ((my_up_fld fh253 (by decide)).trans (rfl : h18_0 113 0 = h18_0 113 0))))
                have ce558 : h257 113 1 = h18_0 113 1 := ((my_up_fld fh257 (by decide)).trans ((my_up_fld fh255 (by decide)).trans ((my_up_fld fh253 (by decide)).trans (rfl : h18_0 113 1 = h18_0 113 1))))
                have ce559 : h257 113 2 = h18_0 113 2 := ((my_up_fld fh257 (by decide)).trans ((my_up_fld fh255 (by decide)).trans ((my_up_ne fh253 (by omega)).trans (rfl : h18_0 113 2 = h18_0 113 2))))
                have ce560 : h257 113 3 = h18_0 113 3 := ((my_up_fld fh257 (by decide)).trans ((my_up_ne fh255 (by omega)).trans ((my_up_fld fh253 (by decide)).trans (rfl : h18_0 113 3 = h18_0 113 3))))
                have ce561 : h257 113 4 = h18_0 113 4 := ((my_up_ne fh257 (by omega)).trans ((my_up_fld fh255 (by decide)).trans ((my_up_fld fh253 (by decide)).trans (rfl : h18_0 113 4 = h18_0 113 4))))
                have ce562 : h257 113 5 = h18_0 113 5 := ((my_up_fld fh257 (by decide)).trans ((my_up_fld fh255 (by decide)).trans ((my_up_fld fh253 (by decide)).trans (rfl : h18_0 113 5 = h18_0 113 5))))
                have a96 : ∀ j : Int, h257 96 j = h18_0 96 j := fun j => ((my_up_role fh257 is_96 is_111 rfl).trans ((my_up_role fh255 is_96 is_111 rfl).trans ((my_up_role fh253 is_96 is_111 rfl).trans (rfl : h18_0 96 j = h18_0 96 j))))
                have a99 : ∀ j : Int, h257 99 j = h18_0 99 j := fun j => ((my_up_role fh257 is_99 is_111 rfl).trans ((my_up_role fh255 is_99 is_111 rfl).trans ((my_up_role fh253 is_99 is_111 rfl).trans (rfl : h18_0 99 j = h18_0 99 j))))
                have a101 : ∀ j : Int, h257 101 j = h18_0 101 j := fun j => ((my_up_role fh257 is_101 is_111 rfl).trans ((my_up_role fh255 is_101 is_111 rfl).trans ((my_up_role fh253 is_101 is_111 rfl).trans (rfl : h18_0 101 j = h18_0 101 j))))
                have a103 : ∀ j : Int, h257 103 j = h18_0 103 j := fun j => ((my_up_role fh257 is_103 is_111 rfl).trans ((my_up_role fh255 is_103 is_111 rfl).trans ((my_up_role fh253 is_103 is_111 rfl).trans (rfl : h18_0 103 j = h18_0 103 j))))
                have kp9 : KpS h18_0 h257 := ⟨⟨by omega, by omega, by omega, by omega, by omega, by omega, by omega, by omega, a99, a101, a103⟩, ⟨by omega, by omega⟩, ⟨by omega, by omega, by omega, by omega, by omega, by omega⟩, ⟨by omega, by omega, by omega, by omega, by omega, by omega⟩⟩
                have chI := CH_i (x := p18_2) (g := h257) (L := r18_0) (a := h257 111 2) (b := h257 111 3) (c := h257 111 4) hk (by omega) (by omega) le_18_0 (fun j => (a96 j).trans (tv_18_0.1 j)) (fun j => my_fr.at gh257 pis_2 rfl) (my_fr.at gh257 (n_Ln.2.2.1 _ (by omega) (by omega)) rfl) (by omega) (by omega) (by omega)
                have as8 : h257 94 14 = h 94 14 := kp9.1.2.1.trans tv_18_0.2.1.2.1
                refine w_ifeq (t := 308) gz_98_141 rfl (fun u563 => ?_) (fun u563 => by exfalso; omega)
                refine w_iinc (ls' := [(2, 94), (0, x1), (1, z18_l2), (9, 0), (2, r18_0), (0, p18_1), (0, (p18_2 + 1)), (0, 1), (9, 0), (9, 0)]) gz_98_308 rfl gm_98 rfl rfl rfl ⟨by omega, by omega⟩ ?_
                refine w_goto (t := 18) gz_98_311 rfl ?_
                have ce564 : h257 94 11 = h18_0 94 11 := ((my_up_role fh257 is_94 is_111 rfl).trans ((my_up_role fh255 is_94 is_111 rfl).trans ((my_up_role fh253 is_94 is_111 rfl).trans (rfl : h18_0 94 11 = h18_0 94 11))))
                have ce565 : h257 94 12 = h18_0 94 12 := ((my_up_role fh257 is_94 is_111 rfl).trans ((my_up_role fh255 is_94 is_111 rfl).trans ((my_up_role fh253 is_94 is_111 rfl).trans (rfl : h18_0 94 12 = h18_0 94 12))))
                have ce566 : h257 94 13 = (h18_0 94 13) := ((my_up_role fh257 is_94 is_111 rfl).trans ((my_up_role fh255 is_94 is_111 rfl).trans ((my_up_role fh253 is_94 is_111 rfl).trans (rfl : h18_0 94 13 = h18_0 94 13))))
                have ce567 : h257 94 14 = h18_0 94 14 := ((my_up_role fh257 is_94 is_111 rfl).trans ((my_up_role fh255 is_94 is_111 rfl).trans ((my_up_role fh253 is_94 is_111 rfl).trans (rfl : h18_0 94 14 = h18_0 94 14))))
                have ce568 : h257 94 15 = h18_0 94 15 := ((my_up_role fh257 is_94 is_111 rfl).trans ((my_up_role fh255 is_94 is_111 rfl).trans ((my_up_role fh253 is_94 is_111 rfl).trans (rfl : h18_0 94 15 = h18_0 94 15))))
                have ce569 : h257 94 16 = h18_0 94 16 := ((my_up_role fh257 is_94 is_111 rfl).trans ((my_up_role fh255 is_94 is_111 rfl).trans ((my_up_role fh253 is_94 is_111 rfl).trans (rfl : h18_0 94 16 = h18_0 94 16))))
                have ce570 : h257 98 0 = h18_0 98 0 := ((my_up_role fh257 is_98 is_111 rfl).trans ((my_up_role fh255 is_98 is_111 rfl).trans ((my_up_role fh253 is_98 is_111 rfl).trans (rfl : h18_0 98 0 = h18_0 98 0))))
                have ce571 : h257 98 1 = h18_0 98 1 := ((my_up_role fh257 is_98 is_111 rfl).trans ((my_up_role fh255 is_98 is_111 rfl).trans ((my_up_role fh253 is_98 is_111 rfl).trans (rfl : h18_0 98 1 = h18_0 98 1))))
                have ce572 : h257 102 0 = h18_0 102 0 := ((my_up_role fh257 is_102 is_111 rfl).trans ((my_up_role fh255 is_102 is_111 rfl).trans ((my_up_role fh253 is_102 is_111 rfl).trans (rfl : h18_0 102 0 = h18_0 102 0))))
                have ce573 : h257 102 1 = h18_0 102 1 := ((my_up_role fh257 is_102 is_111 rfl).trans ((my_up_role fh255 is_102 is_111 rfl).trans ((my_up_role fh253 is_102 is_111 rfl).trans (rfl : h18_0 102 1 = h18_0 102 1))))
                have ce574 : h257 112 0 = h18_0 112 0 := ((my_up_fld fh257 (by decide)).trans ((my_up_fld fh255 (by decide)).trans ((my_up_fld fh253 (by decide)).trans (rfl : h18_0 112 0 = h18_0 112 0))))
                have ce575 : h257 112 1 = h18_0 112 1 := ((my_up_fld fh257 (by decide)).trans ((my_up_fld fh255 (by decide)).trans ((my_up_fld fh253 (by decide)).trans (rfl : h18_0 112 1 = h18_0 112 1))))
                have ce576 : h257 112 2 = h18_0 112 2 := ((my_up_fld fh257 (by decide)).trans ((my_up_fld fh255 (by decide)).trans ((my_up_ne fh253 (by omega)).trans (rfl : h18_0 112 2 = h18_0 112 2))))
                have ce577 : h257 112 3 = h18_0 112 3 := ((my_up_fld fh257 (by decide)).trans ((my_up_ne fh255 (by omega)).trans ((my_up_fld fh253 (by decide)).trans (rfl : h18_0 112 3 = h18_0 112 3))))
                have ce578 : h257 112 4 = h18_0 112 4 := ((my_up_ne fh257 (by omega)).trans ((my_up_fld fh255 (by decide)).trans ((my_up_fld fh253 (by decide)).trans (rfl : h18_0 112 4 = h18_0 112 4))))
                have ce579 : h257 112 5 = h18_0 112 5 := ((my_up_fld fh257 (by decide)).trans ((my_up_fld fh255 (by decide)).trans ((my_up_fld fh253 (by decide)).trans (rfl : h18_0 112 5 = h18_0 112 5))))
                have ce580 : h257 113 0 = h18_0 113 0 := ((my_up_fld fh257 (by decide)).trans ((my_up_fld fh255 (by decide)).trans ((my_up_fld fh253 (by decide)).trans (rfl : h18_0 113 0 = h18_0 113 0))))
                have ce581 : h257 113 1 = h18_0 113 1 := ((my_up_fld fh257 (by decide)).trans ((my_up_fld fh255 (by decide)).trans ((my_up_fld fh253 (by decide)).trans (rfl : h18_0 113 1 = h18_0 113 1))))
                have ce582 : h257 113 2 = h18_0 113 2 := ((my_up_fld fh257 (by decide)).trans ((my_up_fld fh255 (by decide)).trans ((my_up_ne fh253 (by omega)).trans (rfl : h18_0 113 2 = h18_0 113 2))))
                have ce583 : h257 113 3 = h18_0 113 3 := ((my_up_fld fh257 (by decide)).trans ((my_up_ne fh255 (by omega)).trans ((my_up_fld fh253 (by decide)).trans (rfl : h18_0 113 3 = h18_0 113 3))))
                have ce584 : h257 113 4 = h18_0 113 4 := ((my_up_ne fh257 (by omega)).trans ((my_up_fld fh255 (by decide)).trans ((my_up_fld fh253 (by decide)).trans (rfl : h18_0 113 4 = h18_0 113 4))))
                have ce585 : h257 113 5 = h18_0 113 5 := ((my_up_fld fh257 (by decide)).trans ((my_up_fld fh255 (by decide)).trans ((my_up_fld fh253 (by decide)).trans (rfl : h18_0 113 5 = h18_0 113 5))))
                have a96 : ∀ j : Int, h257 96 j = h18_0 96 j := fun j => ((my_up_role fh257 is_96 is_111 rfl).trans ((my_up_role fh255 is_96 is_111 rfl).trans ((my_up_role fh253 is_96 is_111 rfl).trans (rfl : h18_0 96 j = h18_0 96 j))))
                have a99 : ∀ j : Int, h257 99 j = h18_0 99 j := fun j => ((my_up_role fh257 is_99 is_111 rfl).trans ((my_up_role fh255 is_99 is_111 rfl).trans ((my_up_role fh253 is_99 is_111 rfl).trans (rfl : h18_0 99 j = h18_0 99 j))))
                have a101 : ∀ j : Int, h257 101 j = h18_0 101 j := fun j => ((my_up_role fh257 is_101 is_111 rfl).trans ((my_up_role fh255 is_101 is_111 rfl).trans ((my_up_role fh253 is_101 is_111 rfl).trans (rfl : h18_0 101 j = h18_0 101 j))))
                have a103 : ∀ j : Int, h257 103 j = h18_0 103 j := fun j => ((my_up_role fh257 is_103 is_111 rfl).trans ((my_up_role fh255 is_103 is_111 rfl).trans ((my_up_role fh253 is_103 is_111 rfl).trans (rfl : h18_0 103 j = h18_0 103 j))))
                have bf9 : ∀ k j : Int, 0 ≤ k → (k < 94 ∨ 120 ≤ k ∧ k < 151) → h257 k j = h k j := fun k j k0 k1 => (((my_up_ne fh257 (by omega)).trans ((my_up_ne fh255 (by omega)).trans (my_up_ne fh253 (by omega)))).trans (bf_18_0 k j k0 k1))
                have kp9 : KpS h18_0 h257 := ⟨⟨by omega, by omega, by omega, by omega, by omega, by omega, by omega, by omega, a99, a101, a103⟩, ⟨by omega, by omega⟩, ⟨by omega, by omega, by omega, by omega, by omega, by omega⟩, ⟨by omega, by omega, by omega, by omega, by omega, by omega⟩⟩
                refine w_weak (ls' := [(2, 94), (0, x1), (1, z18_l2), (9, 0), (2, r18_0), (0, p18_1), (0, (p18_2 + 1)), (9, 0), (9, 0), (9, 0)]) (wk_e (wk_e (wk_e (wk_9 (wk_e (wk_e (wk_e (wk_9 (wk_9 (wk_9 wk_n)))))))))) ?_
                exact ih_18_0 (z18_l2) (r18_0) (p18_1) ((p18_2 + 1)) h257 (gh257) tr18_0_18_0 (by omega) (by omega) Lst_h257 Ln_h257 Td_h257 (by first | rfl | exact tl_18_0 | exact tl_174_0 | assumption | omega) (by first | exact le_18_0 | exact le_174_0 | assumption | omega) (by first | exact lv_18_0 | exact lv_174_0 | (rw [show r18_0 = h 27 x1 by omega] at lv0; exact lv0) | assumption | omega) (by first | exact TvO_0 hd | exact TvO_e (by omega) (by omega) (by omega) tn_174_0 (by first | exact Or.inl (by omega) | exact Or.inr ⟨by omega, by omega, by omega⟩) fh257 (by omega) | exact TvO_n (by omega) tv_18_0 a96 kp9 (Qn_ch (fun z => ch8 (chI.mpr z))) | exact TvO_n (by omega) tv_18_0 a96 kp9 (Qn_nt hk lv_18_0 htp (by omega) (by omega) nt8 (by omega)) | assumption | omega) (bf9) (by omega)
              ·
                show wp l rho (d + 4) 98 141 [(2, 94), (0, x1), (1, z18_l2), (9, 0), (2, r18_0), (0, p18_1), (0, p18_2), (0, 1), (9, 0), (9, 0)] [(0, 1)] h257 Q
                have ch8 := xp537
                have ce586 : h257 111 2 = v398 := ev398.symm
                have ce587 : h257 111 3 = v400 := ev400.symm
                have ce588 : h257 111 4 = v261 := ev261.symm
                have ce589 : h257 94 11 = h18_0 94 11 := ((my_up_role fh257 is_94 is_111 rfl).trans ((my_up_role fh255 is_94 is_111 rfl).trans ((my_up_role fh253 is_94 is_111 rfl).trans (rfl : h18_0 94 11 = h18_0 94 11))))
                have ce590 : h257 94 12 = h18_0 94 12 := ((my_up_role fh257 is_94 is_111 rfl).trans ((my_up_role fh255 is_94 is_111 rfl).trans ((my_up_role fh253 is_94 is_111 rfl).trans (rfl : h18_0 94 12 = h18_0 94 12))))
                have ce591 : h257 94 13 = (h18_0 94 13) := ((my_up_role fh257 is_94 is_111 rfl).trans ((my_up_role fh255 is_94 is_111 rfl).trans ((my_up_role fh253 is_94 is_111 rfl).trans (rfl : h18_0 94 13 = h18_0 94 13))))
                have ce592 : h257 94 14 = h18_0 94 14 := ((my_up_role fh257 is_94 is_111 rfl).trans ((my_up_role fh255 is_94 is_111 rfl).trans ((my_up_role fh253 is_94 is_111 rfl).trans (rfl : h18_0 94 14 = h18_0 94 14))))
                have ce593 : h257 94 15 = h18_0 94 15 := ((my_up_role fh257 is_94 is_111 rfl).trans ((my_up_role fh255 is_94 is_111 rfl).trans ((my_up_role fh253 is_94 is_111 rfl).trans (rfl : h18_0 94 15 = h18_0 94 15))))
                have ce594 : h257 94 16 = h18_0 94 16 := ((my_up_role fh257 is_94 is_111 rfl).trans ((my_up_role fh255 is_94 is_111 rfl).trans ((my_up_role fh253 is_94 is_111 rfl).trans (rfl : h18_0 94 16 = h18_0 94 16))))
                have ce595 : h257 98 0 = h18_0 98 0 := ((my_up_role fh257 is_98 is_111 rfl).trans ((my_up_role fh255 is_98 is_111 rfl).trans ((my_up_role fh253 is_98 is_111 rfl).trans (rfl : h18_0 98 0 = h18_0 98 0))))
                have ce596 : h257 98 1 = h18_0 98 1 := ((my_up_role fh257 is_98 is_111 rfl).trans ((my_up_role fh255 is_98 is_111 rfl).trans ((my_up_role fh253 is_98 is_111 rfl).trans (rfl : h18_0 98 1 = h18_0 98 1))))
                have ce597 : h257 102 0 = h18_0 102 0 := ((my_up_role fh257 is_102 is_111 rfl).trans ((my_up_role fh255 is_102 is_111 rfl).trans ((my_up_role fh253 is_102 is_111 rfl).trans (rfl : h18_0 102 0 = h18_0 102 0))))
                have ce598 : h257 102 1 = h18_0 102 1 := ((my_up_role fh257 is_102 is_111 rfl).trans ((my_up_role fh255 is_102 is_111 rfl).trans ((my_up_role fh253 is_102 is_111 rfl).trans (rfl : h18_0 102 1 = h18_0 102 1))))
                have ce599 : h257 112 0 = h18_0 112 0 := ((my_up_fld fh257 (by decide)).trans ((my_up_fld fh255 (by decide)).trans ((my_up_fld fh253 (by decide)).trans (rfl : h18_0 112 0 = h18_0 112 0))))
                have ce600 : h257 112 1 = h18_0 112 1 := ((my_up_fld fh257 (by decide)).trans ((my_up_fld fh255 (by decide)).trans ((my_up_fld fh253 (by decide)).trans (rfl : h18_0 112 1 = h18_0 112 1))))
                have ce601 : h257 112 2 = h18_0 112 2 := ((my_up_fld fh257 (by decide)).trans ((my_up_fld fh255 (by decide)).trans ((my_up_ne fh253 (by omega)).trans (rfl : h18_0 112 2 = h18_0 112 2))))
                have ce602 : h257 112 3 = h18_0 112 3 := ((my_up_fld fh257 (by decide)).trans ((my_up_ne fh255 (by omega)).trans ((my_up_fld fh253 (by decide)).trans (rfl : h18_0 112 3 = h18_0 112 3))))
                have ce603 : h257 112 4 = h18_0 112 4 := ((my_up_ne fh257 (by omega)).trans ((my_up_fld fh255 (by decide)).trans ((my_up_fld fh253 (by decide)).trans (rfl : h18_0 112 4 = h18_0 112 4))))
                have ce604 : h257 112 5 = h18_0 112 5 := ((my_up_fld fh257 (by decide)).trans ((my_up_fld fh255 (by decide)).trans ((my_up_fld fh253 (by decide)).trans (rfl : h18_0 112 5 = h18_0 112 5))))
                have ce605 : h257 113 0 = h18_0 113 0 := ((my_up_fld fh257 (by decide)).trans ((my_up_fld fh255 (by decide)).trans ((my_up_fld fh253 (by decide)).trans (rfl : h18_0 113 0 = h18_0 113 0))))
                have ce606 : h257 113 1 = h18_0 113 1 := ((my_up_fld fh257 (by decide)).trans ((my_up_fld fh255 (by decide)).trans ((my_up_fld fh253 (by decide)).trans (rfl : h18_0 113 1 = h18_0 113 1))))
                have ce607 : h257 113 2 = h18_0 113 2 := ((my_up_fld fh257 (by decide)).trans ((my_up_fld fh255 (by decide)).trans ((my_up_ne fh253 (by omega)).trans (rfl : h18_0 113 2 = h18_0 113 2))))
                have ce608 : h257 113 3 = h18_0 113 3 := ((my_up_fld fh257 (by decide)).trans ((my_up_ne fh255 (by omega)).trans ((my_up_fld fh253 (by decide)).trans (rfl : h18_0 113 3 = h18_0 113 3))))
                have ce609 : h257 113 4 = h18_0 113 4 := ((my_up_ne fh257 (by omega)).trans ((my_up_fld fh255 (by decide)).trans ((my_up_fld fh253 (by decide)).trans (rfl : h18_0 113 4 = h18_0 113 4))))
                have ce610 : h257 113 5 = h18_0 113 5 := ((my_up_fld fh257 (by decide)).trans ((my_up_fld fh255 (by decide)).trans ((my_up_fld fh253 (by decide)).trans (rfl : h18_0 113 5 = h18_0 113 5))))
                have a96 : ∀ j : Int, h257 96 j = h18_0 96 j := fun j => ((my_up_role fh257 is_96 is_111 rfl).trans ((my_up_role fh255 is_96 is_111 rfl).trans ((my_up_role fh253 is_96 is_111 rfl).trans (rfl : h18_0 96 j = h18_0 96 j))))
                have a99 : ∀ j : Int, h257 99 j = h18_0 99 j := fun j => ((my_up_role fh257 is_99 is_111 rfl).trans ((my_up_role fh255 is_99 is_111 rfl).trans ((my_up_role fh253 is_99 is_111 rfl).trans (rfl : h18_0 99 j = h18_0 99 j))))
                have a101 : ∀ j : Int, h257 101 j = h18_0 101 j := fun j => ((my_up_role fh257 is_101 is_111 rfl).trans ((my_up_role fh255 is_101 is_111 rfl).trans ((my_up_role fh253 is_101 is_111 rfl).trans (rfl : h18_0 101 j = h18_0 101 j))))
                have a103 : ∀ j : Int, h257 103 j = h18_0 103 j := fun j => ((my_up_role fh257 is_103 is_111 rfl).trans ((my_up_role fh255 is_103 is_111 rfl).trans ((my_up_role fh253 is_103 is_111 rfl).trans (rfl : h18_0 103 j = h18_0 103 j))))
                have kp9 : KpS h18_0 h257 := ⟨⟨by omega, by omega, by omega, by omega, by omega, by omega, by omega, by omega, a99, a101, a103⟩, ⟨by omega, by omega⟩, ⟨by omega, by omega, by omega, by omega, by omega, by omega⟩, ⟨by omega, by omega, by omega, by omega, by omega, by omega⟩⟩
                have chI := CH_i (x := p18_2) (g := h257) (L := r18_0) (a := h257 111 2) (b := h257 111 3) (c := h257 111 4) hk (by omega) (by omega) le_18_0 (fun j => (a96 j).trans (tv_18_0.1 j)) (fun j => my_fr.at gh257 pis_2 rfl) (my_fr.at gh257 (n_Ln.2.2.1 _ (by omega) (by omega)) rfl) (by omega) (by omega) (by omega)
                have as8 : h257 94 14 = h 94 14 := kp9.1.2.1.trans tv_18_0.2.1.2.1
                refine w_ifeq (t := 308) gz_98_141 rfl (fun u611 => by exfalso; omega) (fun u611 => ?_)
                refine w_iload gz_98_144 rfl ?_
                refine w_ifne (t := 159) gz_98_146 rfl (fun u612 => ?_) (fun u612 => by exfalso; omega)
                refine w_aload_n gz_98_159 rfl ?_
                refine w_getX (v := 95) gz_98_160 is_94 rd_2 rfl (by decide) rfl ?_
                refine w_getX (v := 96) gz_98_163 is_95 rd_6 rfl (by decide) rfl ?_
                refine w_iload gz_98_166 rfl ?_
                refine w_iald gz_98_168 is_96 rd_30 (by omega) (by omega) (fun v615 ev615 pv615 qv615 => ?_)
                refine w_istore (ls' := [(2, 94), (0, x1), (1, z18_l2), (9, 0), (2, r18_0), (0, p18_1), (0, p18_2), (0, 1), (0, v615), (9, 0)]) gz_98_169 gm_98 rfl rfl rfl ?_
                have ol8 : v615 = h 96 p18_2 := by
                  have q1 := a96 p18_2
                  have q2 := tv_18_0.1 p18_2
                  omega
                refine w_iconst gz_98_171 (by decide) ?_
                refine w_istore (ls' := [(2, 94), (0, x1), (1, z18_l2), (9, 0), (2, r18_0), (0, p18_1), (0, p18_2), (0, 1), (0, v615), (0, 0)]) gz_98_172 gm_98 rfl rfl rfl ?_
                have ce616 : h257 111 2 = v398 := ev398.symm
                have ce617 : h257 111 3 = v400 := ev400.symm
                have ce618 : h257 111 4 = v261 := ev261.symm
                have ce619 : h257 94 11 = h18_0 94 11 := ((my_up_role fh257 is_94 is_111 rfl).trans ((my_up_role fh255 is_94 is_111 rfl).trans ((my_up_role fh253 is_94 is_111 rfl).trans (rfl : h18_0 94 11 = h18_0 94 11))))
                have ce620 : h257 94 12 = h18_0 94 12 := ((my_up_role fh257 is_94 is_111 rfl).trans ((my_up_role fh255 is_94 is_111 rfl).trans ((my_up_role fh253 is_94 is_111 rfl).trans (rfl : h18_0 94 12 = h18_0 94 12))))
                have ce621 : h257 94 13 = (h18_0 94 13) := ((my_up_role fh257 is_94 is_111 rfl).trans ((my_up_role fh255 is_94 is_111 rfl).trans ((my_up_role fh253 is_94 is_111 rfl).trans (rfl : h18_0 94 13 = h18_0 94 13))))
                have ce622 : h257 94 14 = h18_0 94 14 := ((my_up_role fh257 is_94 is_111 rfl).trans ((my_up_role fh255 is_94 is_111 rfl).trans ((my_up_role fh253 is_94 is_111 rfl).trans (rfl : h18_0 94 14 = h18_0 94 14))))
                have ce623 : h257 94 15 = h18_0 94 15 := ((my_up_role fh257 is_94 is_111 rfl).trans ((my_up_role fh255 is_94 is_111 rfl).trans ((my_up_role fh253 is_94 is_111 rfl).trans (rfl : h18_0 94 15 = h18_0 94 15))))
                have ce624 : h257 94 16 = h18_0 94 16 := ((my_up_role fh257 is_94 is_111 rfl).trans ((my_up_role fh255 is_94 is_111 rfl).trans ((my_up_role fh253 is_94 is_111 rfl).trans (rfl : h18_0 94 16 = h18_0 94 16))))
                have ce625 : h257 98 0 = h18_0 98 0 := ((my_up_role fh257 is_98 is_111 rfl).trans ((my_up_role fh255 is_98 is_111 rfl).trans ((my_up_role fh253 is_98 is_111 rfl).trans (rfl : h18_0 98 0 = h18_0 98 0))))
                have ce626 : h257 98 1 = h18_0 98 1 := ((my_up_role fh257 is_98 is_111 rfl).trans ((my_up_role fh255 is_98 is_111 rfl).trans ((my_up_role fh253 is_98 is_111 rfl).trans (rfl : h18_0 98 1 = h18_0 98 1))))
                have ce627 : h257 102 0 = h18_0 102 0 := ((my_up_role fh257 is_102 is_111 rfl).trans ((my_up_role fh255 is_102 is_111 rfl).trans ((my_up_role fh253 is_102 is_111 rfl).trans (rfl : h18_0 102 0 = h18_0 102 0))))
                have ce628 : h257 102 1 = h18_0 102 1 := ((my_up_role fh257 is_102 is_111 rfl).trans ((my_up_role fh255 is_102 is_111 rfl).trans ((my_up_role fh253 is_102 is_111 rfl).trans (rfl : h18_0 102 1 = h18_0 102 1))))
                have ce629 : h257 112 0 = h18_0 112 0 := ((my_up_fld fh257 (by decide)).trans ((my_up_fld fh255 (by decide)).trans ((my_up_fld fh253 (by decide)).trans (rfl : h18_0 112 0 = h18_0 112 0))))
                have ce630 : h257 112 1 = h18_0 112 1 := ((my_up_fld fh257 (by decide)).trans ((my_up_fld fh255 (by decide)).trans ((my_up_fld fh253 (by decide)).trans (rfl : h18_0 112 1 = h18_0 112 1))))
                have ce631 : h257 112 2 = h18_0 112 2 := ((my_up_fld fh257 (by decide)).trans ((my_up_fld fh255 (by decide)).trans ((my_up_ne fh253 (by omega)).trans (rfl : h18_0 112 2 = h18_0 112 2))))
                have ce632 : h257 112 3 = h18_0 112 3 := ((my_up_fld fh257 (by decide)).trans ((my_up_ne fh255 (by omega)).trans ((my_up_fld fh253 (by decide)).trans (rfl : h18_0 112 3 = h18_0 112 3))))
                have ce633 : h257 112 4 = h18_0 112 4 := ((my_up_ne fh257 (by omega)).trans ((my_up_fld fh255 (by decide)).trans ((my_up_fld fh253 (by decide)).trans (rfl : h18_0 112 4 = h18_0 112 4))))
                have ce634 : h257 112 5 = h18_0 112 5 := ((my_up_fld fh257 (by decide)).trans ((my_up_fld fh255 (by decide)).trans ((my_up_fld fh253 (by decide)).trans (rfl : h18_0 112 5 = h18_0 112 5))))
                have ce635 : h257 113 0 = h18_0 113 0 := ((my_up_fld fh257 (by decide)).trans ((my_up_fld fh255 (by decide)).trans ((my_up_fld fh253 (by decide)).trans (rfl : h18_0 113 0 = h18_0 113 0))))
                have ce636 : h257 113 1 = h18_0 113 1 := ((my_up_fld fh257 (by decide)).trans ((my_up_fld fh255 (by decide)).trans ((my_up_fld fh253 (by decide)).trans (rfl : h18_0 113 1 = h18_0 113 1))))
                have ce637 : h257 113 2 = h18_0 113 2 := ((my_up_fld fh257 (by decide)).trans ((my_up_fld fh255 (by decide)).trans ((my_up_ne fh253 (by omega)).trans (rfl : h18_0 113 2 = h18_0 113 2))))
                have ce638 : h257 113 3 = h18_0 113 3 := ((my_up_fld fh257 (by decide)).trans ((my_up_ne fh255 (by omega)).trans ((my_up_fld fh253 (by decide)).trans (rfl : h18_0 113 3 = h18_0 113 3))))
                have ce639 : h257 113 4 = h18_0 113 4 := ((my_up_ne fh257 (by omega)).trans ((my_up_fld fh255 (by decide)).trans ((my_up_fld fh253 (by decide)).trans (rfl : h18_0 113 4 = h18_0 113 4))))
                have ce640 : h257 113 5 = h18_0 113 5 := ((my_up_fld fh257 (by decide)).trans ((my_up_fld fh255 (by decide)).trans ((my_up_fld fh253 (by decide)).trans (rfl : h18_0 113 5 = h18_0 113 5))))
                have a96 : ∀ j : Int, h257 96 j = h18_0 96 j := fun j => ((my_up_role fh257 is_96 is_111 rfl).trans ((my_up_role fh255 is_96 is_111 rfl).trans ((my_up_role fh253 is_96 is_111 rfl).trans (rfl : h18_0 96 j = h18_0 96 j))))
                have a99 : ∀ j : Int, h257 99 j = h18_0 99 j := fun j => ((my_up_role fh257 is_99 is_111 rfl).trans ((my_up_role fh255 is_99 is_111 rfl).trans ((my_up_role fh253 is_99 is_111 rfl).trans (rfl : h18_0 99 j = h18_0 99 j))))
                have a101 : ∀ j : Int, h257 101 j = h18_0 101 j := fun j => ((my_up_role fh257 is_101 is_111 rfl).trans ((my_up_role fh255 is_101 is_111 rfl).trans ((my_up_role fh253 is_101 is_111 rfl).trans (rfl : h18_0 101 j = h18_0 101 j))))
                have a103 : ∀ j : Int, h257 103 j = h18_0 103 j := fun j => ((my_up_role fh257 is_103 is_111 rfl).trans ((my_up_role fh255 is_103 is_111 rfl).trans ((my_up_role fh253 is_103 is_111 rfl).trans (rfl : h18_0 103 j = h18_0 103 j))))
                have bf9 : ∀ k j : Int, 0 ≤ k → (k < 94 ∨ 120 ≤ k ∧ k < 151) → h257 k j = h k j := fun k j k0 k1 => (((my_up_ne fh257 (by omega)).trans ((my_up_ne fh255 (by omega)).trans (my_up_ne fh253 (by omega)))).trans (bf_18_0 k j k0 k1))
                have o96 : ∀ j : Int, j ≠ p18_2 → h257 96 j = h18_0 96 j := fun j hj => ((my_up_ne fh257 (by omega)).trans ((my_up_ne fh255 (by omega)).trans (my_up_ne fh253 (by omega))))
                have kp9 : KpS h18_0 h257 := ⟨⟨by omega, by omega, by omega, by omega, by omega, by omega, by omega, by omega, a99, a101, a103⟩, ⟨by omega, by omega⟩, ⟨by omega, by omega, by omega, by omega, by omega, by omega⟩, ⟨by omega, by omega, by omega, by omega, by omega, by omega⟩⟩
                exact J174_0 21 (z18_l2) (1) (v615) (0) ((h18_0 94 13)) h257 (gh257) (by omega) (by omega) (by omega) (by omega) (by omega) (by omega) (by omega) (by omega) (by omega) (((my_up_role fh257 is_94 is_111 rfl).trans ((my_up_role fh255 is_94 is_111 rfl).trans ((my_up_role fh253 is_94 is_111 rfl).trans (rfl : h18_0 94 13 = h18_0 94 13)))).trans (by omega)) Lst_h257 Ln_h257 Td_h257 (by first | rfl | exact tl_18_0 | exact tl_174_0 | assumption | omega) (by first | exact le_18_0 | exact le_174_0 | assumption | omega) (by first | exact lv_18_0 | exact lv_174_0 | (rw [show r18_0 = h 27 x1 by omega] at lv0; exact lv0) | assumption | omega) (by first | assumption | omega | (subst_vars; omega) | omega) (by first | assumption | omega | (subst_vars; omega) | omega) (by first | assumption | omega | (subst_vars; omega) | omega) (by first | exact TvN_0 tv_18_0 a96 kp9 | exact TvN_n (by omega) tn_174_0 (fun _ _ => rfl) KpS.rf (Qn_eq (by omega)) | exact TvN_n (by omega) tn_174_0 (fun _ _ => rfl) KpS.rf (Qn_ok (fun z => al (alI.mpr z))) | exact TvN_n (by omega) tn_174_0 o96 kp9 (fun z => sa (qI.mpr z)) | exact TvN_y (by omega) tn_174_0 o96 kp7 no8 kpp sm9 (by omega) (by omega) (by omega) (by omega) q7 | assumption | omega) (by first | exact chI.mp ch8 | exact ch_174_0 | assumption | omega) (by first | (intro z; exfalso; omega) | (intro _; exact ⟨nt8, by omega⟩) | exact nt_174_0 | assumption | omega) (by first | exact ol8 | exact ol_174_0 | assumption | omega) (by first | assumption | omega | (subst_vars; omega) | omega) (by first | assumption | omega | (subst_vars; omega) | omega) (by first | assumption | omega | (subst_vars; omega) | omega) (bf9) (by omega)
        ·
          show wp l rho (d + 4) 98 35 [(2, 94), (0, x1), (1, z18_l2), (9, 0), (2, r18_0), (0, p18_1), (0, p18_2), (9, 0), (9, 0), (9, 0)] [(0, 1)] h18_0 Q
          have en8 := xp250
          refine w_ifne (t := 314) gz_98_35 rfl (fun u641 => ?_) (fun u641 => by exfalso; omega)
          exact w_vret gz_98_314 gm_98 (k0 h18_0 (gh_18_0) (by first | exact TvO_z (by omega) (by omega) tv_18_0 (by first | exact Or.inl (by omega) | exact Or.inr ⟨by omega, by omega, by omega⟩) | exact bf_18_0 | assumption | omega) (by first | exact TvO_z (by omega) (by omega) tv_18_0 (by first | exact Or.inl (by omega) | exact Or.inr ⟨by omega, by omega, by omega⟩) | exact bf_18_0 | assumption | omega) n_Lst_18_0)
  refine w_aload_n gz_98_0 rfl ?_
  refine w_getX (v := 27) gz_98_1 is_94 rd_2 rfl (by decide) rfl ?_
  refine w_iload_n gz_98_4 rfl ?_
  refine w_aald gz_98_5 is_27 rd_22 rfl (by omega) (by omega) (fun v643 ev643 tv643 => ?_)
  refine w_astore (ls' := [(2, 94), (0, x1), (1, x2), (9, 0), (2, v643), (9, 0), (9, 0), (9, 0), (9, 0), (9, 0)]) gz_98_6 gm_98 rfl rfl rfl ?_
  refine w_aload gz_98_8 rfl ?_
  refine w_inv (k := 2) (as := []) (r := []) (x := v643) (ls0 := [(2, v643), (9, 0), (9, 0)]) gz_98_10 gm_99 rfl tv643 rd_4 rfl rfl rfl rfl rfl (c_Lens_liveColumns5 (d := (d + 3)) (x0 := v643) tv643 (fun v644 xp645 => ?_))
  show wp l rho (d + 4) 98 13 [(2, 94), (0, x1), (1, x2), (9, 0), (2, v643), (9, 0), (9, 0), (9, 0), (9, 0), (9, 0)] [(0, v644)] h Q
  have lv0 := xp645
  refine w_istore (ls' := [(2, 94), (0, x1), (1, x2), (9, 0), (2, v643), (0, v644), (9, 0), (9, 0), (9, 0), (9, 0)]) gz_98_13 gm_98 rfl rfl rfl ?_
  refine w_iconst gz_98_15 (by decide) ?_
  refine w_istore (ls' := [(2, 94), (0, x1), (1, x2), (9, 0), (2, v643), (0, v644), (0, 0), (9, 0), (9, 0), (9, 0)]) gz_98_16 gm_98 rfl rfl rfl ?_
  have a96 : ∀ j : Int, h 96 j = h 96 j := fun _ => rfl
  have a99 : ∀ j : Int, h 99 j = h 99 j := fun _ => rfl
  have a101 : ∀ j : Int, h 101 j = h 101 j := fun _ => rfl
  have a103 : ∀ j : Int, h 103 j = h 103 j := fun _ => rfl
  have bf9 : ∀ k j : Int, 0 ≤ k → (k < 94 ∨ 120 ≤ k ∧ k < 151) → h k j = h k j := fun k j k0 k1 => rfl
  have kp9 : KpS h h := KpS.rf
  exact J18_0 241 (x2) (v643) (v644) (0) h (my_fr.rf) tv643 (by omega) (by omega) n_Lst n_Ln n_Td (by first | rfl | exact tl_18_0 | exact tl_174_0 | assumption | omega) (by first | exact le_18_0 | exact le_174_0 | assumption | omega) (by first | exact lv_18_0 | exact lv_174_0 | (rw [show v643 = h 27 x1 by omega] at lv0; exact lv0) | assumption | omega) (by first | exact TvO_0 hd | exact TvO_e (by omega) (by omega) (by omega) tn_174_0 (by first | exact Or.inl (by omega) | exact Or.inr ⟨by omega, by omega, by omega⟩) no_such_saying (by omega) | exact TvO_n (by omega) tv_18_0 a96 kp9 (Qn_ch (fun z => ch8 (chI.mpr z))) | exact TvO_n (by omega) tv_18_0 a96 kp9 (Qn_nt hk lv_18_0 htp (by omega) (by omega) nt8 (by omega)) | assumption | omega) (bf9) (by omega)
end MYNDesk_tryOtherValues5
