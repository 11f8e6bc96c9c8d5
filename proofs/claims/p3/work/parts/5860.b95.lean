/-! contracts, printed by wip/gen/gy.py -/
section MYNThroughWindow_night4
theorem c_ThroughWindow_night4 {l : Launch} {rho : Nat → Int32} {d : Nat} {h : my_H} {Q : my_H → my_V → Prop} {x1 : Int} (n_Ln : Ln h) (hlw : LwA h) (hwo : WOk h 7) (hed : ∀ m : Int, 0 ≤ m → m ≤ 5 → h 125 m = 126 + 3 * m) (k0 : ∀ (h' : my_H), my_fr [(0, 4), (0, 6), (0, 7), (0, 8), (0, 9), (2, 11), (2, 12), (2, 13), (2, 14), (2, 15), (2, 16), (7, 0), (7, 1), (7, 2), (7, 3), (7, 4), (7, 5), (8, 0), (8, 1), (30, -1), (31, -1), (41, -1), (42, -1), (43, -1), (44, -1), (49, -1)] h h' → (∀ k j : Int, 0 ≤ k → k < 94 → h' k j = h k j) → Ln h' → Q h' (0, (-1))) (k1 : ∀ (h' : my_H) (y : Int), my_fr [(0, 4), (0, 6), (0, 7), (0, 8), (0, 9), (2, 11), (2, 12), (2, 13), (2, 14), (2, 15), (2, 16), (7, 0), (7, 1), (7, 2), (7, 3), (7, 4), (7, 5), (8, 0), (8, 1), (30, -1), (31, -1), (41, -1), (42, -1), (43, -1), (44, -1), (49, -1)] h h' → 0 ≤ x1 → x1 ≤ 3 → (∀ k j : Int, 0 ≤ k → k < 94 → h' k j = h k j) → Ln h' → Q h' (0, y)) : wp l rho (d + 7) 128 0 [(2, 0), (0, x1), (9, 0), (9, 0), (9, 0), (9, 0), (9, 0), (9, 0)] [] h Q := by
  have J33_0 : ∀ (n : Nat) (p33_0 p33_1 p33_2 p33_3 : Int) (h33_0 : my_H), my_fr [(0, 4), (0, 6), (0, 7), (0, 8), (0, 9), (2, 11), (2, 12), (2, 13), (2, 14), (2, 15), (2, 16), (7, 0), (7, 1), (7, 2), (7, 3), (7, 4), (7, 5), (8, 0), (8, 1), (30, -1), (31, -1), (41, -1), (42, -1), (43, -1), (44, -1), (49, -1)] h h33_0 → 0 ≤ x1 → x1 ≤ 2 → 0 ≤ p33_0 → p33_0 ≤ 6 → 0 ≤ p33_1 → p33_1 ≤ 3 → 1 ≤ p33_2 → p33_2 ≤ 6 → 0 ≤ p33_3 → p33_0 ≤ p33_2 → h33_0 120 4 = p33_1 → h33_0 120 7 = p33_2 → h33_0 120 9 = p33_3 → Ln h33_0 → h33_0 120 6 ≤ p33_0 → (∀ k j : Int, 0 ≤ k → k < 94 → h33_0 k j = h k j) → 7 - p33_0 ≤ (n : Int) → wp l rho (d + 7) 128 33 [(2, 0), (0, x1), (0, p33_0), (9, 0), (9, 0), (9, 0), (9, 0), (9, 0)] [] h33_0 Q := by
    intro n
    induction n with
    | zero => intro p33_0 p33_1 p33_2 p33_3 h33_0 gh_33_0 q0_33_0 q1_33_0 q2_33_0 q3_33_0 q4_33_0 q5_33_0 q6_33_0 q7_33_0 q8_33_0 q9_33_0 c120_4_33_0 c120_7_33_0 c120_9_33_0 n_Ln_33_0 ec_33_0 bf_33_0 hm_33_0; exfalso; omega
    | succ n ih_33_0 =>
      intro p33_0 p33_1 p33_2 p33_3 h33_0 gh_33_0 q0_33_0 q1_33_0 q2_33_0 q3_33_0 q4_33_0 q5_33_0 q6_33_0 q7_33_0 q8_33_0 q9_33_0 c120_4_33_0 c120_7_33_0 c120_9_33_0 n_Ln_33_0 ec_33_0 bf_33_0 hm_33_0
      have J60_0 : ∀ (n : Nat) (p60_0 p60_1 : Int) (h60_0 : my_H), my_fr [(0, 4), (0, 6), (0, 7), (0, 8), (0, 9), (2, 11), (2, 12), (2, 13), (2, 14), (2, 15), (2, 16), (7, 0), (7, 1), (7, 2), (7, 3), (7, 4), (7, 5), (8, 0), (8, 1), (30, -1), (31, -1), (41, -1), (42, -1), (43, -1), (44, -1), (49, -1)] h h60_0 → p33_0 ≤ 5 → 0 ≤ p60_0 → p60_0 ≤ 3 → 0 ≤ p60_1 → p60_1 ≤ 3 → p60_0 ≤ p60_1 → p60_0 ≤ p33_1 → p60_1 ≤ p33_1 → p33_0 ≤ (p33_2 - 1) → h60_0 120 4 = p33_1 → h60_0 120 7 = p33_2 → h60_0 120 9 = p33_3 → Ln h60_0 → h60_0 120 6 ≤ p33_0 → (∀ k j : Int, 0 ≤ k → k < 94 → h60_0 k j = h k j) → WOk h60_0 145 → 4 - p60_1 ≤ (n : Int) → wp l rho (d + 7) 128 60 [(2, 0), (0, x1), (0, p33_0), (0, p60_0), (0, p60_1), (9, 0), (9, 0), (9, 0)] [] h60_0 Q := by
        intro n
        induction n with
        | zero => intro p60_0 p60_1 h60_0 gh_60_0 q0_60_0 q1_60_0 q2_60_0 q3_60_0 q4_60_0 q5_60_0 q6_60_0 q7_60_0 q8_60_0 c120_4_60_0 c120_7_60_0 c120_9_60_0 n_Ln_60_0 ed_60_0 bf_60_0 wo_60_0 hm_60_0; exfalso; omega
        | succ n ih_60_0 =>
          intro p60_0 p60_1 h60_0 gh_60_0 q0_60_0 q1_60_0 q2_60_0 q3_60_0 q4_60_0 q5_60_0 q6_60_0 q7_60_0 q8_60_0 c120_4_60_0 c120_7_60_0 c120_9_60_0 n_Ln_60_0 ed_60_0 bf_60_0 wo_60_0 hm_60_0
          refine w_iload gz_128_60 rfl ?_
          refine w_aload_n gz_128_62 rfl ?_
          refine w_getX (v := 120) gz_128_63 is_0 rd_9 rfl (by decide) rfl ?_
          refine v_getI (j := 4) gz_128_66 rfl is_120 rd_0 rfl (fun v2 ev2 pv2 qv2 => ?_)
          have zv2 := ev2.trans c120_4_60_0
          refine w_icge (t := 163) gz_128_69 rfl (fun u3 => ?_) (fun u3 => ?_)
          ·
            refine w_aload_n gz_128_163 rfl ?_
            refine w_getX (v := 120) gz_128_164 is_0 rd_9 rfl (by decide) rfl ?_
            refine w_aload_n gz_128_167 rfl ?_
            refine w_getX (v := 145) gz_128_168 is_0 rd_9 rfl (by decide) rfl ?_
            refine w_iload_n gz_128_171 rfl ?_
            refine w_inv (k := 1) (as := [(0, p60_0), (2, 145)]) (r := []) (x := 120) (ls0 := [(2, 120), (2, 145), (0, p60_0), (9, 0)]) gz_128_172 gm_131 rfl is_120 rd_0 rfl rfl rfl rfl rfl (c_Clerks_endOrder4 (d := (d + 4)) (x1 := 145) (x2 := p60_0) is_145 (by omega) (by omega) (by first | assumption | exact no_such_saying | exact Fp_told (by omega) (by omega) | omega | (subst_vars; omega) | omega) ((fun m a b => (my_fr.at gh_60_0 is_125 rfl).trans (hed m a b))) (fun h6 frh6 w7 xp8 xp9 => ?_))
            have gh6 : my_fr [(0, 4), (0, 6), (0, 7), (0, 8), (0, 9), (2, 11), (2, 12), (2, 13), (2, 14), (2, 15), (2, 16), (7, 0), (7, 1), (7, 2), (7, 3), (7, 4), (7, 5), (8, 0), (8, 1), (30, -1), (31, -1), (41, -1), (42, -1), (43, -1), (44, -1), (49, -1)] h h6 := my_fr.tr gh_60_0 (frh6.mo rfl)
            have Ln_h6 : Ln h6 := Ln_ag (my_ag.fr frh6 rfl) n_Ln_60_0
            show wp l rho (d + 7) 128 175 [(2, 0), (0, x1), (0, p33_0), (0, p60_0), (0, p60_1), (9, 0), (9, 0), (9, 0)] [] h6 Q
            have bc_h6 : ∀ k j : Int, 0 ≤ k → k < 94 → h6 k j = h60_0 k j := xp9
            refine w_iinc (ls' := [(2, 0), (0, x1), (0, (p33_0 + 1)), (0, p60_0), (0, p60_1), (9, 0), (9, 0), (9, 0)]) gz_128_175 rfl gm_128 rfl rfl rfl ⟨by omega, by omega⟩ ?_
            refine w_goto (t := 33) gz_128_178 rfl ?_
            have bf9 : ∀ k j : Int, 0 ≤ k → k < 94 → h6 k j = h k j := fun k j k0 k1 => ((bc_h6 k j k0 k1).trans (bf_60_0 k j k0 k1))
            refine w_weak (ls' := [(2, 0), (0, x1), (0, (p33_0 + 1)), (9, 0), (9, 0), (9, 0), (9, 0), (9, 0)]) (wk_e (wk_e (wk_e (wk_9 (wk_9 (wk_9 (wk_9 (wk_9 wk_n)))))))) ?_
            exact ih_33_0 ((p33_0 + 1)) (v2) (p33_2) ((h6 120 9)) h6 (gh6) (by omega) (by omega) (by omega) (by omega) (by omega) (by omega) (by omega) (by omega) (by omega) (by omega) (((my_fr.at frh6 is_120 rfl).trans ev2.symm).trans (by omega)) (((my_fr.at frh6 is_120 rfl).trans c120_7_60_0).trans (by omega)) ((rfl : h6 120 9 = h6 120 9).trans (by omega)) Ln_h6 (by omega) (bf9) (by omega)
          ·
            refine w_aload_n gz_128_72 rfl ?_
            refine w_getX (v := 120) gz_128_73 is_0 rd_9 rfl (by decide) rfl ?_
            refine w_iload_n gz_128_76 rfl ?_
            refine w_iload gz_128_77 rfl ?_
            refine w_inv (k := 0) (as := [(0, p60_1), (0, p33_0)]) (r := []) (x := 120) (ls0 := [(2, 120), (0, p33_0), (0, p60_1)]) gz_128_79 gm_130 rfl is_120 rd_0 rfl rfl rfl rfl rfl (c_Clerks_clerkAt (d := (d + 6)) (x1 := p33_0) (x2 := p60_1) (by omega) (by omega) (by omega) (by omega) (fun v11 w12 w13 => ?_))
            show wp l rho (d + 7) 128 82 [(2, 0), (0, x1), (0, p33_0), (0, p60_0), (0, p60_1), (9, 0), (9, 0), (9, 0)] [(0, v11)] h60_0 Q
            refine w_istore (ls' := [(2, 0), (0, x1), (0, p33_0), (0, p60_0), (0, p60_1), (0, v11), (9, 0), (9, 0)]) gz_128_82 gm_128 rfl rfl rfl ?_
            refine w_aload_n gz_128_84 rfl ?_
            refine w_getX (v := 120) gz_128_85 is_0 rd_9 rfl (by decide) rfl ?_
            refine w_getX (v := 122) gz_128_88 is_120 rd_0 rfl (by decide) rfl ?_
            refine w_iload gz_128_91 rfl ?_
            refine w_iald gz_128_93 is_122 rd_47 (by omega) (by omega) (fun v16 ev16 pv16 qv16 => ?_)
            refine w_bipush gz_128_94 (by decide) ?_
            refine w_idiv gz_128_96 (by omega) (by decide) ?_
            refine w_istore (ls' := [(2, 0), (0, x1), (0, p33_0), (0, p60_0), (0, p60_1), (0, v11), (0, (v16 / 8)), (9, 0)]) gz_128_97 gm_128 rfl rfl rfl ?_
            refine w_aload_n gz_128_99 rfl ?_
            refine w_getX (v := 120) gz_128_100 is_0 rd_9 rfl (by decide) rfl ?_
            refine w_getX (v := 122) gz_128_103 is_120 rd_0 rfl (by decide) rfl ?_
            refine w_iload gz_128_106 rfl ?_
            refine w_iald gz_128_108 is_122 rd_47 (by omega) (by omega) (fun v19 ev19 pv19 qv19 => ?_)
            have zv19 := ev19.trans ev16.symm
            refine w_bipush gz_128_109 (by decide) ?_
            refine w_irem gz_128_111 (by omega) (by decide) ?_
            refine w_istore (ls' := [(2, 0), (0, x1), (0, p33_0), (0, p60_0), (0, p60_1), (0, v11), (0, (v16 / 8)), (0, (v19 % 8))]) gz_128_112 gm_128 rfl rfl rfl ?_
            refine w_aload_n gz_128_114 rfl ?_
            refine w_getX (v := 94) gz_128_115 is_0 rd_9 rfl (by decide) rfl ?_
            refine w_aload_n gz_128_118 rfl ?_
            refine w_getX (v := 145) gz_128_119 is_0 rd_9 rfl (by decide) rfl ?_
            refine w_aload_n gz_128_122 rfl ?_
            refine w_getX (v := 120) gz_128_123 is_0 rd_9 rfl (by decide) rfl ?_
            refine w_getX (v := 121) gz_128_126 is_120 rd_0 rfl (by decide) rfl ?_
            refine w_iload gz_128_129 rfl ?_
            refine w_iald gz_128_131 is_121 rd_46 (by omega) (by omega) (fun v24 ev24 pv24 qv24 => ?_)
            refine w_iconst gz_128_132 (by decide) ?_
            refine w_iload gz_128_133 rfl ?_
            refine w_iload gz_128_135 rfl ?_
            refine w_aload_n gz_128_137 rfl ?_
            refine w_getX (v := 120) gz_128_138 is_0 rd_9 rfl (by decide) rfl ?_
            refine w_getX (v := 123) gz_128_141 is_120 rd_0 rfl (by decide) rfl ?_
            refine w_iload gz_128_144 rfl ?_
            refine w_iald gz_128_146 is_123 rd_48 (by omega) (by omega) (fun v27 ev27 pv27 qv27 => ?_)
            refine w_inv (k := 0) (as := [(0, v27), (0, (v19 % 8)), (0, (v16 / 8)), (0, 0), (0, v24), (2, 145)]) (r := []) (x := 94) (ls0 := [(2, 94), (2, 145), (0, v24), (0, 0), (0, (v16 / 8)), (0, (v19 % 8)), (0, v27)]) gz_128_147 gm_114 rfl is_94 rd_2 rfl rfl rfl rfl rfl (c_Desk_putOn5 (d := d) (x1 := 145) (x2 := v24) (x3 := 0) (x4 := (v16 / 8)) (x5 := (v19 % 8)) (x6 := v27) is_145 n_Ln_60_0 (LwA_ag n_Ln (my_ag.fr (F := F5) gh_60_0 rfl) hlw) (wo_60_0) ((by unfold zqXf; omega)) (fun h28 frh28 xp29 => ?_) (fun h30 v31 frh30 w32 w33 w34 w35 w36 xp37 xp38 xp39 => ?_))
            ·
              have gh28 : my_fr [(0, 4), (0, 6), (0, 7), (0, 8), (0, 9), (2, 11), (2, 12), (2, 13), (2, 14), (2, 15), (2, 16), (7, 0), (7, 1), (7, 2), (7, 3), (7, 4), (7, 5), (8, 0), (8, 1), (30, -1), (31, -1), (41, -1), (42, -1), (43, -1), (44, -1), (49, -1)] h h28 := my_fr.tr gh_60_0 (frh28.mo rfl)
              have Ln_h28 : Ln h28 := Ln_ag (my_ag.fr frh28 rfl) n_Ln_60_0
              show wp l rho (d + 7) 128 150 [(2, 0), (0, x1), (0, p33_0), (0, p60_0), (0, p60_1), (0, v11), (0, (v16 / 8)), (0, (v19 % 8))] [(0, (-1))] h28 Q
              have bc_h28 : ∀ k j : Int, 0 ≤ k → k < 94 → h28 k j = h60_0 k j := fun k j k0 k1 => xp29.2 k j k0 (Or.inl k1)
              have woN : WOk h28 145 := WOk_ag (x := 145) (y := 145) (my_ag.fr (F := F5) frh28 rfl) wo_60_0 (fun j _ _ => xp29.2 _ j (by omega) (Or.inr ⟨by omega, by omega⟩)) (fun u _ _ => xp29.2 _ u (by omega) (Or.inr ⟨by omega, by omega⟩))
              refine w_iconst gz_128_150 (by decide) ?_
              refine w_iceq (t := 157) gz_128_151 rfl (fun u40 => ?_) (fun u40 => by exfalso; omega)
              refine w_iinc (ls' := [(2, 0), (0, x1), (0, p33_0), (0, p60_0), (0, (p60_1 + 1)), (0, v11), (0, (v16 / 8)), (0, (v19 % 8))]) gz_128_157 rfl gm_128 rfl rfl rfl ⟨by omega, by omega⟩ ?_
              refine w_goto (t := 60) gz_128_160 rfl ?_
              have ce41 : h28 120 6 = h60_0 120 6 := ((my_fr.at frh28 is_120 rfl).trans (rfl : h60_0 120 6 = h60_0 120 6))
              have bf9 : ∀ k j : Int, 0 ≤ k → k < 94 → h28 k j = h k j := fun k j k0 k1 => ((bc_h28 k j k0 k1).trans (bf_60_0 k j k0 k1))
              refine w_weak (ls' := [(2, 0), (0, x1), (0, p33_0), (0, p60_0), (0, (p60_1 + 1)), (9, 0), (9, 0), (9, 0)]) (wk_e (wk_e (wk_e (wk_e (wk_e (wk_9 (wk_9 (wk_9 wk_n)))))))) ?_
              exact ih_60_0 (p60_0) ((p60_1 + 1)) h28 (gh28) (by omega) (by omega) (by omega) (by omega) (by omega) (by omega) (by omega) (by omega) (by omega) (((my_fr.at frh28 is_120 rfl).trans ev2.symm).trans (by omega)) (((my_fr.at frh28 is_120 rfl).trans c120_7_60_0).trans (by omega)) (((my_fr.at frh28 is_120 rfl).trans c120_9_60_0).trans (by omega)) Ln_h28 (by omega) (bf9) (by first | exact woN | exact wo1 | assumption | omega) (by omega)
            ·
              have gh30 : my_fr [(0, 4), (0, 6), (0, 7), (0, 8), (0, 9), (2, 11), (2, 12), (2, 13), (2, 14), (2, 15), (2, 16), (7, 0), (7, 1), (7, 2), (7, 3), (7, 4), (7, 5), (8, 0), (8, 1), (30, -1), (31, -1), (41, -1), (42, -1), (43, -1), (44, -1), (49, -1)] h h30 := my_fr.tr gh_60_0 (frh30.mo rfl)
              have Ln_h30 : Ln h30 := Ln_ag (my_ag.fr frh30 rfl) n_Ln_60_0
              show wp l rho (d + 7) 128 150 [(2, 0), (0, x1), (0, p33_0), (0, p60_0), (0, p60_1), (0, v11), (0, (v16 / 8)), (0, (v19 % 8))] [(0, v31)] h30 Q
              have bc_h30 : ∀ k j : Int, 0 ≤ k → k < 94 → h30 k j = h60_0 k j := fun k j k0 k1 => xp39 k j k0 (Or.inl k1) (by omega)
              have woN : WOk h30 145 := xp38.2
              refine w_iconst gz_128_150 (by decide) ?_
              refine w_iceq (t := 157) gz_128_151 rfl (fun u42 => ?_) (fun u42 => ?_)
              ·
                refine w_iinc (ls' := [(2, 0), (0, x1), (0, p33_0), (0, p60_0), (0, (p60_1 + 1)), (0, v11), (0, (v16 / 8)), (0, (v19 % 8))]) gz_128_157 rfl gm_128 rfl rfl rfl ⟨by omega, by omega⟩ ?_
                refine w_goto (t := 60) gz_128_160 rfl ?_
                have ce43 : h30 120 6 = h60_0 120 6 := ((my_fr.at frh30 is_120 rfl).trans (rfl : h60_0 120 6 = h60_0 120 6))
                have bf9 : ∀ k j : Int, 0 ≤ k → k < 94 → h30 k j = h k j := fun k j k0 k1 => ((bc_h30 k j k0 k1).trans (bf_60_0 k j k0 k1))
                refine w_weak (ls' := [(2, 0), (0, x1), (0, p33_0), (0, p60_0), (0, (p60_1 + 1)), (9, 0), (9, 0), (9, 0)]) (wk_e (wk_e (wk_e (wk_e (wk_e (wk_9 (wk_9 (wk_9 wk_n)))))))) ?_
                exact ih_60_0 (p60_0) ((p60_1 + 1)) h30 (gh30) (by omega) (by omega) (by omega) (by omega) (by omega) (by omega) (by omega) (by omega) (by omega) (((my_fr.at frh30 is_120 rfl).trans ev2.symm).trans (by omega)) (((my_fr.at frh30 is_120 rfl).trans c120_7_60_0).trans (by omega)) (((my_fr.at frh30 is_120 rfl).trans c120_9_60_0).trans (by omega)) Ln_h30 (by omega) (bf9) (by first | exact woN | exact wo1 | assumption | omega) (by omega)
              ·
                refine w_iinc (ls' := [(2, 0), (0, x1), (0, p33_0), (0, (p60_0 + 1)), (0, p60_1), (0, v11), (0, (v16 / 8)), (0, (v19 % 8))]) gz_128_154 rfl gm_128 rfl rfl rfl ⟨by omega, by omega⟩ ?_
                refine w_iinc (ls' := [(2, 0), (0, x1), (0, p33_0), (0, (p60_0 + 1)), (0, (p60_1 + 1)), (0, v11), (0, (v16 / 8)), (0, (v19 % 8))]) gz_128_157 rfl gm_128 rfl rfl rfl ⟨by omega, by omega⟩ ?_
                refine w_goto (t := 60) gz_128_160 rfl ?_
                have ce44 : h30 120 6 = h60_0 120 6 := ((my_fr.at frh30 is_120 rfl).trans (rfl : h60_0 120 6 = h60_0 120 6))
                have bf9 : ∀ k j : Int, 0 ≤ k → k < 94 → h30 k j = h k j := fun k j k0 k1 => ((bc_h30 k j k0 k1).trans (bf_60_0 k j k0 k1))
                refine w_weak (ls' := [(2, 0), (0, x1), (0, p33_0), (0, (p60_0 + 1)), (0, (p60_1 + 1)), (9, 0), (9, 0), (9, 0)]) (wk_e (wk_e (wk_e (wk_e (wk_e (wk_9 (wk_9 (wk_9 wk_n)))))))) ?_
                exact ih_60_0 ((p60_0 + 1)) ((p60_1 + 1)) h30 (gh30) (by omega) (by omega) (by omega) (by omega) (by omega) (by omega) (by omega) (by omega) (by omega) (((my_fr.at frh30 is_120 rfl).trans ev2.symm).trans (by omega)) (((my_fr.at frh30 is_120 rfl).trans c120_7_60_0).trans (by omega)) (((my_fr.at frh30 is_120 rfl).trans c120_9_60_0).trans (by omega)) Ln_h30 (by omega) (bf9) (by first | exact woN | exact wo1 | assumption | omega) (by omega)
      refine w_iload_n gz_128_33 rfl ?_
      refine w_aload_n gz_128_34 rfl ?_
      refine w_getX (v := 120) gz_128_35 is_0 rd_9 rfl (by decide) rfl ?_
      refine v_getI (j := 7) gz_128_38 rfl is_120 rd_0 rfl (fun v46 ev46 pv46 qv46 => ?_)
      have zv46 := ev46.trans c120_7_33_0
      refine w_icge (t := 181) gz_128_41 rfl (fun u47 => ?_) (fun u47 => ?_)
      ·
        refine w_iload_n gz_128_181 rfl ?_
        refine w_ifne (t := 195) gz_128_182 rfl (fun u48 => ?_) (fun u48 => ?_)
        ·
          refine w_iload_n gz_128_195 rfl ?_
          refine w_iconst gz_128_196 (by decide) ?_
          refine w_icne (t := 210) gz_128_197 rfl (fun u49 => ?_) (fun u49 => ?_)
          ·
            refine w_aload_n gz_128_210 rfl ?_
            refine w_getX (v := 120) gz_128_211 is_0 rd_9 rfl (by decide) rfl ?_
            refine v_getI (j := 9) gz_128_214 rfl is_120 rd_0 rfl (fun v51 ev51 pv51 qv51 => ?_)
            have zv51 := ev51.trans c120_9_33_0
            have bfE : ∀ k j : Int, 0 ≤ k → k < 94 → h33_0 k j = h k j := fun k j k0 k1 => (bf_33_0 k j k0 k1)
            exact w_iret gz_128_217 gm_128 (k1 h33_0 (v51) (gh_33_0) (by omega) (by omega) (by first | exact bfE | assumption | omega) n_Ln_33_0)
          ·
            refine w_aload_n gz_128_200 rfl ?_
            refine w_getX (v := 120) gz_128_201 is_0 rd_9 rfl (by decide) rfl ?_
            refine v_getI (j := 6) gz_128_204 rfl is_120 rd_0 rfl (fun v53 ev53 pv53 qv53 => ?_)
            refine w_goto (t := 217) gz_128_207 rfl ?_
            have bfE : ∀ k j : Int, 0 ≤ k → k < 94 → h33_0 k j = h k j := fun k j k0 k1 => (bf_33_0 k j k0 k1)
            exact w_iret gz_128_217 gm_128 (k1 h33_0 (v53) (gh_33_0) (by omega) (by omega) (by first | exact bfE | assumption | omega) n_Ln_33_0)
        ·
          refine w_aload_n gz_128_185 rfl ?_
          refine w_getX (v := 120) gz_128_186 is_0 rd_9 rfl (by decide) rfl ?_
          refine v_getI (j := 8) gz_128_189 rfl is_120 rd_0 rfl (fun v55 ev55 pv55 qv55 => ?_)
          refine w_goto (t := 217) gz_128_192 rfl ?_
          have bfE : ∀ k j : Int, 0 ≤ k → k < 94 → h33_0 k j = h k j := fun k j k0 k1 => (bf_33_0 k j k0 k1)
          exact w_iret gz_128_217 gm_128 (k1 h33_0 (v55) (gh_33_0) (by omega) (by omega) (by first | exact bfE | assumption | omega) n_Ln_33_0)
      ·
        refine w_aload_n gz_128_44 rfl ?_
        have bfA : ∀ k j : Int, 0 ≤ k → k < 94 → h33_0 k j = h k j := fun k j k0 k1 => (bf_33_0 k j k0 k1)
        refine w_getX (v := 145) gz_128_45 is_0 rd_9 rfl (by decide) rfl ?_
        refine w_aload_n gz_128_48 rfl ?_
        refine w_getX (v := 7) gz_128_49 is_0 rd_9 rfl (by decide) rfl ?_
        refine w_inv (k := 0) (as := [(2, 7)]) (r := []) (x := 145) (ls0 := [(2, 145), (2, 7)]) gz_128_52 gm_25 rfl is_145 rd_6 rfl rfl rfl rfl rfl ?_
        refine w_aload_n gz_25_0 rfl ?_
        refine w_getX (v := 8) gz_25_1 is_7 rd_6 rfl (by decide) rfl ?_
        refine w_iconst gz_25_4 (by decide) ?_
        refine w_aload_n gz_25_5 rfl ?_
        refine w_getX (v := 146) gz_25_6 is_145 rd_6 rfl (by decide) rfl ?_
        refine w_iconst gz_25_9 (by decide) ?_
        refine w_aload_n gz_25_10 rfl ?_
        refine w_getX (v := 146) gz_25_11 is_145 rd_6 rfl (by decide) rfl ?_
        refine v_alen (j := 240) gz_25_14 rfl is_146 rd_30 (by decide) ?_
        refine w_cpU gz_25_15 is_8 rd_30 is_146 rd_30 (by omega) (by omega) (by omega) (by omega) (by omega) rfl (by decide) (by decide) (fun h61 fh61 => ?_)
        have gh61 : my_fr [(0, 4), (0, 6), (0, 7), (0, 8), (0, 9), (2, 11), (2, 12), (2, 13), (2, 14), (2, 15), (2, 16), (7, 0), (7, 1), (7, 2), (7, 3), (7, 4), (7, 5), (8, 0), (8, 1), (30, -1), (31, -1), (41, -1), (42, -1), (43, -1), (44, -1), (49, -1)] h h61 := my_fr.cp gh_33_0 is_146 fh61 rfl
        have Ln_h61 : Ln h61 := Ln_ag (my_ag.cp fh61 is_146 rfl) n_Ln_33_0
        have fc96 := fh61
        refine w_aload_n gz_25_18 rfl ?_
        refine w_getX (v := 9) gz_25_19 is_7 rd_6 rfl (by decide) rfl ?_
        refine w_iconst gz_25_22 (by decide) ?_
        refine w_aload_n gz_25_23 rfl ?_
        refine w_getX (v := 147) gz_25_24 is_145 rd_6 rfl (by decide) rfl ?_
        refine w_iconst gz_25_27 (by decide) ?_
        refine w_aload_n gz_25_28 rfl ?_
        refine w_getX (v := 147) gz_25_29 is_145 rd_6 rfl (by decide) rfl ?_
        refine v_alen (j := 3) gz_25_32 rfl is_147 rd_31 (by decide) ?_
        refine w_cpU gz_25_33 is_9 rd_31 is_147 rd_31 (by omega) (by omega) (by omega) (by omega) (by omega) rfl (by decide) (by decide) (fun h65 fh65 => ?_)
        have gh65 : my_fr [(0, 4), (0, 6), (0, 7), (0, 8), (0, 9), (2, 11), (2, 12), (2, 13), (2, 14), (2, 15), (2, 16), (7, 0), (7, 1), (7, 2), (7, 3), (7, 4), (7, 5), (8, 0), (8, 1), (30, -1), (31, -1), (41, -1), (42, -1), (43, -1), (44, -1), (49, -1)] h h65 := my_fr.cp gh61 is_147 fh65 rfl
        have Ln_h65 : Ln h65 := Ln_ag (my_ag.cp fh65 is_147 rfl) Ln_h61
        have fc97 := fh65
        refine w_vret gz_25_36 gm_25 ?_
        show wp l rho (d + 7) 128 55 [(2, 0), (0, x1), (0, p33_0), (9, 0), (9, 0), (9, 0), (9, 0), (9, 0)] [] h65 Q
        have ca1 := fc96
        have cb1 := fc97
        have w1 := CpW ca1 cb1 (by omega) (by omega) bfA
        have agP : my_ag F5 h h65 := (my_ag.fr (F := F5) gh65 rfl)
        have wo1 := WOk_cp (y := 145) rfl rfl agP hwo w1.1 w1.2.1
        refine w_iconst gz_128_55 (by decide) ?_
        refine w_istore_n (ls' := [(2, 0), (0, x1), (0, p33_0), (0, 0), (9, 0), (9, 0), (9, 0), (9, 0)]) gz_128_56 gm_128 rfl rfl rfl ?_
        refine w_iconst gz_128_57 (by decide) ?_
        refine w_istore (ls' := [(2, 0), (0, x1), (0, p33_0), (0, 0), (0, 0), (9, 0), (9, 0), (9, 0)]) gz_128_58 gm_128 rfl rfl rfl ?_
        have ce66 : h65 120 6 = h33_0 120 6 := ((my_cp_role fh65 is_120 is_147 rfl).trans ((my_cp_role fh61 is_120 is_146 rfl).trans (rfl : h33_0 120 6 = h33_0 120 6)))
        have bf9 : ∀ k j : Int, 0 ≤ k → k < 94 → h65 k j = h k j := fun k j k0 k1 => (((my_cp_ne fh65 (by omega)).trans (my_cp_ne fh61 (by omega))).trans (bf_33_0 k j k0 k1))
        exact J60_0 4 (0) (0) h65 (gh65) (by omega) (by omega) (by omega) (by omega) (by omega) (by omega) (by omega) (by omega) (by omega) (((my_cp_role fh65 is_120 is_147 rfl).trans ((my_cp_role fh61 is_120 is_146 rfl).trans c120_4_33_0)).trans (by omega)) (((my_cp_role fh65 is_120 is_147 rfl).trans ((my_cp_role fh61 is_120 is_146 rfl).trans ev46.symm)).trans (by omega)) (((my_cp_role fh65 is_120 is_147 rfl).trans ((my_cp_role fh61 is_120 is_146 rfl).trans c120_9_33_0)).trans (by omega)) Ln_h65 (by omega) (bf9) (by first | exact woN | exact wo1 | assumption | omega) (by omega)
  refine w_iload_n gz_128_0 rfl ?_
  refine w_iflt (t := 9) gz_128_1 rfl (fun u67 => ?_) (fun u67 => ?_)
  ·
    refine w_iconst gz_128_9 (by decide) ?_
    have bfE : ∀ k j : Int, 0 ≤ k → k < 94 → h k j = h k j := fun k j k0 k1 => rfl
    exact w_iret gz_128_10 gm_128 (k0 h (my_fr.rf) (by first | exact bfE | assumption | omega) n_Ln)
  ·
    refine w_iload_n gz_128_4 rfl ?_
    refine w_iconst gz_128_5 (by decide) ?_
    refine w_icle (t := 11) gz_128_6 rfl (fun u68 => ?_) (fun u68 => ?_)
    ·
      refine w_aload_n gz_128_11 rfl ?_
      refine w_getX (v := 120) gz_128_12 is_0 rd_9 rfl (by decide) rfl ?_
      refine w_inv (k := 1) (as := []) (r := []) (x := 120) (ls0 := [(2, 120), (9, 0)]) gz_128_15 gm_129 rfl is_120 rd_0 rfl rfl rfl rfl rfl (c_Clerks_beginNight (d := (d + 6))   (fun h70 frh70 w71 w72 w73 w74 w75 w76 w77 => ?_))
      have gh70 : my_fr [(0, 4), (0, 6), (0, 7), (0, 8), (0, 9), (2, 11), (2, 12), (2, 13), (2, 14), (2, 15), (2, 16), (7, 0), (7, 1), (7, 2), (7, 3), (7, 4), (7, 5), (8, 0), (8, 1), (30, -1), (31, -1), (41, -1), (42, -1), (43, -1), (44, -1), (49, -1)] h h70 := my_fr.tr my_fr.rf (frh70.mo rfl)
      have Ln_h70 : Ln h70 := Ln_ag (my_ag.fr frh70 rfl) n_Ln
      show wp l rho (d + 7) 128 18 [(2, 0), (0, x1), (9, 0), (9, 0), (9, 0), (9, 0), (9, 0), (9, 0)] [] h70 Q
      refine w_iload_n gz_128_18 rfl ?_
      refine w_iconst gz_128_19 (by decide) ?_
      refine w_icne (t := 31) gz_128_20 rfl (fun u78 => ?_) (fun u78 => ?_)
      ·
        refine w_iconst gz_128_31 (by decide) ?_
        refine w_istore_n (ls' := [(2, 0), (0, x1), (0, 0), (9, 0), (9, 0), (9, 0), (9, 0), (9, 0)]) gz_128_32 gm_128 rfl rfl rfl ?_
        have ce79 : h70 120 6 = 0 := w73
        have bf9 : ∀ k j : Int, 0 ≤ k → k < 94 → h70 k j = h k j := fun k j k0 k1 => (bg94 frh70 (by decide +kernel) k j k0 k1)
        exact J33_0 7 (0) ((h70 120 4)) ((h70 120 7)) (0) h70 (gh70) (by omega) (by omega) (by omega) (by omega) (by omega) (by omega) (by omega) (by omega) (by omega) (by omega) ((rfl : h70 120 4 = h70 120 4).trans (by omega)) ((rfl : h70 120 7 = h70 120 7).trans (by omega)) (w77.trans (by omega)) Ln_h70 (by omega) (bf9) (by omega)
      ·
        refine w_aload_n gz_128_23 rfl ?_
        refine w_getX (v := 120) gz_128_24 is_0 rd_9 rfl (by decide) rfl ?_
        refine v_getI (j := 7) gz_128_27 rfl is_120 rd_0 rfl (fun v81 ev81 pv81 qv81 => ?_)
        have zv81 := ev81.trans (rfl : h70 120 7 = h70 120 7)
        have bfE : ∀ k j : Int, 0 ≤ k → k < 94 → h70 k j = h k j := fun k j k0 k1 => (bg94 frh70 (by decide +kernel) k j k0 k1)
        exact w_iret gz_128_30 gm_128 (k1 h70 (v81) (gh70) (by omega) (by omega) (by first | exact bfE | assumption | omega) Ln_h70)
    ·
      refine w_iconst gz_128_9 (by decide) ?_
      have bfE : ∀ k j : Int, 0 ≤ k → k < 94 → h k j = h k j := fun k j k0 k1 => rfl
      exact w_iret gz_128_10 gm_128 (k0 h (my_fr.rf) (by first | exact bfE | assumption | omega) n_Ln)
theorem c_Model_ways5 {l : Launch} {rho : Nat → Int32} {d : Nat} {h : my_H} {Q : my_H → my_V → Prop} {x1 x2 x3 x4 x5 : Int} (n_Mw : Mw h) (n_Mw3 : Mw3 h) (n_Rws : Rws h) (hlm : LmW h) (hwo : zqWo (zqMA h) (zqMS h 0)) (k0 : ∀ (h' : my_H), my_fr [(10, 0), (10, 27), (10, 32), (10, 33), (10, 37), (10, 46), (10, 48), (61, -1), (62, -1), (73, -1), (74, -1), (75, -1), (76, -1), (77, -1), (78, -1), (79, -1), (80, -1), (81, -1), (82, -1), (83, -1), (84, -1), (85, -1), (86, -1), (88, -1), (89, -1), (90, -1), (91, -1), (92, -1), (93, -1), (94, -1)] h h' → h' 151 0 = 0 → ¬ mOk h (zqMS h 0) x1 x2 x3 x4 x5 → Ot9 h h' → Rws h' → Q h' (0, (-1))) (k1 : ∀ (h' : my_H) (y : Int), my_fr [(10, 0), (10, 27), (10, 32), (10, 33), (10, 37), (10, 46), (10, 48), (61, -1), (62, -1), (73, -1), (74, -1), (75, -1), (76, -1), (77, -1), (78, -1), (79, -1), (80, -1), (81, -1), (82, -1), (83, -1), (84, -1), (85, -1), (86, -1), (88, -1), (89, -1), (90, -1), (91, -1), (92, -1), (93, -1), (94, -1)] h h' → 0 ≤ y → y ≤ 1800 → 0 ≤ x1 → x1 ≤ 5 → 0 ≤ x2 → x2 ≤ 2 → h' 151 0 = 0 → (mOk h (zqMS h 0) x1 x2 x3 x4 x5 ∧ ∃ L : List zqY, mWy h (zqMS h 0) x1 x2 x3 x4 x5 L ∧ y = (L.length : Int)) → Ot9 h h' → Rws h' → Q h' (0, y)) : wp l rho (d + 7) 207 0 [(2, 151), (0, x1), (0, x2), (0, x3), (0, x4), (0, x5)] [] h Q := by
  refine w_aload_n gz_207_0 rfl ?_
  refine w_iconst gz_207_1 (by decide) ?_
  refine v_putI (j := 0) gz_207_2 rfl is_151 rd_10 rfl (by omega) (by omega) rfl (fun h1 fh1 => ?_)
  have gh1 : my_fr [(10, 0), (10, 27), (10, 32), (10, 33), (10, 37), (10, 46), (10, 48), (61, -1), (62, -1), (73, -1), (74, -1), (75, -1), (76, -1), (77, -1), (78, -1), (79, -1), (80, -1), (81, -1), (82, -1), (83, -1), (84, -1), (85, -1), (86, -1), (88, -1), (89, -1), (90, -1), (91, -1), (92, -1), (93, -1), (94, -1)] h h1 := my_fr.up my_fr.rf is_151 fh1 rfl
  have Mw_h1 : Mw h1 := Mw_ag (my_ag.up fh1 is_151 rfl) n_Mw
  have Mw3_h1 : Mw3 h1 := Mw3_ag (my_ag.up fh1 is_151 rfl) n_Mw3
  have Rws_h1 : Rws h1 := Rws_ag (my_ag.up fh1 is_151 rfl) n_Rws
  refine w_aload_n gz_207_5 rfl ?_
  refine w_iconst gz_207_6 (by decide) ?_
  refine w_iload_n gz_207_7 rfl ?_
  refine w_iload_n gz_207_8 rfl ?_
  refine w_iload_n gz_207_9 rfl ?_
  refine w_iload gz_207_10 rfl ?_
  refine w_iload gz_207_12 rfl ?_
  have c162 : ∀ j : Int, h1 162 j = h 162 j := fun j => ((my_up_role fh1 is_162 is_151 rfl).trans (rfl : h 162 j = h 162 j))
  have c163 : ∀ j : Int, h1 163 j = h 163 j := fun j => ((my_up_role fh1 is_163 is_151 rfl).trans (rfl : h 163 j = h 163 j))
  have ag1 : my_ag LmF h h1 := (my_ag.fr (F := LmF) gh1 rfl)
  refine w_inv (k := 1) (as := [(0, x5), (0, x4), (0, x3), (0, x2), (0, x1), (0, 0)]) (r := []) (x := 151) (ls0 := [(2, 151), (0, 0), (0, x1), (0, x2), (0, x3), (0, x4), (0, x5), (9, 0)]) gz_207_14 gm_208 rfl is_151 rd_10 rfl rfl rfl rfl rfl (c_Model_isEdit5 (d := (d + 2)) (x1 := 0) (x2 := x1) (x3 := x2) (x4 := x3) (x5 := x4) (x6 := x5) (by omega) (by omega) Mw_h1 Mw3_h1 Rws_h1 (fun h2 frh2 xp3 => ?_) (fun h4 frh4 w5 w6 w7 w8 xp9 xp10 xp11 xp12 xp13 xp14 xp15 xp16 xp17 xp18 xp19 xp20 => ?_))
  ·
    have gh2 : my_fr [(10, 0), (10, 27), (10, 32), (10, 33), (10, 37), (10, 46), (10, 48), (61, -1), (62, -1), (73, -1), (74, -1), (75, -1), (76, -1), (77, -1), (78, -1), (79, -1), (80, -1), (81, -1), (82, -1), (83, -1), (84, -1), (85, -1), (86, -1), (88, -1), (89, -1), (90, -1), (91, -1), (92, -1), (93, -1), (94, -1)] h h2 := my_fr.tr gh1 (frh2.mo rfl)
    have Mw_h2 : Mw h2 := Mw_ag (my_ag.fr frh2 rfl) Mw_h1
    have Mw3_h2 : Mw3 h2 := Mw3_ag (my_ag.fr frh2 rfl) Mw3_h1
    have Rws_h2 : Rws h2 := Rws_ag (my_ag.fr frh2 rfl) Rws_h1
    show wp l rho (d + 7) 207 17 [(2, 151), (0, x1), (0, x2), (0, x3), (0, x4), (0, x5)] [(0, 0)] h2 Q
    have agE : my_ag LmF h1 h2 := my_ag.fr frh2 rfl
    have e2E : ∀ j : Int, h2 162 j = h1 162 j := fun j => my_fr.at frh2 pis_162 rfl
    have e3E : ∀ j : Int, h2 163 j = h1 163 j := fun j => my_fr.at frh2 pis_163 rfl
    have nE := xp3
    refine w_ifne (t := 22) gz_207_17 rfl (fun u21 => by exfalso; omega) (fun u21 => ?_)
    refine w_iconst gz_207_20 (by decide) ?_
    have r162 : ∀ j : Int, h2 162 j = h 162 j := fun j => ((my_fr.at frh2 is_162 rfl).trans ((my_up_role fh1 is_162 is_151 rfl).trans (rfl : h 162 j = h 162 j)))
    have r163 : ∀ j : Int, h2 163 j = h 163 j := fun j => ((my_fr.at frh2 is_163 rfl).trans ((my_up_role fh1 is_163 is_151 rfl).trans (rfl : h 163 j = h 163 j)))
    have c22 := ((my_fr.at frh2 is_151 rfl).trans (my_up_self fh1))
    exact w_iret gz_207_21 gm_207 (k0 h2 (gh2) (by omega) (by first | exact o9 | exact Ot9_e r162 r163 | exact (fun z => nE ((mOk_0 ag1 c162 c163).mpr z)) | exact ⟨(mOk_0 ag1 c162 c163).mp md8, Wm_n agF maF e188F b162 b163 fA fZ (by omega) (by omega)⟩ | assumption | omega) (by first | exact o9 | exact Ot9_e r162 r163 | exact (fun z => nE ((mOk_0 ag1 c162 c163).mpr z)) | exact ⟨(mOk_0 ag1 c162 c163).mp md8, Wm_n agF maF e188F b162 b163 fA fZ (by omega) (by omega)⟩ | assumption | omega) Rws_h2)
  ·
    have gh4 : my_fr [(10, 0), (10, 27), (10, 32), (10, 33), (10, 37), (10, 46), (10, 48), (61, -1), (62, -1), (73, -1), (74, -1), (75, -1), (76, -1), (77, -1), (78, -1), (79, -1), (80, -1), (81, -1), (82, -1), (83, -1), (84, -1), (85, -1), (86, -1), (88, -1), (89, -1), (90, -1), (91, -1), (92, -1), (93, -1), (94, -1)] h h4 := my_fr.tr gh1 (frh4.mo rfl)
    have Mw_h4 : Mw h4 := Mw_ag (my_ag.fr frh4 rfl) Mw_h1
    have Mw3_h4 : Mw3 h4 := Mw3_ag (my_ag.fr frh4 rfl) Mw3_h1
    have Rws_h4 : Rws h4 := Rws_ag (my_ag.fr frh4 rfl) Rws_h1
    show wp l rho (d + 7) 207 17 [(2, 151), (0, x1), (0, x2), (0, x3), (0, x4), (0, x5)] [(0, 1)] h4 Q
    have Fp_h4t23 : Fp h4 x1 := xp11
    have agE : my_ag LmF h1 h4 := my_ag.fr frh4 rfl
    have e2E : ∀ j : Int, h4 162 j = h1 162 j := fun j => my_fr.at frh4 pis_162 rfl
    have e3E : ∀ j : Int, h4 163 j = h1 163 j := fun j => my_fr.at frh4 pis_163 rfl
    have nE := xp9
    have md8 := xp17
    refine w_ifne (t := 22) gz_207_17 rfl (fun u24 => ?_) (fun u24 => by exfalso; omega)
    refine w_aload_n gz_207_22 rfl ?_
    refine w_iconst gz_207_23 (by decide) ?_
    refine w_iload_n gz_207_24 rfl ?_
    refine w_iload_n gz_207_25 rfl ?_
    refine w_iload_n gz_207_26 rfl ?_
    refine w_iload gz_207_27 rfl ?_
    refine w_iload gz_207_29 rfl ?_
    have b162 : ∀ j : Int, h4 162 j = h 162 j := fun j => ((my_fr.at frh4 is_162 rfl).trans ((my_up_role fh1 is_162 is_151 rfl).trans (rfl : h 162 j = h 162 j)))
    have b163 : ∀ j : Int, h4 163 j = h 163 j := fun j => ((my_fr.at frh4 is_163 rfl).trans ((my_up_role fh1 is_163 is_151 rfl).trans (rfl : h 163 j = h 163 j)))
    have maF : zqMA h4 = zqMA h := zqMA_e (fun j => my_fr.at gh4 pis_157 rfl) (fun j => my_fr.at gh4 pis_158 rfl) (fun j => my_fr.at gh4 pis_159 rfl) (fun j => my_fr.at gh4 pis_160 rfl) (fun j => my_fr.at gh4 pis_161 rfl)
    have agF : my_ag LmF h h4 := (my_ag.fr (F := LmF) gh4 rfl)
    have e188F : ∀ j : Int, h4 188 j = h 188 j := fun j => my_fr.at gh4 pis_188 rfl
    refine w_inv (k := 4) (as := [(0, x5), (0, x4), (0, x3), (0, x2), (0, x1), (0, 0)]) (r := []) (x := 151) (ls0 := [(2, 151), (0, 0), (0, x1), (0, x2), (0, x3), (0, x4), (0, x5), (9, 0), (9, 0), (9, 0), (9, 0)]) gz_207_31 gm_209 rfl is_151 rd_10 rfl rfl rfl rfl rfl (c_Model_findWays5 (d := d) (x1 := 0) (x2 := x1) (x3 := x2) (x4 := x3) (x5 := x4) (x6 := x5) (by omega) (by omega) (by omega) (by omega) (by omega) (by omega) Mw_h4 Mw3_h4 Rws_h4 Fp_h4t23 (by first | assumption | exact Fp_h4t23 | exact Fp_told (by omega) (by omega) | omega | (subst_vars; omega) | omega) (by first | assumption | exact Fp_h4t23 | exact Fp_told (by omega) (by omega) | omega | (subst_vars; omega) | omega) (LmW_ag (my_ag.fr (F := LmF) gh4 rfl) hlm) ((by rw [maF, MS_eq b162 b163]; exact hwo.2.1)) (MdOk_cg agE (MS_eq e2E e3E) md8) (fun h25 frh25 xp26 xp27 xp28 Rws_h25t29 Wys_h25t30 => ?_))
    have gh25 : my_fr [(10, 0), (10, 27), (10, 32), (10, 33), (10, 37), (10, 46), (10, 48), (61, -1), (62, -1), (73, -1), (74, -1), (75, -1), (76, -1), (77, -1), (78, -1), (79, -1), (80, -1), (81, -1), (82, -1), (83, -1), (84, -1), (85, -1), (86, -1), (88, -1), (89, -1), (90, -1), (91, -1), (92, -1), (93, -1), (94, -1)] h h25 := my_fr.tr gh4 (frh25.mo rfl)
    have Mw_h25 : Mw h25 := Mw_ag (my_ag.fr frh25 rfl) Mw_h4
    have Mw3_h25 : Mw3 h25 := Mw3_ag (my_ag.fr frh25 rfl) Mw3_h4
    have Fp_h25 : Fp h25 x1 := Fp_ag (my_ag.fr frh25 rfl) Fp_h4t23
    show wp l rho (d + 7) 207 34 [(2, 151), (0, x1), (0, x2), (0, x3), (0, x4), (0, x5)] [] h25 Q
    have fA := xp26
    have fZ := xp27
    have o9 : Ot9 h h25 := (Ot9_e b162 b163).tr (Ot9_8 xp28)
    refine w_aload_n gz_207_34 rfl ?_
    refine v_getI (j := 48) gz_207_35 rfl is_151 rd_10 rfl (fun v31 ev31 pv31 qv31 => ?_)
    have r162 : ∀ j : Int, h25 162 j = h25 162 j := fun j => rfl
    have r163 : ∀ j : Int, h25 163 j = h25 163 j := fun j => rfl
    have c32 := ((my_fr.at frh25 is_151 rfl).trans ((my_fr.at frh4 is_151 rfl).trans (my_up_self fh1)))
    exact w_iret gz_207_38 gm_207 (k1 h25 (v31) (gh25) (by omega) (by omega) (by omega) (by omega) (by omega) (by omega) (by omega) (by first | exact o9 | exact Ot9_e r162 r163 | exact (fun z => nE ((mOk_0 ag1 c162 c163).mpr z)) | exact ⟨(mOk_0 ag1 c162 c163).mp md8, Wm_n agF maF e188F b162 b163 fA fZ (by omega) (by omega)⟩ | assumption | omega) (by first | exact o9 | exact Ot9_e r162 r163 | exact (fun z => nE ((mOk_0 ag1 c162 c163).mpr z)) | exact ⟨(mOk_0 ag1 c162 c163).mp md8, Wm_n agF maF e188F b162 b163 fA fZ (by omega) (by omega)⟩ | assumption | omega) Rws_h25t29)
theorem c_Model_clash4 {l : Launch} {rho : Nat → Int32} {d : Nat} {h : my_H} {Q : my_H → my_V → Prop} {x1 x2 x3 x4 x5 x6 : Int} (n_Mw : Mw h) (n_Mw3 : Mw3 h) (n_Rws : Rws h) (hlm : LmW h) (hwo : zqWo (zqMA h) (zqMS h 0)) (k0 : ∀ (h' : my_H), my_fr [(10, 0), (10, 27), (10, 32), (10, 33), (10, 37), (10, 46), (10, 48), (61, -1), (62, -1), (73, -1), (74, -1), (75, -1), (76, -1), (77, -1), (78, -1), (79, -1), (80, -1), (81, -1), (82, -1), (83, -1), (84, -1), (85, -1), (86, -1), (88, -1), (89, -1), (90, -1), (91, -1), (92, -1), (93, -1), (94, -1)] h h' → h' 151 0 = 0 → Ot9 h h' → Rws h' → Q h' (0, (-1))) (k1 : ∀ (h' : my_H), my_fr [(10, 0), (10, 27), (10, 32), (10, 33), (10, 37), (10, 46), (10, 48), (61, -1), (62, -1), (73, -1), (74, -1), (75, -1), (76, -1), (77, -1), (78, -1), (79, -1), (80, -1), (81, -1), (82, -1), (83, -1), (84, -1), (85, -1), (86, -1), (88, -1), (89, -1), (90, -1), (91, -1), (92, -1), (93, -1), (94, -1)] h h' → 0 ≤ x1 → x1 ≤ 5 → 0 ≤ x2 → 0 ≤ x4 → x4 ≤ 5 → 0 ≤ x5 → h' 151 0 = 0 → Ot9 h h' → Rws h' → Q h' (0, 0)) (k2 : ∀ (h' : my_H), my_fr [(10, 0), (10, 27), (10, 32), (10, 33), (10, 37), (10, 46), (10, 48), (61, -1), (62, -1), (73, -1), (74, -1), (75, -1), (76, -1), (77, -1), (78, -1), (79, -1), (80, -1), (81, -1), (82, -1), (83, -1), (84, -1), (85, -1), (86, -1), (88, -1), (89, -1), (90, -1), (91, -1), (92, -1), (93, -1), (94, -1)] h h' → 0 ≤ x1 → x1 ≤ 5 → 0 ≤ x2 → 0 ≤ x4 → x4 ≤ 5 → 0 ≤ x5 → h' 151 0 = 0 → Ot9 h h' → Rws h' → Q h' (0, 1)) (k3 : ∀ (h' : my_H) (y : Int), my_fr [(10, 0), (10, 27), (10, 32), (10, 33), (10, 37), (10, 46), (10, 48), (61, -1), (62, -1), (73, -1), (74, -1), (75, -1), (76, -1), (77, -1), (78, -1), (79, -1), (80, -1), (81, -1), (82, -1), (83, -1), (84, -1), (85, -1), (86, -1), (88, -1), (89, -1), (90, -1), (91, -1), (92, -1), (93, -1), (94, -1)] h h' → 2 ≤ y → y ≤ 4 → 0 ≤ x1 → x1 ≤ 5 → 0 ≤ x2 → 0 ≤ x4 → x4 ≤ 5 → 0 ≤ x5 → h' 151 0 = 0 → Ot9 h h' → Rws h' → Q h' (0, y)) : wp l rho (d + 9) 232 0 [(2, 151), (0, x1), (0, x2), (0, x3), (0, x4), (0, x5), (0, x6), (9, 0), (9, 0)] [] h Q := by
  refine v_knowA (x := 162) pis_162 rd_61 (fun kT0 => ?_)
  refine v_knowA (x := 163) pis_163 rd_62 (fun kV0 => ?_)
  refine v_knowA (x := 160) pis_160 rd_59 (fun kN0 => ?_)
  refine v_knowA (x := 157) pis_157 rd_56 (fun kC0 => ?_)
  have T0 : MTy h := ⟨kV0, kT0, kN0, kC0⟩
  refine w_aload_n gz_232_0 rfl ?_
  refine w_iconst gz_232_1 (by decide) ?_
  refine v_putI (j := 0) gz_232_2 rfl is_151 rd_10 rfl (by omega) (by omega) rfl (fun h1 fh1 => ?_)
  have gh1 : my_fr [(10, 0), (10, 27), (10, 32), (10, 33), (10, 37), (10, 46), (10, 48), (61, -1), (62, -1), (73, -1), (74, -1), (75, -1), (76, -1), (77, -1), (78, -1), (79, -1), (80, -1), (81, -1), (82, -1), (83, -1), (84, -1), (85, -1), (86, -1), (88, -1), (89, -1), (90, -1), (91, -1), (92, -1), (93, -1), (94, -1)] h h1 := my_fr.up my_fr.rf is_151 fh1 rfl
  have Mw_h1 : Mw h1 := Mw_ag (my_ag.up fh1 is_151 rfl) n_Mw
  have Mw3_h1 : Mw3 h1 := Mw3_ag (my_ag.up fh1 is_151 rfl) n_Mw3
  have Rws_h1 : Rws h1 := Rws_ag (my_ag.up fh1 is_151 rfl) n_Rws
  refine w_iload_n gz_232_5 rfl ?_
  refine w_iflt (t := 56) gz_232_6 rfl (fun u2 => ?_) (fun u2 => ?_)
  ·
    refine w_iconst gz_232_56 (by decide) ?_
    have r162 : ∀ j : Int, h1 162 j = h 162 j := fun j => ((my_up_role fh1 is_162 is_151 rfl).trans (rfl : h 162 j = h 162 j))
    have r163 : ∀ j : Int, h1 163 j = h 163 j := fun j => ((my_up_role fh1 is_163 is_151 rfl).trans (rfl : h 163 j = h 163 j))
    have c3 := (my_up_self fh1)
    exact w_iret gz_232_57 gm_232 (k0 h1 (gh1) (by omega) (by first | exact o86 | exact Ot9_e r162 r163 | assumption | omega) Rws_h1)
  ·
    refine w_iload gz_232_9 rfl ?_
    refine w_iflt (t := 56) gz_232_11 rfl (fun u4 => ?_) (fun u4 => ?_)
    ·
      refine w_iconst gz_232_56 (by decide) ?_
      have r162 : ∀ j : Int, h1 162 j = h 162 j := fun j => ((my_up_role fh1 is_162 is_151 rfl).trans (rfl : h 162 j = h 162 j))
      have r163 : ∀ j : Int, h1 163 j = h 163 j := fun j => ((my_up_role fh1 is_163 is_151 rfl).trans (rfl : h 163 j = h 163 j))
      have c5 := (my_up_self fh1)
      exact w_iret gz_232_57 gm_232 (k0 h1 (gh1) (by omega) (by first | exact o86 | exact Ot9_e r162 r163 | assumption | omega) Rws_h1)
    ·
      refine w_aload_n gz_232_14 rfl ?_
      refine w_iconst gz_232_15 (by decide) ?_
      refine w_iload_n gz_232_16 rfl ?_
      refine w_iconst gz_232_17 (by decide) ?_
      refine w_iload_n gz_232_18 rfl ?_
      refine w_bipush gz_232_19 (by decide) ?_
      refine w_idiv gz_232_21 (by omega) (by decide) ?_
      refine w_iload_n gz_232_22 rfl ?_
      refine w_bipush gz_232_23 (by decide) ?_
      refine w_irem gz_232_25 (by omega) (by decide) ?_
      refine w_iload_n gz_232_26 rfl ?_
      refine w_inv (k := 1) (as := [(0, x3), (0, (x2 % 8)), (0, (x2 / 8)), (0, 0), (0, x1), (0, 0)]) (r := []) (x := 151) (ls0 := [(2, 151), (0, 0), (0, x1), (0, 0), (0, (x2 / 8)), (0, (x2 % 8)), (0, x3), (9, 0)]) gz_232_27 gm_208 rfl is_151 rd_10 rfl rfl rfl rfl rfl (c_Model_isEdit5 (d := (d + 4)) (x1 := 0) (x2 := x1) (x3 := 0) (x4 := (x2 / 8)) (x5 := (x2 % 8)) (x6 := x3) (by omega) (by omega) Mw_h1 Mw3_h1 Rws_h1 (fun h6 frh6 xp7 => ?_) (fun h8 frh8 w9 w10 w11 w12 xp13 xp14 xp15 xp16 xp17 xp18 xp19 xp20 xp21 xp22 xp23 xp24 => ?_))
      ·
        have gh6 : my_fr [(10, 0), (10, 27), (10, 32), (10, 33), (10, 37), (10, 46), (10, 48), (61, -1), (62, -1), (73, -1), (74, -1), (75, -1), (76, -1), (77, -1), (78, -1), (79, -1), (80, -1), (81, -1), (82, -1), (83, -1), (84, -1), (85, -1), (86, -1), (88, -1), (89, -1), (90, -1), (91, -1), (92, -1), (93, -1), (94, -1)] h h6 := my_fr.tr gh1 (frh6.mo rfl)
        have Mw_h6 : Mw h6 := Mw_ag (my_ag.fr frh6 rfl) Mw_h1
        have Mw3_h6 : Mw3 h6 := Mw3_ag (my_ag.fr frh6 rfl) Mw3_h1
        have Rws_h6 : Rws h6 := Rws_ag (my_ag.fr frh6 rfl) Rws_h1
        show wp l rho (d + 9) 232 30 [(2, 151), (0, x1), (0, x2), (0, x3), (0, x4), (0, x5), (0, x6), (9, 0), (9, 0)] [(0, 0)] h6 Q
        refine w_ifeq (t := 56) gz_232_30 rfl (fun u25 => ?_) (fun u25 => by exfalso; omega)
        refine w_iconst gz_232_56 (by decide) ?_
        have r162 : ∀ j : Int, h6 162 j = h 162 j := fun j => ((my_fr.at frh6 is_162 rfl).trans ((my_up_role fh1 is_162 is_151 rfl).trans (rfl : h 162 j = h 162 j)))
        have r163 : ∀ j : Int, h6 163 j = h 163 j := fun j => ((my_fr.at frh6 is_163 rfl).trans ((my_up_role fh1 is_163 is_151 rfl).trans (rfl : h 163 j = h 163 j)))
        have c26 := ((my_fr.at frh6 is_151 rfl).trans (my_up_self fh1))
        exact w_iret gz_232_57 gm_232 (k0 h6 (gh6) (by omega) (by first | exact o86 | exact Ot9_e r162 r163 | assumption | omega) Rws_h6)
      ·
        have gh8 : my_fr [(10, 0), (10, 27), (10, 32), (10, 33), (10, 37), (10, 46), (10, 48), (61, -1), (62, -1), (73, -1), (74, -1), (75, -1), (76, -1), (77, -1), (78, -1), (79, -1), (80, -1), (81, -1), (82, -1), (83, -1), (84, -1), (85, -1), (86, -1), (88, -1), (89, -1), (90, -1), (91, -1), (92, -1), (93, -1), (94, -1)] h h8 := my_fr.tr gh1 (frh8.mo rfl)
        have Mw_h8 : Mw h8 := Mw_ag (my_ag.fr frh8 rfl) Mw_h1
        have Mw3_h8 : Mw3 h8 := Mw3_ag (my_ag.fr frh8 rfl) Mw3_h1
        have Rws_h8 : Rws h8 := Rws_ag (my_ag.fr frh8 rfl) Rws_h1
        show wp l rho (d + 9) 232 30 [(2, 151), (0, x1), (0, x2), (0, x3), (0, x4), (0, x5), (0, x6), (9, 0), (9, 0)] [(0, 1)] h8 Q
        refine w_ifeq (t := 56) gz_232_30 rfl (fun u27 => by exfalso; omega) (fun u27 => ?_)
        refine w_aload_n gz_232_33 rfl ?_
        refine w_iconst gz_232_34 (by decide) ?_
        refine w_iload gz_232_35 rfl ?_
        refine w_iconst gz_232_37 (by decide) ?_
        refine w_iload gz_232_38 rfl ?_
        refine w_bipush gz_232_40 (by decide) ?_
        refine w_idiv gz_232_42 (by omega) (by decide) ?_
        refine w_iload gz_232_43 rfl ?_
        refine w_bipush gz_232_45 (by decide) ?_
        refine w_irem gz_232_47 (by omega) (by decide) ?_
        refine w_iload gz_232_48 rfl ?_
        refine w_inv (k := 1) (as := [(0, x6), (0, (x5 % 8)), (0, (x5 / 8)), (0, 0), (0, x4), (0, 0)]) (r := []) (x := 151) (ls0 := [(2, 151), (0, 0), (0, x4), (0, 0), (0, (x5 / 8)), (0, (x5 % 8)), (0, x6), (9, 0)]) gz_232_50 gm_208 rfl is_151 rd_10 rfl rfl rfl rfl rfl (c_Model_isEdit5 (d := (d + 4)) (x1 := 0) (x2 := x4) (x3 := 0) (x4 := (x5 / 8)) (x5 := (x5 % 8)) (x6 := x6) (by omega) (by omega) Mw_h8 Mw3_h8 Rws_h8 (fun h28 frh28 xp29 => ?_) (fun h30 frh30 w31 w32 w33 w34 xp35 xp36 xp37 xp38 xp39 xp40 xp41 xp42 xp43 xp44 xp45 xp46 => ?_))
        ·
          have gh28 : my_fr [(10, 0), (10, 27), (10, 32), (10, 33), (10, 37), (10, 46), (10, 48), (61, -1), (62, -1), (73, -1), (74, -1), (75, -1), (76, -1), (77, -1), (78, -1), (79, -1), (80, -1), (81, -1), (82, -1), (83, -1), (84, -1), (85, -1), (86, -1), (88, -1), (89, -1), (90, -1), (91, -1), (92, -1), (93, -1), (94, -1)] h h28 := my_fr.tr gh8 (frh28.mo rfl)
          have Mw_h28 : Mw h28 := Mw_ag (my_ag.fr frh28 rfl) Mw_h8
          have Mw3_h28 : Mw3 h28 := Mw3_ag (my_ag.fr frh28 rfl) Mw3_h8
          have Rws_h28 : Rws h28 := Rws_ag (my_ag.fr frh28 rfl) Rws_h8
          show wp l rho (d + 9) 232 53 [(2, 151), (0, x1), (0, x2), (0, x3), (0, x4), (0, x5), (0, x6), (9, 0), (9, 0)] [(0, 0)] h28 Q
          refine w_ifne (t := 58) gz_232_53 rfl (fun u47 => by exfalso; omega) (fun u47 => ?_)
          refine w_iconst gz_232_56 (by decide) ?_
          have r162 : ∀ j : Int, h28 162 j = h 162 j := fun j => ((my_fr.at frh28 is_162 rfl).trans ((my_fr.at frh8 is_162 rfl).trans ((my_up_role fh1 is_162 is_151 rfl).trans (rfl : h 162 j = h 162 j))))
          have r163 : ∀ j : Int, h28 163 j = h 163 j := fun j => ((my_fr.at frh28 is_163 rfl).trans ((my_fr.at frh8 is_163 rfl).trans ((my_up_role fh1 is_163 is_151 rfl).trans (rfl : h 163 j = h 163 j))))
          have c48 := ((my_fr.at frh28 is_151 rfl).trans ((my_fr.at frh8 is_151 rfl).trans (my_up_self fh1)))
          exact w_iret gz_232_57 gm_232 (k0 h28 (gh28) (by omega) (by first | exact o86 | exact Ot9_e r162 r163 | assumption | omega) Rws_h28)
        ·
          have gh30 : my_fr [(10, 0), (10, 27), (10, 32), (10, 33), (10, 37), (10, 46), (10, 48), (61, -1), (62, -1), (73, -1), (74, -1), (75, -1), (76, -1), (77, -1), (78, -1), (79, -1), (80, -1), (81, -1), (82, -1), (83, -1), (84, -1), (85, -1), (86, -1), (88, -1), (89, -1), (90, -1), (91, -1), (92, -1), (93, -1), (94, -1)] h h30 := my_fr.tr gh8 (frh30.mo rfl)
          have Mw_h30 : Mw h30 := Mw_ag (my_ag.fr frh30 rfl) Mw_h8
          have Mw3_h30 : Mw3 h30 := Mw3_ag (my_ag.fr frh30 rfl) Mw3_h8
          have Rws_h30 : Rws h30 := Rws_ag (my_ag.fr frh30 rfl) Rws_h8
          show wp l rho (d + 9) 232 53 [(2, 151), (0, x1), (0, x2), (0, x3), (0, x4), (0, x5), (0, x6), (9, 0), (9, 0)] [(0, 1)] h30 Q
          refine w_ifne (t := 58) gz_232_53 rfl (fun u49 => ?_) (fun u49 => by exfalso; omega)
          refine w_aload_n gz_232_58 rfl ?_
          refine w_iconst gz_232_59 (by decide) ?_
          refine w_iload_n gz_232_60 rfl ?_
          refine w_iload_n gz_232_61 rfl ?_
          refine w_iload_n gz_232_62 rfl ?_
          refine w_iload gz_232_63 rfl ?_
          refine w_iload gz_232_65 rfl ?_
          refine w_iload gz_232_67 rfl ?_
          have b162 : ∀ j : Int, h30 162 j = h 162 j := fun j => ((my_fr.at frh30 is_162 rfl).trans ((my_fr.at frh8 is_162 rfl).trans ((my_up_role fh1 is_162 is_151 rfl).trans (rfl : h 162 j = h 162 j))))
          have b163 : ∀ j : Int, h30 163 j = h 163 j := fun j => ((my_fr.at frh30 is_163 rfl).trans ((my_fr.at frh8 is_163 rfl).trans ((my_up_role fh1 is_163 is_151 rfl).trans (rfl : h 163 j = h 163 j))))
          have ma69 : zqMA h30 = zqMA h := zqMA_e (fun j => my_fr.at gh30 pis_157 rfl) (fun j => my_fr.at gh30 pis_158 rfl) (fun j => my_fr.at gh30 pis_159 rfl) (fun j => my_fr.at gh30 pis_160 rfl) (fun j => my_fr.at gh30 pis_161 rfl)
          refine w_inv (k := 0) (as := [(0, x6), (0, x5), (0, x4), (0, x3), (0, x2), (0, x1), (0, 5)]) (r := []) (x := 151) (ls0 := [(2, 151), (0, 5), (0, x1), (0, x2), (0, x3), (0, x4), (0, x5), (0, x6)]) gz_232_69 gm_233 rfl is_151 rd_10 rfl rfl rfl rfl rfl (c_Model_both4 (d := d) (x1 := 5) (x2 := x1) (x3 := x2) (x4 := x3) (x5 := x4) (x6 := x5) (x7 := x6) (by omega) (by omega) (by omega) (by omega) (by omega) (by omega) (by omega) (by omega) Mw_h30 Mw3_h30 Rws_h30 (by first | assumption | exact no_such_saying | exact Fp_told (by omega) (by omega) | omega | (subst_vars; omega) | omega) (LmW_ag (my_ag.fr (F := LmF) gh30 rfl) hlm) ((by rw [ma69]; exact zqWo_c (fun j _ _ => by rw [MS_eq b162 b163]) (fun u a b => (T0.2.2.2 u a (by omega)).2) (fun p a b => T0.2.2.1 p a (by omega)) hwo)) ((Or.inl rfl)) (fun h50 frh50 xp51 Rws_h50t52 => ?_) (fun h53 frh53 xp54 Rws_h53t55 => ?_))
          ·
            have gh50 : my_fr [(10, 0), (10, 27), (10, 32), (10, 33), (10, 37), (10, 46), (10, 48), (61, -1), (62, -1), (73, -1), (74, -1), (75, -1), (76, -1), (77, -1), (78, -1), (79, -1), (80, -1), (81, -1), (82, -1), (83, -1), (84, -1), (85, -1), (86, -1), (88, -1), (89, -1), (90, -1), (91, -1), (92, -1), (93, -1), (94, -1)] h h50 := my_fr.tr gh30 (frh50.mo rfl)
            have Mw_h50 : Mw h50 := Mw_ag (my_ag.fr frh50 rfl) Mw_h30
            have Mw3_h50 : Mw3 h50 := Mw3_ag (my_ag.fr frh50 rfl) Mw3_h30
            show wp l rho (d + 9) 232 72 [(2, 151), (0, x1), (0, x2), (0, x3), (0, x4), (0, x5), (0, x6), (9, 0), (9, 0)] [(0, 0)] h50 Q
            have o69 : Ot9 h h50 := (Ot9_e b162 b163).tr xp51
            refine w_istore (ls' := [(2, 151), (0, x1), (0, x2), (0, x3), (0, x4), (0, x5), (0, x6), (0, 0), (9, 0)]) gz_232_72 gm_232 rfl rfl rfl ?_
            refine w_aload_n gz_232_74 rfl ?_
            refine w_bipush gz_232_75 (by decide) ?_
            refine w_iload gz_232_77 rfl ?_
            refine w_iload gz_232_79 rfl ?_
            refine w_iload gz_232_81 rfl ?_
            refine w_iload_n gz_232_83 rfl ?_
            refine w_iload_n gz_232_84 rfl ?_
            refine w_iload_n gz_232_85 rfl ?_
            have ma86 : zqMA h50 = zqMA h := zqMA_e (fun j => my_fr.at gh50 pis_157 rfl) (fun j => my_fr.at gh50 pis_158 rfl) (fun j => my_fr.at gh50 pis_159 rfl) (fun j => my_fr.at gh50 pis_160 rfl) (fun j => my_fr.at gh50 pis_161 rfl)
            refine w_inv (k := 0) (as := [(0, x3), (0, x2), (0, x1), (0, x6), (0, x5), (0, x4), (0, 6)]) (r := []) (x := 151) (ls0 := [(2, 151), (0, 6), (0, x4), (0, x5), (0, x6), (0, x1), (0, x2), (0, x3)]) gz_232_86 gm_233 rfl is_151 rd_10 rfl rfl rfl rfl rfl (c_Model_both4 (d := d) (x1 := 6) (x2 := x4) (x3 := x5) (x4 := x6) (x5 := x1) (x6 := x2) (x7 := x3) (by omega) (by omega) (by omega) (by omega) (by omega) (by omega) (by omega) (by omega) Mw_h50 Mw3_h50 Rws_h50t52 (by first | assumption | exact no_such_saying | exact Fp_told (by omega) (by omega) | omega | (subst_vars; omega) | omega) (LmW_ag (my_ag.fr (F := LmF) gh50 rfl) hlm) ((by rw [ma86]; exact zqWo_c (o69.ms (by omega) (by omega)) (fun u a b => (T0.2.2.2 u a (by omega)).2) (fun p a b => T0.2.2.1 p a (by omega)) hwo)) ((Or.inr rfl)) (fun h56 frh56 xp57 Rws_h56t58 => ?_) (fun h59 frh59 xp60 Rws_h59t61 => ?_))
            ·
              have gh56 : my_fr [(10, 0), (10, 27), (10, 32), (10, 33), (10, 37), (10, 46), (10, 48), (61, -1), (62, -1), (73, -1), (74, -1), (75, -1), (76, -1), (77, -1), (78, -1), (79, -1), (80, -1), (81, -1), (82, -1), (83, -1), (84, -1), (85, -1), (86, -1), (88, -1), (89, -1), (90, -1), (91, -1), (92, -1), (93, -1), (94, -1)] h h56 := my_fr.tr gh50 (frh56.mo rfl)
              have Mw_h56 : Mw h56 := Mw_ag (my_ag.fr frh56 rfl) Mw_h50
              have Mw3_h56 : Mw3 h56 := Mw3_ag (my_ag.fr frh56 rfl) Mw3_h50
              show wp l rho (d + 9) 232 89 [(2, 151), (0, x1), (0, x2), (0, x3), (0, x4), (0, x5), (0, x6), (0, 0), (9, 0)] [(0, 0)] h56 Q
              have o86 : Ot9 h h56 := o69.tr xp57
              refine w_istore (ls' := [(2, 151), (0, x1), (0, x2), (0, x3), (0, x4), (0, x5), (0, x6), (0, 0), (0, 0)]) gz_232_89 gm_232 rfl rfl rfl ?_
              refine w_iload gz_232_91 rfl ?_
              refine w_ifeq (t := 119) gz_232_93 rfl (fun u62 => ?_) (fun u62 => by exfalso; omega)
              refine w_iload gz_232_119 rfl ?_
              refine w_ifeq (t := 128) gz_232_121 rfl (fun u63 => ?_) (fun u63 => by exfalso; omega)
              refine w_iload gz_232_128 rfl ?_
              refine w_ifeq (t := 137) gz_232_130 rfl (fun u64 => ?_) (fun u64 => by exfalso; omega)
              refine w_iconst gz_232_137 (by decide) ?_
              have r162 : ∀ j : Int, h56 162 j = h56 162 j := fun j => rfl
              have r163 : ∀ j : Int, h56 163 j = h56 163 j := fun j => rfl
              have c65 := ((my_fr.at frh56 is_151 rfl).trans ((my_fr.at frh50 is_151 rfl).trans ((my_fr.at frh30 is_151 rfl).trans ((my_fr.at frh8 is_151 rfl).trans (my_up_self fh1)))))
              exact w_iret gz_232_138 gm_232 (k3 h56 (4) (gh56) (by omega) (by omega) (by omega) (by omega) (by omega) (by omega) (by omega) (by omega) (by omega) (by first | exact o86 | exact Ot9_e r162 r163 | assumption | omega) Rws_h56t58)
            ·
              have gh59 : my_fr [(10, 0), (10, 27), (10, 32), (10, 33), (10, 37), (10, 46), (10, 48), (61, -1), (62, -1), (73, -1), (74, -1), (75, -1), (76, -1), (77, -1), (78, -1), (79, -1), (80, -1), (81, -1), (82, -1), (83, -1), (84, -1), (85, -1), (86, -1), (88, -1), (89, -1), (90, -1), (91, -1), (92, -1), (93, -1), (94, -1)] h h59 := my_fr.tr gh50 (frh59.mo rfl)
              have Mw_h59 : Mw h59 := Mw_ag (my_ag.fr frh59 rfl) Mw_h50
              have Mw3_h59 : Mw3 h59 := Mw3_ag (my_ag.fr frh59 rfl) Mw3_h50
              show wp l rho (d + 9) 232 89 [(2, 151), (0, x1), (0, x2), (0, x3), (0, x4), (0, x5), (0, x6), (0, 0), (9, 0)] [(0, 1)] h59 Q
              have o86 : Ot9 h h59 := o69.tr xp60
              refine w_istore (ls' := [(2, 151), (0, x1), (0, x2), (0, x3), (0, x4), (0, x5), (0, x6), (0, 0), (0, 1)]) gz_232_89 gm_232 rfl rfl rfl ?_
              refine w_iload gz_232_91 rfl ?_
              refine w_ifeq (t := 119) gz_232_93 rfl (fun u66 => ?_) (fun u66 => by exfalso; omega)
              refine w_iload gz_232_119 rfl ?_
              refine w_ifeq (t := 128) gz_232_121 rfl (fun u67 => ?_) (fun u67 => by exfalso; omega)
              refine w_iload gz_232_128 rfl ?_
              refine w_ifeq (t := 137) gz_232_130 rfl (fun u68 => by exfalso; omega) (fun u68 => ?_)
              refine w_iconst gz_232_133 (by decide) ?_
              refine w_goto (t := 138) gz_232_134 rfl ?_
              have r162 : ∀ j : Int, h59 162 j = h59 162 j := fun j => rfl
              have r163 : ∀ j : Int, h59 163 j = h59 163 j := fun j => rfl
              have c69 := ((my_fr.at frh59 is_151 rfl).trans ((my_fr.at frh50 is_151 rfl).trans ((my_fr.at frh30 is_151 rfl).trans ((my_fr.at frh8 is_151 rfl).trans (my_up_self fh1)))))
              exact w_iret gz_232_138 gm_232 (k3 h59 (3) (gh59) (by omega) (by omega) (by omega) (by omega) (by omega) (by omega) (by omega) (by omega) (by omega) (by first | exact o86 | exact Ot9_e r162 r163 | assumption | omega) Rws_h59t61)
          ·
            have gh53 : my_fr [(10, 0), (10, 27), (10, 32), (10, 33), (10, 37), (10, 46), (10, 48), (61, -1), (62, -1), (73, -1), (74, -1), (75, -1), (76, -1), (77, -1), (78, -1), (79, -1), (80, -1), (81, -1), (82, -1), (83, -1), (84, -1), (85, -1), (86, -1), (88, -1), (89, -1), (90, -1), (91, -1), (92, -1), (93, -1), (94, -1)] h h53 := my_fr.tr gh30 (frh53.mo rfl)
            have Mw_h53 : Mw h53 := Mw_ag (my_ag.fr frh53 rfl) Mw_h30
            have Mw3_h53 : Mw3 h53 := Mw3_ag (my_ag.fr frh53 rfl) Mw3_h30
            show wp l rho (d + 9) 232 72 [(2, 151), (0, x1), (0, x2), (0, x3), (0, x4), (0, x5), (0, x6), (9, 0), (9, 0)] [(0, 1)] h53 Q
            have o69 : Ot9 h h53 := (Ot9_e b162 b163).tr xp54
            refine w_istore (ls' := [(2, 151), (0, x1), (0, x2), (0, x3), (0, x4), (0, x5), (0, x6), (0, 1), (9, 0)]) gz_232_72 gm_232 rfl rfl rfl ?_
            refine w_aload_n gz_232_74 rfl ?_
            refine w_bipush gz_232_75 (by decide) ?_
            refine w_iload gz_232_77 rfl ?_
            refine w_iload gz_232_79 rfl ?_
            refine w_iload gz_232_81 rfl ?_
            refine w_iload_n gz_232_83 rfl ?_
            refine w_iload_n gz_232_84 rfl ?_
            refine w_iload_n gz_232_85 rfl ?_
            have ma86 : zqMA h53 = zqMA h := zqMA_e (fun j => my_fr.at gh53 pis_157 rfl) (fun j => my_fr.at gh53 pis_158 rfl) (fun j => my_fr.at gh53 pis_159 rfl) (fun j => my_fr.at gh53 pis_160 rfl) (fun j => my_fr.at gh53 pis_161 rfl)
            refine w_inv (k := 0) (as := [(0, x3), (0, x2), (0, x1), (0, x6), (0, x5), (0, x4), (0, 6)]) (r := []) (x := 151) (ls0 := [(2, 151), (0, 6), (0, x4), (0, x5), (0, x6), (0, x1), (0, x2), (0, x3)]) gz_232_86 gm_233 rfl is_151 rd_10 rfl rfl rfl rfl rfl (c_Model_both4 (d := d) (x1 := 6) (x2 := x4) (x3 := x5) (x4 := x6) (x5 := x1) (x6 := x2) (x7 := x3) (by omega) (by omega) (by omega) (by omega) (by omega) (by omega) (by omega) (by omega) Mw_h53 Mw3_h53 Rws_h53t55 (by first | assumption | exact no_such_saying | exact Fp_told (by omega) (by omega) | omega | (subst_vars; omega) | omega) (LmW_ag (my_ag.fr (F := LmF) gh53 rfl) hlm) ((by rw [ma86]; exact zqWo_c (o69.ms (by omega) (by omega)) (fun u a b => (T0.2.2.2 u a (by omega)).2) (fun p a b => T0.2.2.1 p a (by omega)) hwo)) ((Or.inr rfl)) (fun h70 frh70 xp71 Rws_h70t72 => ?_) (fun h73 frh73 xp74 Rws_h73t75 => ?_))
            ·
              have gh70 : my_fr [(10, 0), (10, 27), (10, 32), (10, 33), (10, 37), (10, 46), (10, 48), (61, -1), (62, -1), (73, -1), (74, -1), (75, -1), (76, -1), (77, -1), (78, -1), (79, -1), (80, -1), (81, -1), (82, -1), (83, -1), (84, -1), (85, -1), (86, -1), (88, -1), (89, -1), (90, -1), (91, -1), (92, -1), (93, -1), (94, -1)] h h70 := my_fr.tr gh53 (frh70.mo rfl)
              have Mw_h70 : Mw h70 := Mw_ag (my_ag.fr frh70 rfl) Mw_h53
              have Mw3_h70 : Mw3 h70 := Mw3_ag (my_ag.fr frh70 rfl) Mw3_h53
              show wp l rho (d + 9) 232 89 [(2, 151), (0, x1), (0, x2), (0, x3), (0, x4), (0, x5), (0, x6), (0, 1), (9, 0)] [(0, 0)] h70 Q
              have o86 : Ot9 h h70 := o69.tr xp71
              refine w_istore (ls' := [(2, 151), (0, x1), (0, x2), (0, x3), (0, x4), (0, x5), (0, x6), (0, 1), (0, 0)]) gz_232_89 gm_232 rfl rfl rfl ?_
              refine w_iload gz_232_91 rfl ?_
              refine w_ifeq (t := 119) gz_232_93 rfl (fun u76 => by exfalso; omega) (fun u76 => ?_)
              refine w_iload gz_232_96 rfl ?_
              refine w_ifeq (t := 119) gz_232_98 rfl (fun u77 => ?_) (fun u77 => by exfalso; omega)
              refine w_iload gz_232_119 rfl ?_
              refine w_ifeq (t := 128) gz_232_121 rfl (fun u78 => by exfalso; omega) (fun u78 => ?_)
              refine w_iconst gz_232_124 (by decide) ?_
              refine w_goto (t := 138) gz_232_125 rfl ?_
              have r162 : ∀ j : Int, h70 162 j = h70 162 j := fun j => rfl
              have r163 : ∀ j : Int, h70 163 j = h70 163 j := fun j => rfl
              have c79 := ((my_fr.at frh70 is_151 rfl).trans ((my_fr.at frh53 is_151 rfl).trans ((my_fr.at frh30 is_151 rfl).trans ((my_fr.at frh8 is_151 rfl).trans (my_up_self fh1)))))
              exact w_iret gz_232_138 gm_232 (k3 h70 (2) (gh70) (by omega) (by omega) (by omega) (by omega) (by omega) (by omega) (by omega) (by omega) (by omega) (by first | exact o86 | exact Ot9_e r162 r163 | assumption | omega) Rws_h70t72)
            ·
              have gh73 : my_fr [(10, 0), (10, 27), (10, 32), (10, 33), (10, 37), (10, 46), (10, 48), (61, -1), (62, -1), (73, -1), (74, -1), (75, -1), (76, -1), (77, -1), (78, -1), (79, -1), (80, -1), (81, -1), (82, -1), (83, -1), (84, -1), (85, -1), (86, -1), (88, -1), (89, -1), (90, -1), (91, -1), (92, -1), (93, -1), (94, -1)] h h73 := my_fr.tr gh53 (frh73.mo rfl)
              have Mw_h73 : Mw h73 := Mw_ag (my_ag.fr frh73 rfl) Mw_h53
              have Mw3_h73 : Mw3 h73 := Mw3_ag (my_ag.fr frh73 rfl) Mw3_h53
              show wp l rho (d + 9) 232 89 [(2, 151), (0, x1), (0, x2), (0, x3), (0, x4), (0, x5), (0, x6), (0, 1), (9, 0)] [(0, 1)] h73 Q
              have o86 : Ot9 h h73 := o69.tr xp74
              refine w_istore (ls' := [(2, 151), (0, x1), (0, x2), (0, x3), (0, x4), (0, x5), (0, x6), (0, 1), (0, 1)]) gz_232_89 gm_232 rfl rfl rfl ?_
              refine w_iload gz_232_91 rfl ?_
              refine w_ifeq (t := 119) gz_232_93 rfl (fun u80 => by exfalso; omega) (fun u80 => ?_)
              refine w_iload gz_232_96 rfl ?_
              refine w_ifeq (t := 119) gz_232_98 rfl (fun u81 => by exfalso; omega) (fun u81 => ?_)
              refine w_aload_n gz_232_101 rfl ?_
              refine w_iconst gz_232_102 (by decide) ?_
              refine w_bipush gz_232_103 (by decide) ?_
              refine w_inv (k := 3) (as := [(0, 6), (0, 5)]) (r := []) (x := 151) (ls0 := [(2, 151), (0, 5), (0, 6), (9, 0), (9, 0), (9, 0)]) gz_232_105 gm_230 rfl is_151 rd_10 rfl rfl rfl rfl rfl (c_Model_areAlike5 (d := (d + 8)) (x1 := 5) (x2 := 6) (by omega) (by omega) (by omega) (by omega) (fun v82 w83 w84 xp85 => ?_))
              show wp l rho (d + 9) 232 108 [(2, 151), (0, x1), (0, x2), (0, x3), (0, x4), (0, x5), (0, x6), (0, 1), (0, 1)] [(0, v82)] h73 Q
              refine w_ifeq (t := 115) gz_232_108 rfl (fun u86 => ?_) (fun u86 => ?_)
              ·
                refine w_iconst gz_232_115 (by decide) ?_
                refine w_goto (t := 138) gz_232_116 rfl ?_
                have r162 : ∀ j : Int, h73 162 j = h73 162 j := fun j => rfl
                have r163 : ∀ j : Int, h73 163 j = h73 163 j := fun j => rfl
                have c87 := ((my_fr.at frh73 is_151 rfl).trans ((my_fr.at frh53 is_151 rfl).trans ((my_fr.at frh30 is_151 rfl).trans ((my_fr.at frh8 is_151 rfl).trans (my_up_self fh1)))))
                exact w_iret gz_232_138 gm_232 (k2 h73 (gh73) (by omega) (by omega) (by omega) (by omega) (by omega) (by omega) (by omega) (by first | exact o86 | exact Ot9_e r162 r163 | assumption | omega) Rws_h73t75)
              ·
                refine w_iconst gz_232_111 (by decide) ?_
                refine w_goto (t := 138) gz_232_112 rfl ?_
                have r162 : ∀ j : Int, h73 162 j = h73 162 j := fun j => rfl
                have r163 : ∀ j : Int, h73 163 j = h73 163 j := fun j => rfl
                have c88 := ((my_fr.at frh73 is_151 rfl).trans ((my_fr.at frh53 is_151 rfl).trans ((my_fr.at frh30 is_151 rfl).trans ((my_fr.at frh8 is_151 rfl).trans (my_up_self fh1)))))
                exact w_iret gz_232_138 gm_232 (k1 h73 (gh73) (by omega) (by omega) (by omega) (by omega) (by omega) (by omega) (by omega) (by first | exact o86 | exact Ot9_e r162 r163 | assumption | omega) Rws_h73t75)
end MYNThroughWindow_night4
