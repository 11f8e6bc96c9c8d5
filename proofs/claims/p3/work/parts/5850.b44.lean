/-! contracts, printed by wip/gen/gy.py -/
section MYNModel_swaps5
theorem c_Model_swaps5 {l : Launch} {rho : Nat → Int32} {d : Nat} {h : my_H} {Q : my_H → my_V → Prop} {x1 x2 : Int} (a1 : 0 ≤ x1) (b1 : x1 ≤ 8) (a2 : 1 ≤ x2) (b2 : x2 ≤ 9) (pq : x1 < x2) (k0 : ∀ (h' : my_H), my_fr [(80, -1), (81, -1), (82, -1)] h h' → h' 181 x1 = h 181 x2 → h' 181 x2 = h 181 x1 → (∀ j : Int, j ≠ x1 → j ≠ x2 → h' 181 j = h 181 j) → SwR h h' x1 x2 8 → Q h' (9, 0)) : wp l rho d 201 0 [(2, 151), (0, x1), (0, x2), (9, 0), (9, 0), (9, 0), (9, 0)] [] h Q := by
  have J29_0 : ∀ (n : Nat) (p29_0 p29_1 : Int) (h29_0 : my_H), my_fr [(80, -1), (81, -1), (82, -1)] h h29_0 → 0 ≤ p29_0 → p29_0 ≤ 19 → 0 ≤ p29_1 → p29_1 ≤ 8 → h29_0 181 x1 = h 181 x2 → h29_0 181 x2 = h 181 x1 → (∀ j : Int, j ≠ x1 → j ≠ x2 → h29_0 181 j = h 181 j) → SwR h h29_0 x1 x2 p29_1 → 9 - p29_1 ≤ (n : Int) → wp l rho d 201 29 [(2, 151), (0, x1), (0, x2), (0, p29_0), (0, p29_1), (9, 0), (9, 0)] [] h29_0 Q := by
    intro n
    induction n with
    | zero => intro p29_0 p29_1 h29_0 gh_29_0 q0_29_0 q1_29_0 q2_29_0 q3_29_0 t1_29_0 t2_29_0 t3_29_0 sw_29_0 hm_29_0; exfalso; omega
    | succ n ih_29_0 =>
      intro p29_0 p29_1 h29_0 gh_29_0 q0_29_0 q1_29_0 q2_29_0 q3_29_0 t1_29_0 t2_29_0 t3_29_0 sw_29_0 hm_29_0
      refine w_iload gz_201_29 rfl ?_
      refine w_bipush gz_201_31 (by decide) ?_
      refine w_icge (t := 146) gz_201_33 rfl (fun u1 => ?_) (fun u1 => ?_)
      ·
        exact w_vret gz_201_146 gm_201 (k0 h29_0 (gh_29_0) (by first | exact t1_29_0 | exact t2_29_0 | exact t3_29_0 | (have q := sw_29_0; rw [show p29_1 = 8 by omega] at q; exact q) | assumption | omega) (by first | exact t1_29_0 | exact t2_29_0 | exact t3_29_0 | (have q := sw_29_0; rw [show p29_1 = 8 by omega] at q; exact q) | assumption | omega) (by first | exact t1_29_0 | exact t2_29_0 | exact t3_29_0 | (have q := sw_29_0; rw [show p29_1 = 8 by omega] at q; exact q) | assumption | omega) (by first | exact t1_29_0 | exact t2_29_0 | exact t3_29_0 | (have q := sw_29_0; rw [show p29_1 = 8 by omega] at q; exact q) | assumption | omega))
      ·
        refine w_aload_n gz_201_36 rfl ?_
        refine w_getX (v := 182) gz_201_37 is_151 rd_10 rfl (by decide) rfl ?_
        refine w_bipush gz_201_40 (by decide) ?_
        refine w_iload_n gz_201_42 rfl ?_
        refine w_imul gz_201_43 ⟨by omega, by omega⟩ ?_
        refine w_iload gz_201_44 rfl ?_
        refine w_iadd gz_201_46 ⟨by omega, by omega⟩ ?_
        refine w_iald gz_201_47 is_182 rd_81 (by omega) (by omega) (fun v3 ev3 pv3 qv3 => ?_)
        refine w_istore (ls' := [(2, 151), (0, x1), (0, x2), (0, p29_0), (0, p29_1), (0, v3), (9, 0)]) gz_201_48 gm_201 rfl rfl rfl ?_
        refine w_aload_n gz_201_50 rfl ?_
        refine w_getX (v := 183) gz_201_51 is_151 rd_10 rfl (by decide) rfl ?_
        refine w_bipush gz_201_54 (by decide) ?_
        refine w_iload_n gz_201_56 rfl ?_
        refine w_imul gz_201_57 ⟨by omega, by omega⟩ ?_
        refine w_iload gz_201_58 rfl ?_
        refine w_iadd gz_201_60 ⟨by omega, by omega⟩ ?_
        refine w_iald gz_201_61 is_183 rd_82 (by omega) (by omega) (fun v5 ev5 pv5 qv5 => ?_)
        refine w_istore (ls' := [(2, 151), (0, x1), (0, x2), (0, p29_0), (0, p29_1), (0, v3), (0, v5)]) gz_201_62 gm_201 rfl rfl rfl ?_
        refine w_aload_n gz_201_64 rfl ?_
        refine w_getX (v := 182) gz_201_65 is_151 rd_10 rfl (by decide) rfl ?_
        refine w_bipush gz_201_68 (by decide) ?_
        refine w_iload_n gz_201_70 rfl ?_
        refine w_imul gz_201_71 ⟨by omega, by omega⟩ ?_
        refine w_iload gz_201_72 rfl ?_
        refine w_iadd gz_201_74 ⟨by omega, by omega⟩ ?_
        refine w_aload_n gz_201_75 rfl ?_
        refine w_getX (v := 182) gz_201_76 is_151 rd_10 rfl (by decide) rfl ?_
        refine w_bipush gz_201_79 (by decide) ?_
        refine w_iload_n gz_201_81 rfl ?_
        refine w_imul gz_201_82 ⟨by omega, by omega⟩ ?_
        refine w_iload gz_201_83 rfl ?_
        refine w_iadd gz_201_85 ⟨by omega, by omega⟩ ?_
        refine w_iald gz_201_86 is_182 rd_81 (by omega) (by omega) (fun v8 ev8 pv8 qv8 => ?_)
        refine w_iastU gz_201_87 is_182 rd_81 (by omega) (by omega) (by omega) (fun h9 fh9 => ?_)
        have gh9 : my_fr [(80, -1), (81, -1), (82, -1)] h h9 := my_fr.up gh_29_0 is_182 fh9 rfl
        refine w_aload_n gz_201_88 rfl ?_
        refine w_getX (v := 183) gz_201_89 is_151 rd_10 rfl (by decide) rfl ?_
        refine w_bipush gz_201_92 (by decide) ?_
        refine w_iload_n gz_201_94 rfl ?_
        refine w_imul gz_201_95 ⟨by omega, by omega⟩ ?_
        refine w_iload gz_201_96 rfl ?_
        refine w_iadd gz_201_98 ⟨by omega, by omega⟩ ?_
        refine w_aload_n gz_201_99 rfl ?_
        refine w_getX (v := 183) gz_201_100 is_151 rd_10 rfl (by decide) rfl ?_
        refine w_bipush gz_201_103 (by decide) ?_
        refine w_iload_n gz_201_105 rfl ?_
        refine w_imul gz_201_106 ⟨by omega, by omega⟩ ?_
        refine w_iload gz_201_107 rfl ?_
        refine w_iadd gz_201_109 ⟨by omega, by omega⟩ ?_
        refine w_iald gz_201_110 is_183 rd_82 (by omega) (by omega) (fun v12 ev12 pv12 qv12 => ?_)
        refine w_iast gz_201_111 is_183 rd_82 (by omega) (by omega) (by omega) (by omega) (fun h13 fh13 => ?_)
        have gh13 : my_fr [(80, -1), (81, -1), (82, -1)] h h13 := my_fr.up gh9 is_183 fh13 rfl
        refine w_aload_n gz_201_112 rfl ?_
        refine w_getX (v := 182) gz_201_113 is_151 rd_10 rfl (by decide) rfl ?_
        refine w_bipush gz_201_116 (by decide) ?_
        refine w_iload_n gz_201_118 rfl ?_
        refine w_imul gz_201_119 ⟨by omega, by omega⟩ ?_
        refine w_iload gz_201_120 rfl ?_
        refine w_iadd gz_201_122 ⟨by omega, by omega⟩ ?_
        refine w_iload gz_201_123 rfl ?_
        refine w_iastU gz_201_125 is_182 rd_81 (by omega) (by omega) (by omega) (fun h15 fh15 => ?_)
        have gh15 : my_fr [(80, -1), (81, -1), (82, -1)] h h15 := my_fr.up gh13 is_182 fh15 rfl
        refine w_aload_n gz_201_126 rfl ?_
        refine w_getX (v := 183) gz_201_127 is_151 rd_10 rfl (by decide) rfl ?_
        refine w_bipush gz_201_130 (by decide) ?_
        refine w_iload_n gz_201_132 rfl ?_
        refine w_imul gz_201_133 ⟨by omega, by omega⟩ ?_
        refine w_iload gz_201_134 rfl ?_
        refine w_iadd gz_201_136 ⟨by omega, by omega⟩ ?_
        refine w_iload gz_201_137 rfl ?_
        refine w_iast gz_201_139 is_183 rd_82 (by omega) (by omega) (by omega) (by omega) (fun h17 fh17 => ?_)
        have gh17 : my_fr [(80, -1), (81, -1), (82, -1)] h h17 := my_fr.up gh15 is_183 fh17 rfl
        refine w_iinc (ls' := [(2, 151), (0, x1), (0, x2), (0, p29_0), (0, (p29_1 + 1)), (0, v3), (0, v5)]) gz_201_140 rfl gm_201 rfl rfl rfl ⟨by omega, by omega⟩ ?_
        refine w_goto (t := 29) gz_201_143 rfl ?_
        have a181 : ∀ j : Int, h17 181 j = h29_0 181 j := fun j => ((my_up_role fh17 is_181 is_183 rfl).trans ((my_up_role fh15 is_181 is_182 rfl).trans ((my_up_role fh13 is_181 is_183 rfl).trans ((my_up_role fh9 is_181 is_182 rfl).trans (rfl : h29_0 181 j = h29_0 181 j)))))
        have a182 : ∀ j : Int, h17 182 j = h15 182 j := fun j => ((my_up_role fh17 is_182 is_183 rfl).trans (rfl : h15 182 j = h15 182 j))
        refine w_weak (ls' := [(2, 151), (0, x1), (0, x2), (0, p29_0), (0, (p29_1 + 1)), (9, 0), (9, 0)]) (wk_e (wk_e (wk_e (wk_e (wk_e (wk_9 (wk_9 wk_n))))))) ?_
        exact ih_29_0 (p29_0) ((p29_1 + 1)) h17 (gh17) (by omega) (by omega) (by omega) (by omega) (by first | (rw [a181]; exact t1_29_0) | (rw [my_up_ne fh17 (by omega), my_up_at fh15 (by omega)]; omega) | assumption | omega) (by first | (rw [a181]; exact t2_29_0) | (rw [my_up_at fh17 (by omega)]; omega) | assumption | omega) (by first | (intro j a b; rw [a181]; exact t3_29_0 j a b) | (intro j a b; rw [my_up_ne fh17 (by omega), my_up_ne fh15 (by omega)]) | assumption | omega) (by first | exact SwR_s (by omega) (by omega) (by omega) sw_29_0 fh9 (by omega) (by omega) fh13 fh15 (by omega) (by omega) fh17 | exact SwR_0 (fun j => a182 j) | assumption | omega) (by omega)
  refine w_aload_n gz_201_0 rfl ?_
  refine w_getX (v := 181) gz_201_1 is_151 rd_10 rfl (by decide) rfl ?_
  refine w_iload_n gz_201_4 rfl ?_
  refine w_iald gz_201_5 is_181 rd_80 (by omega) (by omega) (fun v19 ev19 pv19 qv19 => ?_)
  refine w_istore_n (ls' := [(2, 151), (0, x1), (0, x2), (0, v19), (9, 0), (9, 0), (9, 0)]) gz_201_6 gm_201 rfl rfl rfl ?_
  refine w_aload_n gz_201_7 rfl ?_
  refine w_getX (v := 181) gz_201_8 is_151 rd_10 rfl (by decide) rfl ?_
  refine w_iload_n gz_201_11 rfl ?_
  refine w_aload_n gz_201_12 rfl ?_
  refine w_getX (v := 181) gz_201_13 is_151 rd_10 rfl (by decide) rfl ?_
  refine w_iload_n gz_201_16 rfl ?_
  refine w_iald gz_201_17 is_181 rd_80 (by omega) (by omega) (fun v22 ev22 pv22 qv22 => ?_)
  refine w_iast gz_201_18 is_181 rd_80 (by omega) (by omega) (by omega) (by omega) (fun h23 fh23 => ?_)
  have gh23 : my_fr [(80, -1), (81, -1), (82, -1)] h h23 := my_fr.up my_fr.rf is_181 fh23 rfl
  refine w_aload_n gz_201_19 rfl ?_
  refine w_getX (v := 181) gz_201_20 is_151 rd_10 rfl (by decide) rfl ?_
  refine w_iload_n gz_201_23 rfl ?_
  refine w_iload_n gz_201_24 rfl ?_
  refine w_iast gz_201_25 is_181 rd_80 (by omega) (by omega) (by omega) (by omega) (fun h25 fh25 => ?_)
  have gh25 : my_fr [(80, -1), (81, -1), (82, -1)] h h25 := my_fr.up gh23 is_181 fh25 rfl
  refine w_iconst gz_201_26 (by decide) ?_
  refine w_istore (ls' := [(2, 151), (0, x1), (0, x2), (0, v19), (0, 0), (9, 0), (9, 0)]) gz_201_27 gm_201 rfl rfl rfl ?_
  have a181 : ∀ j : Int, h25 181 j = h25 181 j := fun j => rfl
  have a182 : ∀ j : Int, h25 182 j = h 182 j := fun j => ((my_up_role fh25 is_182 is_181 rfl).trans ((my_up_role fh23 is_182 is_181 rfl).trans (rfl : h 182 j = h 182 j)))
  exact J29_0 9 (v19) (0) h25 (gh25) (by omega) (by omega) (by omega) (by omega) (by first | (rw [a181]; exact t1_29_0) | (rw [my_up_ne fh25 (by omega), my_up_at fh23 (by omega)]; omega) | assumption | omega) (by first | (rw [a181]; exact t2_29_0) | (rw [my_up_at fh25 (by omega)]; omega) | assumption | omega) (by first | (intro j a b; rw [a181]; exact t3_29_0 j a b) | (intro j a b; rw [my_up_ne fh25 (by omega), my_up_ne fh23 (by omega)]) | assumption | omega) (by first | exact SwR_s (by omega) (by omega) (by omega) sw_29_0 no_such_saying (by omega) (by omega) no_such_saying fh23 (by omega) (by omega) fh25 | exact SwR_0 (fun j => a182 j) | assumption | omega) (by omega)
theorem c_View_join5 {l : Launch} {rho : Nat → Int32} {d : Nat} {h : my_H} {Q : my_H → my_V → Prop} {x0 x1 x2 x3 x4 : Int} (t0 : my_is 8 x0) (t1 : my_is 6 x1) (a2 : 0 ≤ x2) (b2 : x2 ≤ 2) (m2_0 : 0 ≤ x2 % 17) (m2_1 : x2 % 17 ≤ 2) (a3 : 1 ≤ x3) (b3 : x3 ≤ 4) (m3_0 : 1 ≤ x3 % 17) (m3_1 : x3 % 17 ≤ 4) (a4 : 0 ≤ x4) (b4 : x4 ≤ 7) (m4_0 : 0 ≤ x4 % 17) (m4_1 : x4 % 17 ≤ 7) (hj : h x0 1 + x3 ≤ 9) (hc : x4 < h x0 1) (k0 : ∀ (h' : my_H), my_fr [(8, 0), (8, 1), (42, -1), (44, -1)] h h' → my_fx x0 3 h h' → h' x0 0 ≤ h x0 0 → h' x0 1 = h x0 1 + x3 - 1 → zqL (zqE h' x0 (h x0 1 + x3 - 1)) (h' x0 0).toNat = (zqL (zqE h x0 (h x0 1)) (h x0 0).toNat).filterMap (zqO2 (h (x1 + 1)) (h x0 1) (4, x4, x2, x3, (fun _ => 0))) → TjI (h (x1 + 1)) h h' x0 (h x0 1) x2 x4 (h x0 0) → Q h' (9, 0)) : wp l rho (d + 2) 73 0 [(2, x0), (2, x1), (0, x2), (0, x3), (0, x4), (9, 0), (9, 0), (9, 0)] [] h Q := by
  refine v_know (x := x0) (j := 0) (b := 0) rfl t0 rd_8 rfl (fun ka0_0 eka0_0 pka0_0 qka0_0 => ?_)
  refine v_know (x := x0) (j := 1) (b := 1) rfl t0 rd_8 rfl (fun ka0_1 eka0_1 pka0_1 qka0_1 => ?_)
  have J6_0 : ∀ (n : Nat) (p6_0 p6_1 : Int) (h6_0 : my_H), my_fr [(8, 0), (8, 1), (42, -1), (44, -1)] h h6_0 → my_fx x0 3 h h6_0 → 0 ≤ p6_0 → p6_0 ≤ 11 → 0 ≤ p6_1 → p6_1 ≤ 11 → p6_0 ≤ p6_1 → p6_0 ≤ ka0_0 → p6_1 ≤ ka0_0 → h6_0 x0 0 = ka0_0 → h6_0 x0 1 = ka0_1 → FmI h h6_0 x0 (h x0 1) (h x0 1 + x3 - 1) (zqO2 (h (x1 + 1)) (h x0 1) (4, x4, x2, x3, (fun _ => 0))) p6_0 p6_1 → TjI (h (x1 + 1)) h h6_0 x0 (h x0 1) x2 x4 p6_1 → 12 - p6_1 ≤ (n : Int) → wp l rho (d + 2) 73 6 [(2, x0), (2, x1), (0, x2), (0, x3), (0, x4), (0, p6_0), (0, p6_1), (9, 0)] [] h6_0 Q := by
    intro n
    induction n with
    | zero => intro p6_0 p6_1 h6_0 gh_6_0 gx_6_0 q0_6_0 q1_6_0 q2_6_0 q3_6_0 q4_6_0 q5_6_0 q6_6_0 ca0_0_6_0 ca0_1_6_0 fm_6_0 tj_6_0 hm_6_0; exfalso; omega
    | succ n ih_6_0 =>
      intro p6_0 p6_1 h6_0 gh_6_0 gx_6_0 q0_6_0 q1_6_0 q2_6_0 q3_6_0 q4_6_0 q5_6_0 q6_6_0 ca0_0_6_0 ca0_1_6_0 fm_6_0 tj_6_0 hm_6_0
      refine w_iload gz_73_6 rfl ?_
      refine w_aload_n gz_73_8 rfl ?_
      refine v_getI (j := 0) gz_73_9 rfl t0 rd_8 rfl (fun v1 ev1 pv1 qv1 => ?_)
      have zv1 := ev1.trans ca0_0_6_0
      refine w_icge (t := 101) gz_73_12 rfl (fun u2 => ?_) (fun u2 => ?_)
      ·
        refine w_aload_n gz_73_101 rfl ?_
        refine w_iload gz_73_102 rfl ?_
        refine v_putI (j := 0) gz_73_104 rfl t0 rd_8 rfl (by omega) (by omega) rfl (fun h3 fh3 => ?_)
        have gh3 : my_fr [(8, 0), (8, 1), (42, -1), (44, -1)] h h3 := my_fr.up gh_6_0 t0 fh3 rfl
        have gxh3 : my_fx x0 3 h h3 := my_fx.up gx_6_0 fh3 (by omega)
        refine w_aload_n gz_73_107 rfl ?_
        refine w_dup gz_73_108 rfl ?_
        refine v_getI (j := 1) gz_73_109 rfl t0 rd_8 rfl (fun v4 ev4 pv4 qv4 => ?_)
        have zv4 := ev4.trans ((my_up_fld fh3 (by decide)).trans ca0_1_6_0)
        refine w_iload_n gz_73_112 rfl ?_
        refine w_iconst gz_73_113 (by decide) ?_
        refine w_isub gz_73_114 ⟨by omega, by omega⟩ ?_
        refine w_iadd gz_73_115 ⟨by omega, by omega⟩ ?_
        have hi5 : 0 ≤ (v4 + (x3 - 1)) := by omega
        have hi6 : (v4 + (x3 - 1)) ≤ 8 := by omega
        refine v_putI (j := 1) gz_73_116 rfl t0 rd_8 rfl (by omega) (by omega) rfl (fun h7 fh7 => ?_)
        have gh7 : my_fr [(8, 0), (8, 1), (42, -1), (44, -1)] h h7 := my_fr.up gh3 t0 fh7 rfl
        have gxh7 : my_fx x0 3 h h7 := my_fx.up gxh3 fh7 (by omega)
        have ce8 : h7 x0 0 = p6_0 := ((my_up_fld fh7 (by decide)).trans (my_up_self fh3))
        have ce9 : h7 x0 1 = (v4 + (x3 - 1)) := (my_up_self fh7)
        have ga : ∀ j : Int, h7 (x0 + 1) j = h6_0 (x0 + 1) j := fun j => ((my_up_role fh7 (ix_8_1 t0) t0 rfl).trans ((my_up_role fh3 (ix_8_1 t0) t0 rfl).trans (rfl : h6_0 (x0 + 1) j = h6_0 (x0 + 1) j)))
        have gb : ∀ j : Int, h7 (x0 + 3) j = h6_0 (x0 + 3) j := fun j => ((my_up_role fh7 (ix_8_3 t0) t0 rfl).trans ((my_up_role fh3 (ix_8_3 t0) t0 rfl).trans (rfl : h6_0 (x0 + 3) j = h6_0 (x0 + 3) j)))
        exact w_vret gz_73_119 gm_73 (k0 h7 (gh7) (gxh7) (by first | (have q := fm_6_0.2.2.2; rw [show (p6_1).toNat = (h x0 0).toNat by omega] at q; rw [show (h7 x0 0).toNat = (p6_0).toNat by omega]; exact (zqL_cg (fun i _ => zqE_cg (by omega) (fun j _ _ => ga j))).trans q) | (have q := tj_6_0; rw [show p6_1 = h x0 0 by omega] at q; exact TjI_eq gb q) | assumption | omega) (by first | (have q := fm_6_0.2.2.2; rw [show (p6_1).toNat = (h x0 0).toNat by omega] at q; rw [show (h7 x0 0).toNat = (p6_0).toNat by omega]; exact (zqL_cg (fun i _ => zqE_cg (by omega) (fun j _ _ => ga j))).trans q) | (have q := tj_6_0; rw [show p6_1 = h x0 0 by omega] at q; exact TjI_eq gb q) | assumption | omega) (by first | (have q := fm_6_0.2.2.2; rw [show (p6_1).toNat = (h x0 0).toNat by omega] at q; rw [show (h7 x0 0).toNat = (p6_0).toNat by omega]; exact (zqL_cg (fun i _ => zqE_cg (by omega) (fun j _ _ => ga j))).trans q) | (have q := tj_6_0; rw [show p6_1 = h x0 0 by omega] at q; exact TjI_eq gb q) | assumption | omega) (by first | (have q := fm_6_0.2.2.2; rw [show (p6_1).toNat = (h x0 0).toNat by omega] at q; rw [show (h7 x0 0).toNat = (p6_0).toNat by omega]; exact (zqL_cg (fun i _ => zqE_cg (by omega) (fun j _ _ => ga j))).trans q) | (have q := tj_6_0; rw [show p6_1 = h x0 0 by omega] at q; exact TjI_eq gb q) | assumption | omega))
      ·
        refine w_aload_n gz_73_15 rfl ?_
        refine w_iload gz_73_16 rfl ?_
        refine w_iload gz_73_18 rfl ?_
        refine w_inv (k := 0) (as := [(0, x4), (0, p6_1)]) (r := []) (x := x0) (ls0 := [(2, x0), (0, p6_1), (0, x4)]) gz_73_20 gm_74 rfl t0 rd_8 rfl rfl rfl rfl rfl ?_
        refine w_aload_n gz_74_0 rfl ?_
        refine w_getX (v := (x0 + 1)) gz_74_1 t0 rd_8 rfl (by decide) rfl ?_
        refine w_iload_n gz_74_4 rfl ?_
        refine w_bipush gz_74_5 (by decide) ?_
        refine w_imul gz_74_7 ⟨by omega, by omega⟩ ?_
        refine w_iload_n gz_74_8 rfl ?_
        refine w_iadd gz_74_9 ⟨by omega, by omega⟩ ?_
        refine w_gldA gz_74_10 (ix_8_1 t0) rd_42 (by omega) (by omega) (fun v11 ev11 pv11 qv11 => ?_)
        refine w_iret gz_74_11 gm_74 ?_
        show wp l rho (d + 2) 73 23 [(2, x0), (2, x1), (0, x2), (0, x3), (0, x4), (0, p6_0), (0, p6_1), (9, 0)] [(0, v11)] h6_0 Q
        have ek : v11 = h6_0 (x0 + 1) (17 * p6_1 + x4) := by
          rw [show 17 * p6_1 + x4 = ((p6_1 * 17) + x4) by omega]
          omega
        have ee := FmI_ev (by omega) (by omega) (by omega) (by omega) fm_6_0 ek
        refine w_istore (ls' := [(2, x0), (2, x1), (0, x2), (0, x3), (0, x4), (0, p6_0), (0, p6_1), (0, v11)]) gz_73_23 gm_73 rfl rfl rfl ?_
        refine w_aload_n gz_73_25 rfl ?_
        refine w_iload_n gz_73_26 rfl ?_
        refine w_iload gz_73_27 rfl ?_
        refine w_inv (k := 0) (as := [(0, v11), (0, x2)]) (r := []) (x := x1) (ls0 := [(2, x1), (0, x2), (0, v11)]) gz_73_29 gm_15 rfl t1 rd_6 rfl rfl rfl rfl rfl ?_
        refine w_iload_n gz_15_0 rfl ?_
        refine w_iflt (t := 31) gz_15_1 rfl (fun u12 => ?_) (fun u12 => ?_)
        ·
          refine w_iconst gz_15_31 (by decide) ?_
          refine w_bret gz_15_32 gm_15 (by omega) (by omega) ?_
          show wp l rho (d + 2) 73 32 [(2, x0), (2, x1), (0, x2), (0, x3), (0, x4), (0, p6_0), (0, p6_1), (0, v11)] [(0, 0)] h6_0 Q
          refine w_ifeq (t := 95) gz_73_32 rfl (fun u13 => ?_) (fun u13 => by exfalso; omega)
          refine w_iinc (ls' := [(2, x0), (2, x1), (0, x2), (0, x3), (0, x4), (0, p6_0), (0, (p6_1 + 1)), (0, v11)]) gz_73_95 rfl gm_73 rfl rfl rfl ⟨by omega, by omega⟩ ?_
          refine w_goto (t := 6) gz_73_98 rfl ?_
          refine w_weak (ls' := [(2, x0), (2, x1), (0, x2), (0, x3), (0, x4), (0, p6_0), (0, (p6_1 + 1)), (9, 0)]) (wk_e (wk_e (wk_e (wk_e (wk_e (wk_e (wk_e (wk_9 wk_n)))))))) ?_
          exact ih_6_0 (p6_0) ((p6_1 + 1)) h6_0 (gh_6_0) (gx_6_0) (by omega) (by omega) (by omega) (by omega) (by omega) (by omega) (by omega) (ev1.symm.trans (by omega)) (ca0_1_6_0.trans (by omega)) (by first | exact FmI_0 (fun _ => rfl) | exact JoinI_n (by omega) (by omega) (by omega) fm_6_0 ek (by omega) (by first | exact (fun z => by have y := z.1; omega) | exact (fun z => by have y := z.2.1; omega) | exact (fun z => z.2.2 (by rw [show 80 * x2 + 4 * v11 = (((x2 * 20) + v11) * 4) by omega, ← my_fr.at (j := (((x2 * 20) + v11) * 4)) gh_6_0 (ix_6_1 t1) rfl]; omega))) | exact JoinI_Y (by omega) (by omega) (by omega) (by omega) (by omega) (by omega) fm_6_0 ek hs mv cc eS (by omega) (by omega) rfl no_such_saying | assumption | omega) (by first | exact TjI_0 | exact TjI_n (by omega) tj_6_0 ee (by first | exact (fun z => by have y := z.1; omega) | exact (fun z => by have y := z.2.1; omega) | exact (fun z => z.2.2 (by rw [show 80 * x2 + 4 * v11 = (((x2 * 20) + v11) * 4) by omega, ← my_fr.at (j := (((x2 * 20) + v11) * 4)) gh_6_0 (ix_6_1 t1) rfl]; omega))) | exact TjI_y (by omega) (by omega) (by omega) tj_6_0 ee hs tgE eg (by assumption) (by assumption) (by omega) (by assumption) no_such_saying | assumption | omega) (by omega)
        ·
          refine w_iload_n gz_15_4 rfl ?_
          refine w_bipush gz_15_5 (by decide) ?_
          refine w_icge (t := 31) gz_15_7 rfl (fun u14 => ?_) (fun u14 => ?_)
          ·
            refine w_iconst gz_15_31 (by decide) ?_
            refine w_bret gz_15_32 gm_15 (by omega) (by omega) ?_
            show wp l rho (d + 2) 73 32 [(2, x0), (2, x1), (0, x2), (0, x3), (0, x4), (0, p6_0), (0, p6_1), (0, v11)] [(0, 0)] h6_0 Q
            refine w_ifeq (t := 95) gz_73_32 rfl (fun u15 => ?_) (fun u15 => by exfalso; omega)
            refine w_iinc (ls' := [(2, x0), (2, x1), (0, x2), (0, x3), (0, x4), (0, p6_0), (0, (p6_1 + 1)), (0, v11)]) gz_73_95 rfl gm_73 rfl rfl rfl ⟨by omega, by omega⟩ ?_
            refine w_goto (t := 6) gz_73_98 rfl ?_
            refine w_weak (ls' := [(2, x0), (2, x1), (0, x2), (0, x3), (0, x4), (0, p6_0), (0, (p6_1 + 1)), (9, 0)]) (wk_e (wk_e (wk_e (wk_e (wk_e (wk_e (wk_e (wk_9 wk_n)))))))) ?_
            exact ih_6_0 (p6_0) ((p6_1 + 1)) h6_0 (gh_6_0) (gx_6_0) (by omega) (by omega) (by omega) (by omega) (by omega) (by omega) (by omega) (ev1.symm.trans (by omega)) (ca0_1_6_0.trans (by omega)) (by first | exact FmI_0 (fun _ => rfl) | exact JoinI_n (by omega) (by omega) (by omega) fm_6_0 ek (by omega) (by first | exact (fun z => by have y := z.1; omega) | exact (fun z => by have y := z.2.1; omega) | exact (fun z => z.2.2 (by rw [show 80 * x2 + 4 * v11 = (((x2 * 20) + v11) * 4) by omega, ← my_fr.at (j := (((x2 * 20) + v11) * 4)) gh_6_0 (ix_6_1 t1) rfl]; omega))) | exact JoinI_Y (by omega) (by omega) (by omega) (by omega) (by omega) (by omega) fm_6_0 ek hs mv cc eS (by omega) (by omega) rfl no_such_saying | assumption | omega) (by first | exact TjI_0 | exact TjI_n (by omega) tj_6_0 ee (by first | exact (fun z => by have y := z.1; omega) | exact (fun z => by have y := z.2.1; omega) | exact (fun z => z.2.2 (by rw [show 80 * x2 + 4 * v11 = (((x2 * 20) + v11) * 4) by omega, ← my_fr.at (j := (((x2 * 20) + v11) * 4)) gh_6_0 (ix_6_1 t1) rfl]; omega))) | exact TjI_y (by omega) (by omega) (by omega) tj_6_0 ee hs tgE eg (by assumption) (by assumption) (by omega) (by assumption) no_such_saying | assumption | omega) (by omega)
          ·
            refine w_aload_n gz_15_10 rfl ?_
            refine w_getX (v := (x1 + 1)) gz_15_11 t1 rd_6 rfl (by decide) rfl ?_
            refine w_iload_n gz_15_14 rfl ?_
            refine w_bipush gz_15_15 (by decide) ?_
            refine w_imul gz_15_17 ⟨by omega, by omega⟩ ?_
            refine w_iload_n gz_15_18 rfl ?_
            refine w_iadd gz_15_19 ⟨by omega, by omega⟩ ?_
            refine w_iconst gz_15_20 (by decide) ?_
            refine w_imul gz_15_21 ⟨by omega, by omega⟩ ?_
            refine w_iald gz_15_22 (ix_6_1 t1) rd_30 (by omega) (by omega) (fun v17 ev17 pv17 qv17 => ?_)
            refine w_iconst gz_15_23 (by decide) ?_
            refine w_iceq (t := 31) gz_15_24 rfl (fun u18 => ?_) (fun u18 => ?_)
            ·
              refine w_iconst gz_15_31 (by decide) ?_
              refine w_bret gz_15_32 gm_15 (by omega) (by omega) ?_
              show wp l rho (d + 2) 73 32 [(2, x0), (2, x1), (0, x2), (0, x3), (0, x4), (0, p6_0), (0, p6_1), (0, v11)] [(0, 0)] h6_0 Q
              refine w_ifeq (t := 95) gz_73_32 rfl (fun u19 => ?_) (fun u19 => by exfalso; omega)
              refine w_iinc (ls' := [(2, x0), (2, x1), (0, x2), (0, x3), (0, x4), (0, p6_0), (0, (p6_1 + 1)), (0, v11)]) gz_73_95 rfl gm_73 rfl rfl rfl ⟨by omega, by omega⟩ ?_
              refine w_goto (t := 6) gz_73_98 rfl ?_
              refine w_weak (ls' := [(2, x0), (2, x1), (0, x2), (0, x3), (0, x4), (0, p6_0), (0, (p6_1 + 1)), (9, 0)]) (wk_e (wk_e (wk_e (wk_e (wk_e (wk_e (wk_e (wk_9 wk_n)))))))) ?_
              exact ih_6_0 (p6_0) ((p6_1 + 1)) h6_0 (gh_6_0) (gx_6_0) (by omega) (by omega) (by omega) (by omega) (by omega) (by omega) (by omega) (ev1.symm.trans (by omega)) (ca0_1_6_0.trans (by omega)) (by first | exact FmI_0 (fun _ => rfl) | exact JoinI_n (by omega) (by omega) (by omega) fm_6_0 ek (by omega) (by first | exact (fun z => by have y := z.1; omega) | exact (fun z => by have y := z.2.1; omega) | exact (fun z => z.2.2 (by rw [show 80 * x2 + 4 * v11 = (((x2 * 20) + v11) * 4) by omega, ← my_fr.at (j := (((x2 * 20) + v11) * 4)) gh_6_0 (ix_6_1 t1) rfl]; omega))) | exact JoinI_Y (by omega) (by omega) (by omega) (by omega) (by omega) (by omega) fm_6_0 ek hs mv cc eS (by omega) (by omega) rfl no_such_saying | assumption | omega) (by first | exact TjI_0 | exact TjI_n (by omega) tj_6_0 ee (by first | exact (fun z => by have y := z.1; omega) | exact (fun z => by have y := z.2.1; omega) | exact (fun z => z.2.2 (by rw [show 80 * x2 + 4 * v11 = (((x2 * 20) + v11) * 4) by omega, ← my_fr.at (j := (((x2 * 20) + v11) * 4)) gh_6_0 (ix_6_1 t1) rfl]; omega))) | exact TjI_y (by omega) (by omega) (by omega) tj_6_0 ee hs tgE eg (by assumption) (by assumption) (by omega) (by assumption) no_such_saying | assumption | omega) (by omega)
            ·
              refine w_iconst gz_15_27 (by decide) ?_
              refine w_goto (t := 32) gz_15_28 rfl ?_
              refine w_bret gz_15_32 gm_15 (by omega) (by omega) ?_
              show wp l rho (d + 2) 73 32 [(2, x0), (2, x1), (0, x2), (0, x3), (0, x4), (0, p6_0), (0, p6_1), (0, v11)] [(0, 1)] h6_0 Q
              refine w_ifeq (t := 95) gz_73_32 rfl (fun u20 => by exfalso; omega) (fun u20 => ?_)
              refine w_aload_n gz_73_35 rfl ?_
              refine w_iload gz_73_36 rfl ?_
              refine w_iload gz_73_38 rfl ?_
              refine w_inv (k := 0) (as := [(0, p6_0), (0, p6_1)]) (r := []) (x := x0) (ls0 := [(2, x0), (0, p6_1), (0, p6_0)]) gz_73_40 gm_72 rfl t0 rd_8 rfl rfl rfl rfl rfl ?_
              refine w_iload_n gz_72_0 rfl ?_
              refine w_iload_n gz_72_1 rfl ?_
              refine w_iceq (t := 26) gz_72_2 rfl (fun u21 => ?_) (fun u21 => ?_)
              ·
                refine w_vret gz_72_26 gm_72 ?_
                show wp l rho (d + 2) 73 43 [(2, x0), (2, x1), (0, x2), (0, x3), (0, x4), (0, p6_0), (0, p6_1), (0, v11)] [] h6_0 Q
                have hs : zqHas (h (x1 + 1)) x2 v11 := ⟨by omega, by omega, by
                  rw [show 80 * x2 + 4 * v11 = (((x2 * 20) + v11) * 4) by omega, ← my_fr.at (j := (((x2 * 20) + v11) * 4)) gh_6_0 (ix_6_1 t1) rfl]
                  omega⟩
                have mv : Mv h6_0 h6_0 x0 p6_1 p6_0 := by first | exact Mv_r (by omega) | exact Mv_c no_such_copy
                have eS : ∀ j : Int, h6_0 (x1 + 1) j = h (x1 + 1) j := fun j => my_fr.at gh_6_0 (ix_6_1 t1) rfl
                refine w_aload_n gz_73_43 rfl ?_
                refine w_aload_n gz_73_44 rfl ?_
                refine w_iload_n gz_73_45 rfl ?_
                refine w_iload gz_73_46 rfl ?_
                refine w_inS (k := 0) (as := [(0, v11), (0, x2)]) (r := [(2, x1), (2, x0)]) (ls0 := [(0, x2), (0, v11)]) gz_73_48 gm_17 rfl rfl rfl rfl rfl rfl ?_
                refine w_iload_n gz_17_0 rfl ?_
                refine w_bipush gz_17_1 (by decide) ?_
                refine w_imul gz_17_3 ⟨by omega, by omega⟩ ?_
                refine w_iload_n gz_17_4 rfl ?_
                refine w_iadd gz_17_5 ⟨by omega, by omega⟩ ?_
                refine w_iconst gz_17_6 (by decide) ?_
                refine w_imul gz_17_7 ⟨by omega, by omega⟩ ?_
                refine w_iret gz_17_8 gm_17 ?_
                show wp l rho (d + 2) 73 51 [(2, x0), (2, x1), (0, x2), (0, x3), (0, x4), (0, p6_0), (0, p6_1), (0, v11)] [(0, (((x2 * 20) + v11) * 4)), (2, x1), (2, x0)] h6_0 Q
                refine w_iconst gz_73_51 (by decide) ?_
                refine w_iadd gz_73_52 ⟨by omega, by omega⟩ ?_
                refine w_iload gz_73_53 rfl ?_
                refine w_bipush gz_73_55 (by decide) ?_
                refine w_imul gz_73_57 ⟨by omega, by omega⟩ ?_
                refine w_aload_n gz_73_58 rfl ?_
                refine v_getI (j := 1) gz_73_59 rfl t0 rd_8 rfl (fun v22 ev22 pv22 qv22 => ?_)
                have zv22 := ev22.trans ca0_1_6_0
                refine w_iadd gz_73_62 ⟨by omega, by omega⟩ ?_
                refine w_iload_n gz_73_63 rfl ?_
                refine w_iconst gz_73_64 (by decide) ?_
                refine w_isub gz_73_65 ⟨by omega, by omega⟩ ?_
                have hi23 : 0 ≤ ((p6_0 * 17) + v22) := by omega
                have hi24 : ((p6_0 * 17) + v22) ≤ 186 := by omega
                refine w_inv (k := 1) (as := [(0, (x3 - 1)), (0, ((p6_0 * 17) + v22)), (0, ((((x2 * 20) + v11) * 4) + 1)), (2, x1)]) (r := []) (x := x0) (ls0 := [(2, x0), (2, x1), (0, ((((x2 * 20) + v11) * 4) + 1)), (0, ((p6_0 * 17) + v22)), (0, (x3 - 1)), (9, 0)]) gz_73_66 gm_70 rfl t0 rd_8 rfl rfl rfl rfl rfl (c_View_copyCells5 (d := (d + 1)) (x0 := x0) (x1 := x1) (x2 := ((((x2 * 20) + v11) * 4) + 1)) (x3 := ((p6_0 * 17) + v22)) (x4 := (x3 - 1)) t0 t1 (by omega) (by omega) (by omega) (by omega) (by omega) (by omega) (by omega) (by omega) (by omega) (by omega) (by first | assumption | exact no_such_saying | exact Fp_told (by omega) (by omega) | omega | (subst_vars; omega) | omega) (by first | assumption | exact no_such_saying | exact Fp_told (by omega) (by omega) | omega | (subst_vars; omega) | omega) (fun h25 frh25 fxh25 xp26 => ?_))
                have gh25 : my_fr [(8, 0), (8, 1), (42, -1), (44, -1)] h h25 := my_fr.tr gh_6_0 (frh25.mo rfl)
                have gxh25 : my_fx x0 3 h h25 := my_fx.tr gx_6_0 fxh25
                show wp l rho (d + 2) 73 69 [(2, x0), (2, x1), (0, x2), (0, x3), (0, x4), (0, p6_0), (0, p6_1), (0, v11)] [] h25 Q
                have cc := xp26
                have eg : ∀ k : Int, h25 (x0 + 3) k = h6_0 (x0 + 3) k := fun k => (my_fr.at frh25 (ix_8_3 t0) rfl).trans (by first | exact my_cp_ne no_such_copy (by omega) | rfl)
                refine w_aload_n gz_73_69 rfl ?_
                refine w_getX (v := (x0 + 3)) gz_73_70 t0 rd_8 rfl (by decide) rfl ?_
                refine w_aload_n gz_73_73 rfl ?_
                refine w_iload gz_73_74 rfl ?_
                refine w_inv (k := 0) (as := [(0, p6_0)]) (r := [(2, (x0 + 3))]) (x := x0) (ls0 := [(2, x0), (0, p6_0)]) gz_73_76 gm_75 rfl t0 rd_8 rfl rfl rfl rfl rfl ?_
                refine w_aload_n gz_75_0 rfl ?_
                refine w_getX (v := (x0 + 1)) gz_75_1 t0 rd_8 rfl (by decide) rfl ?_
                refine w_iload_n gz_75_4 rfl ?_
                refine w_bipush gz_75_5 (by decide) ?_
                refine w_imul gz_75_7 ⟨by omega, by omega⟩ ?_
                refine w_bipush gz_75_8 (by decide) ?_
                refine w_iadd gz_75_10 ⟨by omega, by omega⟩ ?_
                refine w_gldT gz_75_11 (ix_8_1 t0) rd_42 (by omega) (by omega) (by omega) (fun v29 ev29 pv29 qv29 => ?_)
                refine w_iret gz_75_12 gm_75 ?_
                show wp l rho (d + 2) 73 79 [(2, x0), (2, x1), (0, x2), (0, x3), (0, x4), (0, p6_0), (0, p6_1), (0, v11)] [(0, v29), (2, (x0 + 3))] h25 Q
                have tg : v29 = h25 (x0 + 1) ((p6_0 * 17) + 16) := by omega
                have tgE := FmI_tg (by omega) fm_6_0 mv (cc.2 ((p6_0 * 17) + 16) (by omega) (by omega)) (by omega) tg
                refine w_dup2 gz_73_79 rfl rfl ?_
                refine w_lald gz_73_80 (ix_8_3 t0) rd_44 (by omega) (by omega) (fun v30 ev30 pv30 => ?_)
                refine w_lconst gz_73_81 ?_
                refine w_iload_n gz_73_82 rfl ?_
                refine w_bipush gz_73_83 (by decide) ?_
                refine w_imul gz_73_85 ⟨by omega, by omega⟩ ?_
                refine w_iload gz_73_86 rfl ?_
                refine w_iadd gz_73_88 ⟨by omega, by omega⟩ ?_
                refine w_lshlX gz_73_89 (fun v31 ev31 pv31 => ?_)
                refine w_lorX gz_73_90 (fun v32 ev32 pv32 => ?_)
                refine w_last gz_73_91 (ix_8_3 t0) rd_44 (by omega) (by omega) (fun h33 fh33 => ?_)
                have gh33 : my_fr [(8, 0), (8, 1), (42, -1), (44, -1)] h h33 := my_fr.up gh25 (ix_8_3 t0) fh33 rfl
                have gxh33 : my_fx x0 3 h h33 := my_fx.up gxh25 fh33 (by omega)
                refine w_iinc (ls' := [(2, x0), (2, x1), (0, x2), (0, x3), (0, x4), (0, (p6_0 + 1)), (0, p6_1), (0, v11)]) gz_73_92 rfl gm_73 rfl rfl rfl ⟨by omega, by omega⟩ ?_
                refine w_iinc (ls' := [(2, x0), (2, x1), (0, x2), (0, x3), (0, x4), (0, (p6_0 + 1)), (0, (p6_1 + 1)), (0, v11)]) gz_73_95 rfl gm_73 rfl rfl rfl ⟨by omega, by omega⟩ ?_
                refine w_goto (t := 6) gz_73_98 rfl ?_
                refine w_weak (ls' := [(2, x0), (2, x1), (0, x2), (0, x3), (0, x4), (0, (p6_0 + 1)), (0, (p6_1 + 1)), (9, 0)]) (wk_e (wk_e (wk_e (wk_e (wk_e (wk_e (wk_e (wk_9 wk_n)))))))) ?_
                exact ih_6_0 ((p6_0 + 1)) ((p6_1 + 1)) h33 (gh33) (gxh33) (by omega) (by omega) (by omega) (by omega) (by omega) (by omega) (by omega) (((my_up_role fh33 t0 (ix_8_3 t0) rfl).trans ((my_fr.at frh25 t0 rfl).trans ev1.symm)).trans (by omega)) (((my_up_role fh33 t0 (ix_8_3 t0) rfl).trans ((my_fr.at frh25 t0 rfl).trans ev22.symm)).trans (by omega)) (by first | exact FmI_0 (fun _ => rfl) | exact JoinI_n (by omega) (by omega) (by omega) fm_6_0 ek (by omega) (by first | exact (fun z => by have y := z.1; omega) | exact (fun z => by have y := z.2.1; omega) | exact (fun z => z.2.2 (by rw [show 80 * x2 + 4 * v11 = (((x2 * 20) + v11) * 4) by omega, ← my_fr.at (j := (((x2 * 20) + v11) * 4)) gh_6_0 (ix_6_1 t1) rfl]; omega))) | exact JoinI_Y (by omega) (by omega) (by omega) (by omega) (by omega) (by omega) fm_6_0 ek hs mv cc eS (by omega) (by omega) rfl fh33 | assumption | omega) (by first | exact TjI_0 | exact TjI_n (by omega) tj_6_0 ee (by first | exact (fun z => by have y := z.1; omega) | exact (fun z => by have y := z.2.1; omega) | exact (fun z => z.2.2 (by rw [show 80 * x2 + 4 * v11 = (((x2 * 20) + v11) * 4) by omega, ← my_fr.at (j := (((x2 * 20) + v11) * 4)) gh_6_0 (ix_6_1 t1) rfl]; omega))) | exact TjI_y (by omega) (by omega) (by omega) tj_6_0 ee hs tgE eg (by assumption) (by assumption) (by omega) (by assumption) fh33 | assumption | omega) (by omega)
              ·
                refine w_aload_n gz_72_5 rfl ?_
                refine w_getX (v := (x0 + 1)) gz_72_6 t0 rd_8 rfl (by decide) rfl ?_
                refine w_iload_n gz_72_9 rfl ?_
                refine w_bipush gz_72_10 (by decide) ?_
                refine w_imul gz_72_12 ⟨by omega, by omega⟩ ?_
                refine w_aload_n gz_72_13 rfl ?_
                refine w_getX (v := (x0 + 1)) gz_72_14 t0 rd_8 rfl (by decide) rfl ?_
                refine w_iload_n gz_72_17 rfl ?_
                refine w_bipush gz_72_18 (by decide) ?_
                refine w_imul gz_72_20 ⟨by omega, by omega⟩ ?_
                refine w_bipush gz_72_21 (by decide) ?_
                refine w_cpG gz_72_23 (ix_8_1 t0) rd_42 (ix_8_1 t0) rd_42 (by omega) (by omega) (by omega) (by omega) (by omega) rfl (by omega) (fun h36 fh36 => ?_)
                have gh36 : my_fr [(8, 0), (8, 1), (42, -1), (44, -1)] h h36 := my_fr.cp gh_6_0 (ix_8_1 t0) fh36 rfl
                have gxh36 : my_fx x0 3 h h36 := my_fx.cp gx_6_0 fh36 (by omega)
                refine w_vret gz_72_26 gm_72 ?_
                show wp l rho (d + 2) 73 43 [(2, x0), (2, x1), (0, x2), (0, x3), (0, x4), (0, p6_0), (0, p6_1), (0, v11)] [] h36 Q
                have hs : zqHas (h (x1 + 1)) x2 v11 := ⟨by omega, by omega, by
                  rw [show 80 * x2 + 4 * v11 = (((x2 * 20) + v11) * 4) by omega, ← my_fr.at (j := (((x2 * 20) + v11) * 4)) gh_6_0 (ix_6_1 t1) rfl]
                  omega⟩
                have mv : Mv h6_0 h36 x0 p6_1 p6_0 := by first | exact Mv_r (by omega) | exact Mv_c fh36
                have eS : ∀ j : Int, h36 (x1 + 1) j = h (x1 + 1) j := fun j => my_fr.at gh36 (ix_6_1 t1) rfl
                refine w_aload_n gz_73_43 rfl ?_
                refine w_aload_n gz_73_44 rfl ?_
                refine w_iload_n gz_73_45 rfl ?_
                refine w_iload gz_73_46 rfl ?_
                refine w_inS (k := 0) (as := [(0, v11), (0, x2)]) (r := [(2, x1), (2, x0)]) (ls0 := [(0, x2), (0, v11)]) gz_73_48 gm_17 rfl rfl rfl rfl rfl rfl ?_
                refine w_iload_n gz_17_0 rfl ?_
                refine w_bipush gz_17_1 (by decide) ?_
                refine w_imul gz_17_3 ⟨by omega, by omega⟩ ?_
                refine w_iload_n gz_17_4 rfl ?_
                refine w_iadd gz_17_5 ⟨by omega, by omega⟩ ?_
                refine w_iconst gz_17_6 (by decide) ?_
                refine w_imul gz_17_7 ⟨by omega, by omega⟩ ?_
                refine w_iret gz_17_8 gm_17 ?_
                show wp l rho (d + 2) 73 51 [(2, x0), (2, x1), (0, x2), (0, x3), (0, x4), (0, p6_0), (0, p6_1), (0, v11)] [(0, (((x2 * 20) + v11) * 4)), (2, x1), (2, x0)] h36 Q
                refine w_iconst gz_73_51 (by decide) ?_
                refine w_iadd gz_73_52 ⟨by omega, by omega⟩ ?_
                refine w_iload gz_73_53 rfl ?_
                refine w_bipush gz_73_55 (by decide) ?_
                refine w_imul gz_73_57 ⟨by omega, by omega⟩ ?_
                refine w_aload_n gz_73_58 rfl ?_
                refine v_getI (j := 1) gz_73_59 rfl t0 rd_8 rfl (fun v37 ev37 pv37 qv37 => ?_)
                have zv37 := ev37.trans ((my_cp_role fh36 t0 (ix_8_1 t0) rfl).trans ca0_1_6_0)
                refine w_iadd gz_73_62 ⟨by omega, by omega⟩ ?_
                refine w_iload_n gz_73_63 rfl ?_
                refine w_iconst gz_73_64 (by decide) ?_
                refine w_isub gz_73_65 ⟨by omega, by omega⟩ ?_
                have hi38 : 0 ≤ ((p6_0 * 17) + v37) := by omega
                have hi39 : ((p6_0 * 17) + v37) ≤ 186 := by omega
                refine w_inv (k := 1) (as := [(0, (x3 - 1)), (0, ((p6_0 * 17) + v37)), (0, ((((x2 * 20) + v11) * 4) + 1)), (2, x1)]) (r := []) (x := x0) (ls0 := [(2, x0), (2, x1), (0, ((((x2 * 20) + v11) * 4) + 1)), (0, ((p6_0 * 17) + v37)), (0, (x3 - 1)), (9, 0)]) gz_73_66 gm_70 rfl t0 rd_8 rfl rfl rfl rfl rfl (c_View_copyCells5 (d := (d + 1)) (x0 := x0) (x1 := x1) (x2 := ((((x2 * 20) + v11) * 4) + 1)) (x3 := ((p6_0 * 17) + v37)) (x4 := (x3 - 1)) t0 t1 (by omega) (by omega) (by omega) (by omega) (by omega) (by omega) (by omega) (by omega) (by omega) (by omega) (by first | assumption | exact no_such_saying | exact Fp_told (by omega) (by omega) | omega | (subst_vars; omega) | omega) (by first | assumption | exact no_such_saying | exact Fp_told (by omega) (by omega) | omega | (subst_vars; omega) | omega) (fun h40 frh40 fxh40 xp41 => ?_))
                have gh40 : my_fr [(8, 0), (8, 1), (42, -1), (44, -1)] h h40 := my_fr.tr gh36 (frh40.mo rfl)
                have gxh40 : my_fx x0 3 h h40 := my_fx.tr gxh36 fxh40
                show wp l rho (d + 2) 73 69 [(2, x0), (2, x1), (0, x2), (0, x3), (0, x4), (0, p6_0), (0, p6_1), (0, v11)] [] h40 Q
                have cc := xp41
                have eg : ∀ k : Int, h40 (x0 + 3) k = h6_0 (x0 + 3) k := fun k => (my_fr.at frh40 (ix_8_3 t0) rfl).trans (by first | exact my_cp_ne fh36 (by omega) | rfl)
                refine w_aload_n gz_73_69 rfl ?_
                refine w_getX (v := (x0 + 3)) gz_73_70 t0 rd_8 rfl (by decide) rfl ?_
                refine w_aload_n gz_73_73 rfl ?_
                refine w_iload gz_73_74 rfl ?_
                refine w_inv (k := 0) (as := [(0, p6_0)]) (r := [(2, (x0 + 3))]) (x := x0) (ls0 := [(2, x0), (0, p6_0)]) gz_73_76 gm_75 rfl t0 rd_8 rfl rfl rfl rfl rfl ?_
                refine w_aload_n gz_75_0 rfl ?_
                refine w_getX (v := (x0 + 1)) gz_75_1 t0 rd_8 rfl (by decide) rfl ?_
                refine w_iload_n gz_75_4 rfl ?_
                refine w_bipush gz_75_5 (by decide) ?_
                refine w_imul gz_75_7 ⟨by omega, by omega⟩ ?_
                refine w_bipush gz_75_8 (by decide) ?_
                refine w_iadd gz_75_10 ⟨by omega, by omega⟩ ?_
                refine w_gldT gz_75_11 (ix_8_1 t0) rd_42 (by omega) (by omega) (by omega) (fun v44 ev44 pv44 qv44 => ?_)
                refine w_iret gz_75_12 gm_75 ?_
                show wp l rho (d + 2) 73 79 [(2, x0), (2, x1), (0, x2), (0, x3), (0, x4), (0, p6_0), (0, p6_1), (0, v11)] [(0, v44), (2, (x0 + 3))] h40 Q
                have tg : v44 = h40 (x0 + 1) ((p6_0 * 17) + 16) := by omega
                have tgE := FmI_tg (by omega) fm_6_0 mv (cc.2 ((p6_0 * 17) + 16) (by omega) (by omega)) (by omega) tg
                refine w_dup2 gz_73_79 rfl rfl ?_
                refine w_lald gz_73_80 (ix_8_3 t0) rd_44 (by omega) (by omega) (fun v45 ev45 pv45 => ?_)
                refine w_lconst gz_73_81 ?_
                refine w_iload_n gz_73_82 rfl ?_
                refine w_bipush gz_73_83 (by decide) ?_
                refine w_imul gz_73_85 ⟨by omega, by omega⟩ ?_
                refine w_iload gz_73_86 rfl ?_
                refine w_iadd gz_73_88 ⟨by omega, by omega⟩ ?_
                refine w_lshlX gz_73_89 (fun v46 ev46 pv46 => ?_)
                refine w_lorX gz_73_90 (fun v47 ev47 pv47 => ?_)
                refine w_last gz_73_91 (ix_8_3 t0) rd_44 (by omega) (by omega) (fun h48 fh48 => ?_)
                have gh48 : my_fr [(8, 0), (8, 1), (42, -1), (44, -1)] h h48 := my_fr.up gh40 (ix_8_3 t0) fh48 rfl
                have gxh48 : my_fx x0 3 h h48 := my_fx.up gxh40 fh48 (by omega)
                refine w_iinc (ls' := [(2, x0), (2, x1), (0, x2), (0, x3), (0, x4), (0, (p6_0 + 1)), (0, p6_1), (0, v11)]) gz_73_92 rfl gm_73 rfl rfl rfl ⟨by omega, by omega⟩ ?_
                refine w_iinc (ls' := [(2, x0), (2, x1), (0, x2), (0, x3), (0, x4), (0, (p6_0 + 1)), (0, (p6_1 + 1)), (0, v11)]) gz_73_95 rfl gm_73 rfl rfl rfl ⟨by omega, by omega⟩ ?_
                refine w_goto (t := 6) gz_73_98 rfl ?_
                refine w_weak (ls' := [(2, x0), (2, x1), (0, x2), (0, x3), (0, x4), (0, (p6_0 + 1)), (0, (p6_1 + 1)), (9, 0)]) (wk_e (wk_e (wk_e (wk_e (wk_e (wk_e (wk_e (wk_9 wk_n)))))))) ?_
                exact ih_6_0 ((p6_0 + 1)) ((p6_1 + 1)) h48 (gh48) (gxh48) (by omega) (by omega) (by omega) (by omega) (by omega) (by omega) (by omega) (((my_up_role fh48 t0 (ix_8_3 t0) rfl).trans ((my_fr.at frh40 t0 rfl).trans ((my_cp_role fh36 t0 (ix_8_1 t0) rfl).trans ev1.symm))).trans (by omega)) (((my_up_role fh48 t0 (ix_8_3 t0) rfl).trans ((my_fr.at frh40 t0 rfl).trans ev37.symm)).trans (by omega)) (by first | exact FmI_0 (fun _ => rfl) | exact JoinI_n (by omega) (by omega) (by omega) fm_6_0 ek (by omega) (by first | exact (fun z => by have y := z.1; omega) | exact (fun z => by have y := z.2.1; omega) | exact (fun z => z.2.2 (by rw [show 80 * x2 + 4 * v11 = (((x2 * 20) + v11) * 4) by omega, ← my_fr.at (j := (((x2 * 20) + v11) * 4)) gh_6_0 (ix_6_1 t1) rfl]; omega))) | exact JoinI_Y (by omega) (by omega) (by omega) (by omega) (by omega) (by omega) fm_6_0 ek hs mv cc eS (by omega) (by omega) rfl fh48 | assumption | omega) (by first | exact TjI_0 | exact TjI_n (by omega) tj_6_0 ee (by first | exact (fun z => by have y := z.1; omega) | exact (fun z => by have y := z.2.1; omega) | exact (fun z => z.2.2 (by rw [show 80 * x2 + 4 * v11 = (((x2 * 20) + v11) * 4) by omega, ← my_fr.at (j := (((x2 * 20) + v11) * 4)) gh_6_0 (ix_6_1 t1) rfl]; omega))) | exact TjI_y (by omega) (by omega) (by omega) tj_6_0 ee hs tgE eg (by assumption) (by assumption) (by omega) (by assumption) fh48 | assumption | omega) (by omega)
  refine w_iconst gz_73_0 (by decide) ?_
  refine w_istore (ls' := [(2, x0), (2, x1), (0, x2), (0, x3), (0, x4), (0, 0), (9, 0), (9, 0)]) gz_73_1 gm_73 rfl rfl rfl ?_
  refine w_iconst gz_73_3 (by decide) ?_
  refine w_istore (ls' := [(2, x0), (2, x1), (0, x2), (0, x3), (0, x4), (0, 0), (0, 0), (9, 0)]) gz_73_4 gm_73 rfl rfl rfl ?_
  exact J6_0 12 (0) (0) h (my_fr.rf) (my_fx.rf) (by omega) (by omega) (by omega) (by omega) (by omega) (by omega) (by omega) (eka0_0.symm.trans (by omega)) (eka0_1.symm.trans (by omega)) (by first | exact FmI_0 (fun _ => rfl) | exact JoinI_n (by omega) (by omega) (by omega) fm_6_0 ek (by omega) (by first | exact (fun z => by have y := z.1; omega) | exact (fun z => by have y := z.2.1; omega) | exact (fun z => z.2.2 (by rw [show 80 * x2 + 4 * 0 = (((x2 * 20) + 0) * 4) by omega, ← my_fr.at (j := (((x2 * 20) + 0) * 4)) gh_6_0 (ix_6_1 t1) rfl]; omega))) | exact JoinI_Y (by omega) (by omega) (by omega) (by omega) (by omega) (by omega) fm_6_0 ek hs mv cc eS (by omega) (by omega) rfl no_such_saying | assumption | omega) (by first | exact TjI_0 | exact TjI_n (by omega) tj_6_0 ee (by first | exact (fun z => by have y := z.1; omega) | exact (fun z => by have y := z.2.1; omega) | exact (fun z => z.2.2 (by rw [show 80 * x2 + 4 * 0 = (((x2 * 20) + 0) * 4) by omega, ← my_fr.at (j := (((x2 * 20) + 0) * 4)) gh_6_0 (ix_6_1 t1) rfl]; omega))) | exact TjI_y (by omega) (by omega) (by omega) tj_6_0 ee hs tgE eg (by assumption) (by assumption) (by omega) (by assumption) no_such_saying | assumption | omega) (by omega)
theorem c_View_sum5 {l : Launch} {rho : Nat → Int32} {d : Nat} {h : my_H} {Q : my_H → my_V → Prop} {x0 x1 x2 : Int} (t0 : my_is 8 x0) (a1 : 0 ≤ x1) (b1 : x1 ≤ 7) (m1_0 : 0 ≤ x1 % 17) (m1_1 : x1 % 17 ≤ 7) (a2 : 0 ≤ x2) (b2 : x2 ≤ 7) (m2_0 : 0 ≤ x2 % 17) (m2_1 : x2 % 17 ≤ 7) (ha : x1 < h x0 1) (hc : x2 < h x0 1) (hb : ∀ i : Nat, (i : Int) < h x0 0 → zqBe (zqE h x0 (h x0 1) i).2) (k0 : ∀ (h' : my_H), my_fr [(8, 0), (8, 1), (42, -1)] h h' → my_fx x0 3 h h' → h' x0 1 = 2 → h' x0 0 ≤ h x0 0 → h' x0 1 = 2 → (zqL (zqE h' x0 2) (h' x0 0).toNat).map Prod.snd = (zqG x1 x2 ((zqL (zqE h x0 (h x0 1)) (h x0 0).toNat).map Prod.snd)).map zq2 → Q h' (9, 0)) : wp l rho (d + 1) 76 0 [(2, x0), (0, x1), (0, x2), (9, 0), (9, 0), (9, 0), (9, 0), (9, 0), (9, 0)] [] h Q := by
  refine v_know (x := x0) (j := 0) (b := 0) rfl t0 rd_8 rfl (fun ka0_0 eka0_0 pka0_0 qka0_0 => ?_)
  refine v_know (x := x0) (j := 1) (b := 1) rfl t0 rd_8 rfl (fun ka0_1 eka0_1 pka0_1 qka0_1 => ?_)
  have J5_0 : ∀ (n : Nat) (p5_0 p5_1 : Int) (h5_0 : my_H), my_fr [(8, 0), (8, 1), (42, -1)] h h5_0 → my_fx x0 3 h h5_0 → 0 ≤ p5_0 → p5_0 ≤ 11 → 0 ≤ p5_1 → p5_1 ≤ 11 → p5_0 ≤ p5_1 → p5_0 ≤ ka0_0 → p5_1 ≤ ka0_0 → h5_0 x0 0 = ka0_0 → h5_0 x0 1 = ka0_1 → SumI h h5_0 x0 (h x0 1) x1 x2 p5_1 p5_0 → 12 - p5_1 ≤ (n : Int) → wp l rho (d + 1) 76 5 [(2, x0), (0, x1), (0, x2), (0, p5_0), (0, p5_1), (9, 0), (9, 0), (9, 0), (9, 0)] [] h5_0 Q := by
    intro n
    induction n with
    | zero => intro p5_0 p5_1 h5_0 gh_5_0 gx_5_0 q0_5_0 q1_5_0 q2_5_0 q3_5_0 q4_5_0 q5_5_0 q6_5_0 ca0_0_5_0 ca0_1_5_0 su_5_0 hm_5_0; exfalso; omega
    | succ n ih_5_0 =>
      intro p5_0 p5_1 h5_0 gh_5_0 gx_5_0 q0_5_0 q1_5_0 q2_5_0 q3_5_0 q4_5_0 q5_5_0 q6_5_0 ca0_0_5_0 ca0_1_5_0 su_5_0 hm_5_0
      have J35_0 : ∀ (n : Nat) (p35_0 p35_1 p35_2 : Int) (h35_0 : my_H), my_fr [(8, 0), (8, 1), (42, -1)] h h35_0 → my_fx x0 3 h h35_0 → p5_0 ≤ 10 → p5_1 ≤ 10 → 0 ≤ p35_2 → p35_2 ≤ 10 → 1 ≤ ka0_0 → p35_2 ≤ p5_0 → p35_2 ≤ p5_1 → p35_2 ≤ (ka0_0 - 1) → p5_0 ≤ p5_1 → p5_0 ≤ (ka0_0 - 1) → p5_1 ≤ (ka0_0 - 1) → h35_0 x0 0 = ka0_0 → h35_0 x0 1 = ka0_1 → SumI h h35_0 x0 (h x0 1) x1 x2 p5_1 p5_0 → (∀ i : Nat, (i : Int) < p35_2 → h35_0 (x0 + 1) (17 * (i : Int)) ≠ p35_0) → p35_0 = h35_0 (x0 + 1) (17 * p5_1 + x2) → p35_1 = h35_0 (x0 + 1) (17 * p5_1 + x1) → 11 - p35_2 ≤ (n : Int) → wp l rho (d + 1) 76 35 [(2, x0), (0, x1), (0, x2), (0, p5_0), (0, p5_1), (0, p35_0), (0, p35_1), (0, p35_2), (9, 0)] [] h35_0 Q := by
        intro n
        induction n with
        | zero => intro p35_0 p35_1 p35_2 h35_0 gh_35_0 gx_35_0 q0_35_0 q1_35_0 q2_35_0 q3_35_0 q4_35_0 q5_35_0 q6_35_0 q7_35_0 q8_35_0 q9_35_0 q10_35_0 ca0_0_35_0 ca0_1_35_0 sv_35_0 nf_35_0 ev_35_0 ew_35_0 hm_35_0; exfalso; omega
        | succ n ih_35_0 =>
          intro p35_0 p35_1 p35_2 h35_0 gh_35_0 gx_35_0 q0_35_0 q1_35_0 q2_35_0 q3_35_0 q4_35_0 q5_35_0 q6_35_0 q7_35_0 q8_35_0 q9_35_0 q10_35_0 ca0_0_35_0 ca0_1_35_0 sv_35_0 nf_35_0 ev_35_0 ew_35_0 hm_35_0
          refine w_iload gz_76_35 rfl ?_
          refine w_iload_n gz_76_37 rfl ?_
          refine w_icge (t := 59) gz_76_38 rfl (fun u1 => ?_) (fun u1 => ?_)
          ·
            refine w_iload gz_76_59 rfl ?_
            refine w_bipush gz_76_61 (by decide) ?_
            refine w_imul gz_76_63 ⟨by omega, by omega⟩ ?_
            refine w_istore (ls' := [(2, x0), (0, x1), (0, x2), (0, p5_0), (0, p5_1), (0, p35_0), (0, p35_1), (0, p35_2), (0, (p35_2 * 17))]) gz_76_64 gm_76 rfl rfl rfl ?_
            refine w_iload gz_76_66 rfl ?_
            refine w_iload_n gz_76_68 rfl ?_
            refine w_icge (t := 89) gz_76_69 rfl (fun u2 => ?_) (fun u2 => by exfalso; omega)
            refine w_aload_n gz_76_89 rfl ?_
            refine w_getX (v := (x0 + 1)) gz_76_90 t0 rd_8 rfl (by decide) rfl ?_
            refine w_iload gz_76_93 rfl ?_
            refine w_iload gz_76_95 rfl ?_
            refine w_gstV gz_76_97 (ix_8_1 t0) rd_42 (by omega) (by omega) (by omega) (fun h4 fh4 => ?_)
            have gh4 : my_fr [(8, 0), (8, 1), (42, -1)] h h4 := my_fr.up gh_35_0 (ix_8_1 t0) fh4 rfl
            have gxh4 : my_fx x0 3 h h4 := my_fx.up gx_35_0 fh4 (by omega)
            refine w_aload_n gz_76_98 rfl ?_
            refine w_getX (v := (x0 + 1)) gz_76_99 t0 rd_8 rfl (by decide) rfl ?_
            refine w_iload gz_76_102 rfl ?_
            refine w_iconst gz_76_104 (by decide) ?_
            refine w_iadd gz_76_105 ⟨by omega, by omega⟩ ?_
            refine w_iload gz_76_106 rfl ?_
            refine w_gstV gz_76_108 (ix_8_1 t0) rd_42 (by omega) (by omega) (by omega) (fun h6 fh6 => ?_)
            have gh6 : my_fr [(8, 0), (8, 1), (42, -1)] h h6 := my_fr.up gh4 (ix_8_1 t0) fh6 rfl
            have gxh6 : my_fx x0 3 h h6 := my_fx.up gxh4 fh6 (by omega)
            refine w_aload_n gz_76_109 rfl ?_
            refine w_getX (v := (x0 + 1)) gz_76_110 t0 rd_8 rfl (by decide) rfl ?_
            refine w_iload gz_76_113 rfl ?_
            refine w_bipush gz_76_115 (by decide) ?_
            refine w_iadd gz_76_117 ⟨by omega, by omega⟩ ?_
            refine w_iconst gz_76_118 (by decide) ?_
            refine w_gstS gz_76_119 (ix_8_1 t0) rd_42 (by omega) (by omega) (by omega) (by omega) (by omega) (by omega) (fun h8 fh8 => ?_)
            have gh8 : my_fr [(8, 0), (8, 1), (42, -1)] h h8 := my_fr.up gh6 (ix_8_1 t0) fh8 rfl
            have gxh8 : my_fx x0 3 h h8 := my_fx.up gxh6 fh8 (by omega)
            refine w_aload_n gz_76_120 rfl ?_
            refine w_getX (v := (x0 + 1)) gz_76_121 t0 rd_8 rfl (by decide) rfl ?_
            refine w_iload gz_76_124 rfl ?_
            refine w_bipush gz_76_126 (by decide) ?_
            refine w_iadd gz_76_128 ⟨by omega, by omega⟩ ?_
            refine w_iconst gz_76_129 (by decide) ?_
            refine w_iadd gz_76_130 ⟨by omega, by omega⟩ ?_
            refine w_iconst gz_76_131 (by decide) ?_
            refine w_gstS gz_76_132 (ix_8_1 t0) rd_42 (by omega) (by omega) (by omega) (by omega) (by omega) (by omega) (fun h10 fh10 => ?_)
            have gh10 : my_fr [(8, 0), (8, 1), (42, -1)] h h10 := my_fr.up gh8 (ix_8_1 t0) fh10 rfl
            have gxh10 : my_fx x0 3 h h10 := my_fx.up gxh8 fh10 (by omega)
            refine w_aload_n gz_76_133 rfl ?_
            refine w_getX (v := (x0 + 1)) gz_76_134 t0 rd_8 rfl (by decide) rfl ?_
            refine w_iload gz_76_137 rfl ?_
            refine w_bipush gz_76_139 (by decide) ?_
            refine w_iadd gz_76_141 ⟨by omega, by omega⟩ ?_
            refine w_iload_n gz_76_142 rfl ?_
            refine w_iinc (ls' := [(2, x0), (0, x1), (0, x2), (0, (p5_0 + 1)), (0, p5_1), (0, p35_0), (0, p35_1), (0, p35_2), (0, (p35_2 * 17))]) gz_76_143 rfl gm_76 rfl rfl rfl ⟨by omega, by omega⟩ ?_
            refine w_gstT gz_76_146 (ix_8_1 t0) rd_42 (by omega) (by omega) (by omega) (by omega) (by omega) (fun h12 fh12 => ?_)
            have gh12 : my_fr [(8, 0), (8, 1), (42, -1)] h h12 := my_fr.up gh10 (ix_8_1 t0) fh12 rfl
            have gxh12 : my_fx x0 3 h h12 := my_fx.up gxh10 fh12 (by omega)
            refine w_iinc (ls' := [(2, x0), (0, x1), (0, x2), (0, (p5_0 + 1)), (0, (p5_1 + 1)), (0, p35_0), (0, p35_1), (0, p35_2), (0, (p35_2 * 17))]) gz_76_147 rfl gm_76 rfl rfl rfl ⟨by omega, by omega⟩ ?_
            refine w_goto (t := 5) gz_76_150 rfl ?_
            refine w_weak (ls' := [(2, x0), (0, x1), (0, x2), (0, (p5_0 + 1)), (0, (p5_1 + 1)), (9, 0), (9, 0), (9, 0), (9, 0)]) (wk_e (wk_e (wk_e (wk_e (wk_e (wk_9 (wk_9 (wk_9 (wk_9 wk_n))))))))) ?_
            exact ih_5_0 ((p5_0 + 1)) ((p5_1 + 1)) h12 (gh12) (gxh12) (by omega) (by omega) (by omega) (by omega) (by omega) (by omega) (by omega) (((my_up_role fh12 t0 (ix_8_1 t0) rfl).trans ((my_up_role fh10 t0 (ix_8_1 t0) rfl).trans ((my_up_role fh8 t0 (ix_8_1 t0) rfl).trans ((my_up_role fh6 t0 (ix_8_1 t0) rfl).trans ((my_up_role fh4 t0 (ix_8_1 t0) rfl).trans ca0_0_35_0))))).trans (by omega)) (((my_up_role fh12 t0 (ix_8_1 t0) rfl).trans ((my_up_role fh10 t0 (ix_8_1 t0) rfl).trans ((my_up_role fh8 t0 (ix_8_1 t0) rfl).trans ((my_up_role fh6 t0 (ix_8_1 t0) rfl).trans ((my_up_role fh4 t0 (ix_8_1 t0) rfl).trans ca0_1_35_0))))).trans (by omega)) (by first | exact SumI_0 | exact SumI_f (at' := p35_2) (by omega) (by omega) (by omega) (by omega) (by omega) (by omega) sv_35_0 ev_35_0 ew_35_0 (by omega) (by omega) (by omega) fh12 (by omega) (by omega) | exact SumI_a (by omega) (by omega) (by omega) (by omega) (by omega) (by omega) sv_35_0 ev_35_0 ew_35_0 (fun i hi => nf_35_0 i (by omega)) fh4 (by omega) fh6 (by omega) fh8 (by omega) fh10 (by omega) fh12 (by omega) | assumption | omega) (by omega)
          ·
            refine w_aload_n gz_76_41 rfl ?_
            refine w_iload gz_76_42 rfl ?_
            refine w_iconst gz_76_44 (by decide) ?_
            refine w_inv (k := 0) (as := [(0, 0), (0, p35_2)]) (r := []) (x := x0) (ls0 := [(2, x0), (0, p35_2), (0, 0)]) gz_76_45 gm_74 rfl t0 rd_8 rfl rfl rfl rfl rfl ?_
            refine w_aload_n gz_74_0 rfl ?_
            refine w_getX (v := (x0 + 1)) gz_74_1 t0 rd_8 rfl (by decide) rfl ?_
            refine w_iload_n gz_74_4 rfl ?_
            refine w_bipush gz_74_5 (by decide) ?_
            refine w_imul gz_74_7 ⟨by omega, by omega⟩ ?_
            refine w_iload_n gz_74_8 rfl ?_
            refine w_iadd gz_74_9 ⟨by omega, by omega⟩ ?_
            refine w_gldA gz_74_10 (ix_8_1 t0) rd_42 (by omega) (by omega) (fun v14 ev14 pv14 qv14 => ?_)
            refine w_iret gz_74_11 gm_74 ?_
            show wp l rho (d + 1) 76 48 [(2, x0), (0, x1), (0, x2), (0, p5_0), (0, p5_1), (0, p35_0), (0, p35_1), (0, p35_2), (9, 0)] [(0, v14)] h35_0 Q
            have e48 : h35_0 (x0 + 1) (17 * p35_2) = v14 := by
              rw [show 17 * p35_2 = ((p35_2 * 17) + 0) by omega]
              omega
            refine w_iload gz_76_48 rfl ?_
            refine w_iceq (t := 59) gz_76_50 rfl (fun u15 => ?_) (fun u15 => ?_)
            ·
              refine w_iload gz_76_59 rfl ?_
              refine w_bipush gz_76_61 (by decide) ?_
              refine w_imul gz_76_63 ⟨by omega, by omega⟩ ?_
              refine w_istore (ls' := [(2, x0), (0, x1), (0, x2), (0, p5_0), (0, p5_1), (0, p35_0), (0, p35_1), (0, p35_2), (0, (p35_2 * 17))]) gz_76_64 gm_76 rfl rfl rfl ?_
              refine w_iload gz_76_66 rfl ?_
              refine w_iload_n gz_76_68 rfl ?_
              refine w_icge (t := 89) gz_76_69 rfl (fun u16 => by exfalso; omega) (fun u16 => ?_)
              refine w_aload_n gz_76_72 rfl ?_
              refine w_getX (v := (x0 + 1)) gz_76_73 t0 rd_8 rfl (by decide) rfl ?_
              refine w_iload gz_76_76 rfl ?_
              refine w_iconst gz_76_78 (by decide) ?_
              refine w_iadd gz_76_79 ⟨by omega, by omega⟩ ?_
              refine w_dup2 gz_76_80 rfl rfl ?_
              refine w_gldA gz_76_81 (ix_8_1 t0) rd_42 (by omega) (by omega) (fun v18 ev18 pv18 qv18 => ?_)
              refine w_iload gz_76_82 rfl ?_
              have bs := SumI_b (at' := p35_2) (by omega) sv_35_0 hb (by omega) (by omega) (by omega)
              have es : h35_0 (x0 + 1) (17 * p35_2 + 1) = v18 := by
                rw [show 17 * p35_2 + 1 = ((p35_2 * 17) + 1) by omega]
                omega
              have bp := SumI_p (by omega) (by omega) (by omega) (by omega) sv_35_0 hb (by omega) ew_35_0
              have hi19 : 0 ≤ v18 := by omega
              have hi20 : v18 ≤ 99990 := by omega
              have hi21 : 0 ≤ p35_1 := by omega
              have hi22 : p35_1 ≤ 9999 := by omega
              refine w_iadd gz_76_84 ⟨by omega, by omega⟩ ?_
              refine w_gstV gz_76_85 (ix_8_1 t0) rd_42 (by omega) (by omega) (by omega) (fun h23 fh23 => ?_)
              have gh23 : my_fr [(8, 0), (8, 1), (42, -1)] h h23 := my_fr.up gh_35_0 (ix_8_1 t0) fh23 rfl
              have gxh23 : my_fx x0 3 h h23 := my_fx.up gx_35_0 fh23 (by omega)
              refine w_goto (t := 147) gz_76_86 rfl ?_
              refine w_iinc (ls' := [(2, x0), (0, x1), (0, x2), (0, p5_0), (0, (p5_1 + 1)), (0, p35_0), (0, p35_1), (0, p35_2), (0, (p35_2 * 17))]) gz_76_147 rfl gm_76 rfl rfl rfl ⟨by omega, by omega⟩ ?_
              refine w_goto (t := 5) gz_76_150 rfl ?_
              refine w_weak (ls' := [(2, x0), (0, x1), (0, x2), (0, p5_0), (0, (p5_1 + 1)), (9, 0), (9, 0), (9, 0), (9, 0)]) (wk_e (wk_e (wk_e (wk_e (wk_e (wk_9 (wk_9 (wk_9 (wk_9 wk_n))))))))) ?_
              exact ih_5_0 (p5_0) ((p5_1 + 1)) h23 (gh23) (gxh23) (by omega) (by omega) (by omega) (by omega) (by omega) (by omega) (by omega) (((my_up_role fh23 t0 (ix_8_1 t0) rfl).trans ca0_0_35_0).trans (by omega)) (((my_up_role fh23 t0 (ix_8_1 t0) rfl).trans ca0_1_35_0).trans (by omega)) (by first | exact SumI_0 | exact SumI_f (at' := p35_2) (by omega) (by omega) (by omega) (by omega) (by omega) (by omega) sv_35_0 ev_35_0 ew_35_0 (by omega) (by omega) (by omega) fh23 (by omega) (by omega) | exact SumI_a (by omega) (by omega) (by omega) (by omega) (by omega) (by omega) sv_35_0 ev_35_0 ew_35_0 (fun i hi => nf_35_0 i (by omega)) no_such_saying (by omega) no_such_saying (by omega) no_such_saying (by omega) no_such_saying (by omega) fh23 (by omega) | assumption | omega) (by omega)
            ·
              refine w_iinc (ls' := [(2, x0), (0, x1), (0, x2), (0, p5_0), (0, p5_1), (0, p35_0), (0, p35_1), (0, (p35_2 + 1)), (9, 0)]) gz_76_53 rfl gm_76 rfl rfl rfl ⟨by omega, by omega⟩ ?_
              refine w_goto (t := 35) gz_76_56 rfl ?_
              exact ih_35_0 (p35_0) (p35_1) ((p35_2 + 1)) h35_0 (gh_35_0) (gx_35_0) (by omega) (by omega) (by omega) (by omega) (by omega) (by omega) (by omega) (by omega) (by omega) (by omega) (by omega) (ca0_0_35_0.trans (by omega)) (ca0_1_35_0.trans (by omega)) (by first | exact su_5_0 | exact sv_35_0 | assumption | omega) (by first | exact st_N0 | exact st_N1 (by omega) nf_35_0 (by rw [Int.toNat_of_nonneg (by omega)]; omega) | assumption | omega) (by first | exact e21 | exact ev_35_0 | assumption | omega) (by first | exact e30 | exact ew_35_0 | assumption | omega) (by omega)
      refine w_iload gz_76_5 rfl ?_
      refine w_aload_n gz_76_7 rfl ?_
      refine v_getI (j := 0) gz_76_8 rfl t0 rd_8 rfl (fun v24 ev24 pv24 qv24 => ?_)
      have zv24 := ev24.trans ca0_0_5_0
      refine w_icge (t := 153) gz_76_11 rfl (fun u25 => ?_) (fun u25 => ?_)
      ·
        refine w_aload_n gz_76_153 rfl ?_
        refine w_iload_n gz_76_154 rfl ?_
        refine v_putI (j := 0) gz_76_155 rfl t0 rd_8 rfl (by omega) (by omega) rfl (fun h26 fh26 => ?_)
        have gh26 : my_fr [(8, 0), (8, 1), (42, -1)] h h26 := my_fr.up gh_5_0 t0 fh26 rfl
        have gxh26 : my_fx x0 3 h h26 := my_fx.up gx_5_0 fh26 (by omega)
        refine w_aload_n gz_76_158 rfl ?_
        refine w_iconst gz_76_159 (by decide) ?_
        refine v_putI (j := 1) gz_76_160 rfl t0 rd_8 rfl (by omega) (by omega) rfl (fun h27 fh27 => ?_)
        have gh27 : my_fr [(8, 0), (8, 1), (42, -1)] h h27 := my_fr.up gh26 t0 fh27 rfl
        have gxh27 : my_fx x0 3 h h27 := my_fx.up gxh26 fh27 (by omega)
        have ce28 : h27 x0 0 = p5_0 := ((my_up_fld fh27 (by decide)).trans (my_up_self fh26))
        have ce29 : h27 x0 1 = 2 := (my_up_self fh27)
        have ga : ∀ j : Int, h27 (x0 + 1) j = h5_0 (x0 + 1) j := fun j => ((my_up_role fh27 (ix_8_1 t0) t0 rfl).trans ((my_up_role fh26 (ix_8_1 t0) t0 rfl).trans (rfl : h5_0 (x0 + 1) j = h5_0 (x0 + 1) j)))
        have c30 := (my_up_self fh27)
        exact w_vret gz_76_163 gm_76 (k0 h27 (gh27) (gxh27) (by omega) (by first | (have q := SumI_e su_5_0 ga; rw [show (p5_1).toNat = (h x0 0).toNat by omega] at q; rw [show (h27 x0 0).toNat = (p5_0).toNat by omega]; exact q) | (subst_vars; omega) | assumption | omega) (by first | (have q := SumI_e su_5_0 ga; rw [show (p5_1).toNat = (h x0 0).toNat by omega] at q; rw [show (h27 x0 0).toNat = (p5_0).toNat by omega]; exact q) | (subst_vars; omega) | assumption | omega) (by first | (have q := SumI_e su_5_0 ga; rw [show (p5_1).toNat = (h x0 0).toNat by omega] at q; rw [show (h27 x0 0).toNat = (p5_0).toNat by omega]; exact q) | (subst_vars; omega) | assumption | omega))
      ·
        refine w_aload_n gz_76_14 rfl ?_
        refine w_iload gz_76_15 rfl ?_
        refine w_iload_n gz_76_17 rfl ?_
        refine w_inv (k := 0) (as := [(0, x2), (0, p5_1)]) (r := []) (x := x0) (ls0 := [(2, x0), (0, p5_1), (0, x2)]) gz_76_18 gm_74 rfl t0 rd_8 rfl rfl rfl rfl rfl ?_
        refine w_aload_n gz_74_0 rfl ?_
        refine w_getX (v := (x0 + 1)) gz_74_1 t0 rd_8 rfl (by decide) rfl ?_
        refine w_iload_n gz_74_4 rfl ?_
        refine w_bipush gz_74_5 (by decide) ?_
        refine w_imul gz_74_7 ⟨by omega, by omega⟩ ?_
        refine w_iload_n gz_74_8 rfl ?_
        refine w_iadd gz_74_9 ⟨by omega, by omega⟩ ?_
        refine w_gldA gz_74_10 (ix_8_1 t0) rd_42 (by omega) (by omega) (fun v32 ev32 pv32 qv32 => ?_)
        refine w_iret gz_74_11 gm_74 ?_
        show wp l rho (d + 1) 76 21 [(2, x0), (0, x1), (0, x2), (0, p5_0), (0, p5_1), (9, 0), (9, 0), (9, 0), (9, 0)] [(0, v32)] h5_0 Q
        have e21 : v32 = h5_0 (x0 + 1) (17 * p5_1 + x2) := by
          rw [show 17 * p5_1 + x2 = ((p5_1 * 17) + x2) by omega]
          omega
        refine w_istore (ls' := [(2, x0), (0, x1), (0, x2), (0, p5_0), (0, p5_1), (0, v32), (9, 0), (9, 0), (9, 0)]) gz_76_21 gm_76 rfl rfl rfl ?_
        refine w_aload_n gz_76_23 rfl ?_
        refine w_iload gz_76_24 rfl ?_
        refine w_iload_n gz_76_26 rfl ?_
        refine w_inv (k := 0) (as := [(0, x1), (0, p5_1)]) (r := []) (x := x0) (ls0 := [(2, x0), (0, p5_1), (0, x1)]) gz_76_27 gm_74 rfl t0 rd_8 rfl rfl rfl rfl rfl ?_
        refine w_aload_n gz_74_0 rfl ?_
        refine w_getX (v := (x0 + 1)) gz_74_1 t0 rd_8 rfl (by decide) rfl ?_
        refine w_iload_n gz_74_4 rfl ?_
        refine w_bipush gz_74_5 (by decide) ?_
        refine w_imul gz_74_7 ⟨by omega, by omega⟩ ?_
        refine w_iload_n gz_74_8 rfl ?_
        refine w_iadd gz_74_9 ⟨by omega, by omega⟩ ?_
        refine w_gldA gz_74_10 (ix_8_1 t0) rd_42 (by omega) (by omega) (fun v34 ev34 pv34 qv34 => ?_)
        refine w_iret gz_74_11 gm_74 ?_
        show wp l rho (d + 1) 76 30 [(2, x0), (0, x1), (0, x2), (0, p5_0), (0, p5_1), (0, v32), (9, 0), (9, 0), (9, 0)] [(0, v34)] h5_0 Q
        have e30 : v34 = h5_0 (x0 + 1) (17 * p5_1 + x1) := by
          rw [show 17 * p5_1 + x1 = ((p5_1 * 17) + x1) by omega]
          omega
        refine w_istore (ls' := [(2, x0), (0, x1), (0, x2), (0, p5_0), (0, p5_1), (0, v32), (0, v34), (9, 0), (9, 0)]) gz_76_30 gm_76 rfl rfl rfl ?_
        refine w_iconst gz_76_32 (by decide) ?_
        refine w_istore (ls' := [(2, x0), (0, x1), (0, x2), (0, p5_0), (0, p5_1), (0, v32), (0, v34), (0, 0), (9, 0)]) gz_76_33 gm_76 rfl rfl rfl ?_
        exact J35_0 11 (v32) (v34) (0) h5_0 (gh_5_0) (gx_5_0) (by omega) (by omega) (by omega) (by omega) (by omega) (by omega) (by omega) (by omega) (by omega) (by omega) (by omega) (ev24.symm.trans (by omega)) (ca0_1_5_0.trans (by omega)) (by first | exact su_5_0 | exact sv_35_0 | assumption | omega) (by first | exact st_N0 | exact st_N1 (by omega) nf_35_0 (by rw [Int.toNat_of_nonneg (by omega)]; omega) | assumption | omega) (by first | exact e21 | exact ev_35_0 | assumption | omega) (by first | exact e30 | exact ew_35_0 | assumption | omega) (by omega)
  refine w_iconst gz_76_0 (by decide) ?_
  refine w_istore_n (ls' := [(2, x0), (0, x1), (0, x2), (0, 0), (9, 0), (9, 0), (9, 0), (9, 0), (9, 0)]) gz_76_1 gm_76 rfl rfl rfl ?_
  refine w_iconst gz_76_2 (by decide) ?_
  refine w_istore (ls' := [(2, x0), (0, x1), (0, x2), (0, 0), (0, 0), (9, 0), (9, 0), (9, 0), (9, 0)]) gz_76_3 gm_76 rfl rfl rfl ?_
  exact J5_0 12 (0) (0) h (my_fr.rf) (my_fx.rf) (by omega) (by omega) (by omega) (by omega) (by omega) (by omega) (by omega) (eka0_0.symm.trans (by omega)) (eka0_1.symm.trans (by omega)) (by first | exact SumI_0 | exact SumI_f (at' := 0) (by omega) (by omega) (by omega) (by omega) (by omega) (by omega) sv_35_0 ev_35_0 ew_35_0 (by omega) (by omega) (by omega) no_such_saying (by omega) (by omega) | exact SumI_a (by omega) (by omega) (by omega) (by omega) (by omega) (by omega) sv_35_0 ev_35_0 ew_35_0 (fun i hi => nf_35_0 i (by omega)) no_such_saying (by omega) no_such_saying (by omega) no_such_saying (by omega) no_such_saying (by omega) no_such_saying (by omega) | assumption | omega) (by omega)
theorem c_View_compare5 {l : Launch} {rho : Nat → Int32} {d : Nat} {h : my_H} {Q : my_H → my_V → Prop} {x0 x1 x2 x3 : Int} (t0 : my_is 8 x0) (a1 : 0 ≤ x1) (b1 : x1 ≤ 11) (m1_0 : 0 ≤ x1 % 17) (m1_1 : x1 % 17 ≤ 10) (t2 : my_is 8 x2) (a3 : 0 ≤ x3) (b3 : x3 ≤ 11) (m3_0 : 0 ≤ x3 % 17) (m3_1 : x3 % 17 ≤ 10) (hb1 : zqBe (zqE h x0 (h x0 1) (x1).toNat).2) (hb2 : zqBe (zqE h x2 (h x0 1) (x3).toNat).2) (k0 : zqCmp (zqE h x0 (h x0 1) (x1).toNat).2 (zqE h x2 (h x0 1) (x3).toNat).2 0 → Q h (0, 0)) (k1 : ∀ (y : Int), (-9999) ≤ y → y ≤ 9999 → 1 ≤ h x0 1 → h x0 1 ≤ 8 → zqCmp (zqE h x0 (h x0 1) (x1).toNat).2 (zqE h x2 (h x0 1) (x3).toNat).2 y → Q h (0, y)) : wp l rho d 80 0 [(2, x0), (0, x1), (2, x2), (0, x3), (9, 0), (9, 0)] [] h Q := by
  have J3_0 : ∀ (n : Nat) (p3_0 : Int), 0 ≤ p3_0 → p3_0 ≤ 8 → (∀ j : Int, 0 ≤ j → j < p3_0 → h (x0 + 1) (17 * x1 + j) = h (x2 + 1) (17 * x3 + j)) → 9 - p3_0 ≤ (n : Int) → wp l rho d 80 3 [(2, x0), (0, x1), (2, x2), (0, x3), (0, p3_0), (9, 0)] [] h Q := by
    intro n
    induction n with
    | zero => intro p3_0 q0_3_0 q1_3_0 eq_3_0 hm_3_0; exfalso; omega
    | succ n ih_3_0 =>
      intro p3_0 q0_3_0 q1_3_0 eq_3_0 hm_3_0
      refine w_iload gz_80_3 rfl ?_
      refine w_aload_n gz_80_5 rfl ?_
      refine v_getI (j := 1) gz_80_6 rfl t0 rd_8 rfl (fun v1 ev1 pv1 qv1 => ?_)
      refine w_icge (t := 53) gz_80_9 rfl (fun u2 => ?_) (fun u2 => ?_)
      ·
        refine w_iconst gz_80_53 (by decide) ?_
        exact w_iret gz_80_54 gm_80 (k0 (by first | exact zqCmp_0 (by omega) (by omega) (fun j a b => eq_3_0 j a (by omega)) | exact zqCmp_d (by omega) (by omega) eq_3_0 (by omega) (by omega) (by omega) (by omega) | assumption | omega))
      ·
        refine w_aload_n gz_80_12 rfl ?_
        refine w_getX (v := (x0 + 1)) gz_80_13 t0 rd_8 rfl (by decide) rfl ?_
        refine w_iload_n gz_80_16 rfl ?_
        refine w_bipush gz_80_17 (by decide) ?_
        refine w_imul gz_80_19 ⟨by omega, by omega⟩ ?_
        refine w_iload gz_80_20 rfl ?_
        refine w_iadd gz_80_22 ⟨by omega, by omega⟩ ?_
        refine w_gldA gz_80_23 (ix_8_1 t0) rd_42 (by omega) (by omega) (fun v4 ev4 pv4 qv4 => ?_)
        have b1 := zqE_bd hb1 (j := p3_0) (by omega) (by omega) (by omega)
        have c1 : h (x0 + 1) (17 * x1 + p3_0) = v4 := by
          rw [show 17 * x1 + p3_0 = ((x1 * 17) + p3_0) by omega]
          omega
        refine w_aload_n gz_80_24 rfl ?_
        refine w_getX (v := (x2 + 1)) gz_80_25 t2 rd_8 rfl (by decide) rfl ?_
        refine w_iload_n gz_80_28 rfl ?_
        refine w_bipush gz_80_29 (by decide) ?_
        refine w_imul gz_80_31 ⟨by omega, by omega⟩ ?_
        refine w_iload gz_80_32 rfl ?_
        refine w_iadd gz_80_34 ⟨by omega, by omega⟩ ?_
        refine w_gldA gz_80_35 (ix_8_1 t2) rd_42 (by omega) (by omega) (fun v6 ev6 pv6 qv6 => ?_)
        have b2 := zqE_bd hb2 (j := p3_0) (by omega) (by omega) (by omega)
        have c2 : h (x2 + 1) (17 * x3 + p3_0) = v6 := by
          rw [show 17 * x3 + p3_0 = ((x3 * 17) + p3_0) by omega]
          omega
        have hi7 : 0 ≤ v4 := by omega
        have hi8 : v4 ≤ 9999 := by omega
        have hi9 : 0 ≤ v6 := by omega
        have hi10 : v6 ≤ 9999 := by omega
        refine w_isub gz_80_36 ⟨by omega, by omega⟩ ?_
        refine w_istore (ls' := [(2, x0), (0, x1), (2, x2), (0, x3), (0, p3_0), (0, (v4 - v6))]) gz_80_37 gm_80 rfl rfl rfl ?_
        refine w_iload gz_80_39 rfl ?_
        refine w_ifeq (t := 47) gz_80_41 rfl (fun u11 => ?_) (fun u11 => ?_)
        ·
          refine w_iinc (ls' := [(2, x0), (0, x1), (2, x2), (0, x3), (0, (p3_0 + 1)), (0, (v4 - v6))]) gz_80_47 rfl gm_80 rfl rfl rfl ⟨by omega, by omega⟩ ?_
          refine w_goto (t := 3) gz_80_50 rfl ?_
          refine w_weak (ls' := [(2, x0), (0, x1), (2, x2), (0, x3), (0, (p3_0 + 1)), (9, 0)]) (wk_e (wk_e (wk_e (wk_e (wk_e (wk_9 wk_n)))))) ?_
          exact ih_3_0 ((p3_0 + 1)) (by omega) (by omega) (by first | exact st_0 | exact st_1 eq_3_0 (by omega) | omega) (by omega)
        ·
          refine w_iload gz_80_44 rfl ?_
          have c12 := ev1.symm
          exact w_iret gz_80_46 gm_80 (k1 ((v4 - v6)) (by omega) (by omega) (by omega) (by omega) (by first | exact zqCmp_0 (by omega) (by omega) (fun j a b => eq_3_0 j a (by omega)) | exact zqCmp_d (by omega) (by omega) eq_3_0 (by omega) (by omega) (by omega) (by omega) | assumption | omega))
  refine w_iconst gz_80_0 (by decide) ?_
  refine w_istore (ls' := [(2, x0), (0, x1), (2, x2), (0, x3), (0, 0), (9, 0)]) gz_80_1 gm_80 rfl rfl rfl ?_
  exact J3_0 9 (0) (by omega) (by omega) (by first | exact st_0 | exact st_1 eq_3_0 (by omega) | omega) (by omega)
theorem c_View_dropRow5 {l : Launch} {rho : Nat → Int32} {d : Nat} {h : my_H} {Q : my_H → my_V → Prop} {x0 x1 : Int} (t0 : my_is 8 x0) (a1 : 0 ≤ x1) (b1 : x1 ≤ 9) (m1_0 : 0 ≤ x1 % 17) (m1_1 : x1 % 17 ≤ 9) (hd : x1 < h x0 0) (k0 : ∀ (h' : my_H), my_fr [(8, 0), (42, -1)] h h' → my_fx x0 3 h h' → 0 ≤ h' x0 0 → h' x0 0 ≤ 10 → h' x0 0 = h x0 0 - 1 → (∀ (m : Int) (i : Nat), m ≤ 16 → (i : Int) < h x0 0 - 1 → zqE h' x0 m i = zqE h x0 m (if x1 ≤ (i : Int) then i + 1 else i)) → Q h' (9, 0)) : wp l rho (d + 2) 90 0 [(2, x0), (0, x1), (9, 0)] [] h Q := by
  refine v_know (x := x0) (j := 0) (b := 0) rfl t0 rd_8 rfl (fun ka0_0 eka0_0 pka0_0 qka0_0 => ?_)
  have J4_0 : ∀ (n : Nat) (p4_0 : Int) (h4_0 : my_H), my_fr [(8, 0), (42, -1)] h h4_0 → my_fx x0 3 h h4_0 → 1 ≤ p4_0 → p4_0 ≤ 11 → p4_0 ≤ (ka0_0 + 10) → x1 ≤ (p4_0 - 1) → h4_0 x0 0 = ka0_0 → DrI h h4_0 x0 x1 p4_0 → 12 - p4_0 ≤ (n : Int) → wp l rho (d + 2) 90 4 [(2, x0), (0, x1), (0, p4_0)] [] h4_0 Q := by
    intro n
    induction n with
    | zero => intro p4_0 h4_0 gh_4_0 gx_4_0 q0_4_0 q1_4_0 q2_4_0 q3_4_0 ca0_0_4_0 dr_4_0 hm_4_0; exfalso; omega
    | succ n ih_4_0 =>
      intro p4_0 h4_0 gh_4_0 gx_4_0 q0_4_0 q1_4_0 q2_4_0 q3_4_0 ca0_0_4_0 dr_4_0 hm_4_0
      refine w_iload_n gz_90_4 rfl ?_
      refine w_aload_n gz_90_5 rfl ?_
      refine v_getI (j := 0) gz_90_6 rfl t0 rd_8 rfl (fun v1 ev1 pv1 qv1 => ?_)
      have zv1 := ev1.trans ca0_0_4_0
      refine w_icge (t := 26) gz_90_9 rfl (fun u2 => ?_) (fun u2 => ?_)
      ·
        refine w_aload_n gz_90_26 rfl ?_
        refine w_dup gz_90_27 rfl ?_
        refine v_getI (j := 0) gz_90_28 rfl t0 rd_8 rfl (fun v3 ev3 pv3 qv3 => ?_)
        have zv3 := ev3.trans ev1.symm
        refine w_iconst gz_90_31 (by decide) ?_
        refine w_isub gz_90_32 ⟨by omega, by omega⟩ ?_
        have hi4 : 0 ≤ (v3 - 1) := by omega
        refine v_putI (j := 0) gz_90_33 rfl t0 rd_8 rfl (by omega) (by omega) rfl (fun h5 fh5 => ?_)
        have gh5 : my_fr [(8, 0), (42, -1)] h h5 := my_fr.up gh_4_0 t0 fh5 rfl
        have gxh5 : my_fx x0 3 h h5 := my_fx.up gx_4_0 fh5 (by omega)
        have ce6 : h5 x0 0 = (v3 - 1) := (my_up_self fh5)
        have ga : ∀ j : Int, h5 (x0 + 1) j = h4_0 (x0 + 1) j := fun j => ((my_up_role fh5 (ix_8_1 t0) t0 rfl).trans (rfl : h4_0 (x0 + 1) j = h4_0 (x0 + 1) j))
        have c7 := (my_up_self fh5)
        exact w_vret gz_90_36 gm_90 (k0 h5 (gh5) (gxh5) (by omega) (by omega) (by first | exact (fun m i m0 hi => (zqE_cg m0 (fun j _ _ => ga j)).trans (DrI_e m0 (by omega) dr_4_0 (by omega) (by omega) (by omega))) | assumption | omega) (by first | exact (fun m i m0 hi => (zqE_cg m0 (fun j _ _ => ga j)).trans (DrI_e m0 (by omega) dr_4_0 (by omega) (by omega) (by omega))) | assumption | omega))
      ·
        refine w_aload_n gz_90_12 rfl ?_
        refine w_iload_n gz_90_13 rfl ?_
        refine w_iload_n gz_90_14 rfl ?_
        refine w_iconst gz_90_15 (by decide) ?_
        refine w_isub gz_90_16 ⟨by omega, by omega⟩ ?_
        refine w_inv (k := 0) (as := [(0, (p4_0 - 1)), (0, p4_0)]) (r := []) (x := x0) (ls0 := [(2, x0), (0, p4_0), (0, (p4_0 - 1))]) gz_90_17 gm_72 rfl t0 rd_8 rfl rfl rfl rfl rfl ?_
        refine w_iload_n gz_72_0 rfl ?_
        refine w_iload_n gz_72_1 rfl ?_
        refine w_iceq (t := 26) gz_72_2 rfl (fun u8 => by exfalso; omega) (fun u8 => ?_)
        refine w_aload_n gz_72_5 rfl ?_
        refine w_getX (v := (x0 + 1)) gz_72_6 t0 rd_8 rfl (by decide) rfl ?_
        refine w_iload_n gz_72_9 rfl ?_
        refine w_bipush gz_72_10 (by decide) ?_
        refine w_imul gz_72_12 ⟨by omega, by omega⟩ ?_
        refine w_aload_n gz_72_13 rfl ?_
        refine w_getX (v := (x0 + 1)) gz_72_14 t0 rd_8 rfl (by decide) rfl ?_
        refine w_iload_n gz_72_17 rfl ?_
        refine w_bipush gz_72_18 (by decide) ?_
        refine w_imul gz_72_20 ⟨by omega, by omega⟩ ?_
        refine w_bipush gz_72_21 (by decide) ?_
        refine w_cpG gz_72_23 (ix_8_1 t0) rd_42 (ix_8_1 t0) rd_42 (by omega) (by omega) (by omega) (by omega) (by omega) rfl (by omega) (fun h11 fh11 => ?_)
        have gh11 : my_fr [(8, 0), (42, -1)] h h11 := my_fr.cp gh_4_0 (ix_8_1 t0) fh11 rfl
        have gxh11 : my_fx x0 3 h h11 := my_fx.cp gx_4_0 fh11 (by omega)
        refine w_vret gz_72_26 gm_72 ?_
        show wp l rho (d + 2) 90 20 [(2, x0), (0, x1), (0, p4_0)] [] h11 Q
        refine w_iinc (ls' := [(2, x0), (0, x1), (0, (p4_0 + 1))]) gz_90_20 rfl gm_90 rfl rfl rfl ⟨by omega, by omega⟩ ?_
        refine w_goto (t := 4) gz_90_23 rfl ?_
        exact ih_4_0 ((p4_0 + 1)) h11 (gh11) (gxh11) (by omega) (by omega) (by omega) (by omega) (((my_cp_role fh11 t0 (ix_8_1 t0) rfl).trans ev1.symm).trans (by omega)) (by first | exact DrI_0 | exact DrI_s (by omega) (by omega) (by omega) dr_4_0 fh11 | assumption | omega) (by omega)
  refine w_iload_n gz_90_0 rfl ?_
  refine w_iconst gz_90_1 (by decide) ?_
  refine w_iadd gz_90_2 ⟨by omega, by omega⟩ ?_
  refine w_istore_n (ls' := [(2, x0), (0, x1), (0, (x1 + 1))]) gz_90_3 gm_90 rfl rfl rfl ?_
  exact J4_0 11 ((x1 + 1)) h (my_fr.rf) (my_fx.rf) (by omega) (by omega) (by omega) (by omega) (eka0_0.symm.trans (by omega)) (by first | exact DrI_0 | exact DrI_s (by omega) (by omega) (by omega) dr_4_0 no_such_copy | assumption | omega) (by omega)
theorem c_View_same5 {l : Launch} {rho : Nat → Int32} {d : Nat} {h : my_H} {Q : my_H → my_V → Prop} {x0 x1 : Int} (t0 : my_is 8 x0) (t1 : my_is 8 x1) (hb1 : ∀ i : Nat, (i : Int) < h x0 0 → zqBe (zqE h x0 (h x0 1) i).2) (hb2 : ∀ i : Nat, (i : Int) < h x1 0 → zqBe (zqE h x1 (h x1 1) i).2) (k0 : ¬ zqSame h x0 x1 → Q h (0, 0)) (k1 : zqSame h x0 x1 → Q h (0, 1)) : wp l rho (d + 1) 93 0 [(2, x0), (2, x1), (9, 0)] [] h Q := by
  have J26_0 : ∀ (n : Nat) (p26_0 p26_1 p26_2 p26_3 p26_4 : Int), 0 ≤ p26_0 → p26_0 ≤ 11 → 0 ≤ p26_1 → p26_1 ≤ 11 → 0 ≤ p26_3 → p26_3 ≤ 11 → 0 ≤ p26_2 → p26_2 ≤ 8 → 0 ≤ p26_4 → p26_4 ≤ 8 → p26_0 ≤ p26_1 → p26_0 ≤ p26_3 → p26_1 ≤ p26_3 → p26_3 ≤ p26_1 → p26_2 ≤ p26_4 → p26_4 ≤ p26_2 → h x0 0 = p26_1 → h x0 1 = p26_2 → h x1 0 = p26_3 → h x1 1 = p26_4 → (∀ i : Nat, (i : Int) < p26_0 → (zqE h x0 (h x0 1) i).2 = (zqE h x1 (h x0 1) i).2) → 12 - p26_0 ≤ (n : Int) → wp l rho (d + 1) 93 26 [(2, x0), (2, x1), (0, p26_0)] [] h Q := by
    intro n
    induction n with
    | zero => intro p26_0 p26_1 p26_2 p26_3 p26_4 q0_26_0 q1_26_0 q2_26_0 q3_26_0 q4_26_0 q5_26_0 q6_26_0 q7_26_0 q8_26_0 q9_26_0 q10_26_0 q11_26_0 q12_26_0 q13_26_0 q14_26_0 q15_26_0 ca0_0_26_0 ca0_1_26_0 ca1_0_26_0 ca1_1_26_0 al_26_0 hm_26_0; exfalso; omega
    | succ n ih_26_0 =>
      intro p26_0 p26_1 p26_2 p26_3 p26_4 q0_26_0 q1_26_0 q2_26_0 q3_26_0 q4_26_0 q5_26_0 q6_26_0 q7_26_0 q8_26_0 q9_26_0 q10_26_0 q11_26_0 q12_26_0 q13_26_0 q14_26_0 q15_26_0 ca0_0_26_0 ca0_1_26_0 ca1_0_26_0 ca1_1_26_0 al_26_0 hm_26_0
      refine w_iload_n gz_93_26 rfl ?_
      refine w_aload_n gz_93_27 rfl ?_
      refine v_getI (j := 0) gz_93_28 rfl t0 rd_8 rfl (fun v1 ev1 pv1 qv1 => ?_)
      have zv1 := ev1.trans ca0_0_26_0
      refine w_icge (t := 52) gz_93_31 rfl (fun u2 => ?_) (fun u2 => ?_)
      ·
        refine w_iconst gz_93_52 (by decide) ?_
        exact w_bret gz_93_53 gm_93 (by omega) (by omega) (k1 (by first | exact ⟨by omega, by omega, fun i hi => al_26_0 i (by omega)⟩ | exact (fun z => zqCmp_ne cm (by omega) (z.2.2 _ (by omega))) | exact (fun z => by have z1 := z.1; have z2 := z.2.1; omega) | assumption | omega))
      ·
        refine w_aload_n gz_93_34 rfl ?_
        refine w_iload_n gz_93_35 rfl ?_
        refine w_aload_n gz_93_36 rfl ?_
        refine w_iload_n gz_93_37 rfl ?_
        refine w_inv (k := 2) (as := [(0, p26_0), (2, x1), (0, p26_0)]) (r := []) (x := x0) (ls0 := [(2, x0), (0, p26_0), (2, x1), (0, p26_0), (9, 0), (9, 0)]) gz_93_38 gm_80 rfl t0 rd_8 rfl rfl rfl rfl rfl (c_View_compare5 (d := d) (x0 := x0) (x1 := p26_0) (x2 := x1) (x3 := p26_0) t0 (by omega) (by omega) (by omega) (by omega) t1 (by omega) (by omega) (by omega) (by omega) (hb1 _ (by omega)) (by rw [show h x0 1 = h x1 1 by omega]; exact hb2 _ (by omega)) (fun xp3 => ?_) (fun v4 w5 w6 w7 w8 xp9 => ?_))
        ·
          show wp l rho (d + 1) 93 41 [(2, x0), (2, x1), (0, p26_0)] [(0, 0)] h Q
          have cm := xp3
          refine w_ifeq (t := 46) gz_93_41 rfl (fun u10 => ?_) (fun u10 => by exfalso; omega)
          refine w_iinc (ls' := [(2, x0), (2, x1), (0, (p26_0 + 1))]) gz_93_46 rfl gm_93 rfl rfl rfl ⟨by omega, by omega⟩ ?_
          refine w_goto (t := 26) gz_93_49 rfl ?_
          exact ih_26_0 ((p26_0 + 1)) (v1) (p26_2) (p26_3) (p26_4) (by omega) (by omega) (by omega) (by omega) (by omega) (by omega) (by omega) (by omega) (by omega) (by omega) (by omega) (by omega) (by omega) (by omega) (by omega) (by omega) (ev1.symm.trans (by omega)) (ca0_1_26_0.trans (by omega)) (ca1_0_26_0.trans (by omega)) (ca1_1_26_0.trans (by omega)) (by first | exact st_N0 | exact st_N1 (by omega) al_26_0 (cm.1 (by omega)) | assumption | omega) (by omega)
        ·
          show wp l rho (d + 1) 93 41 [(2, x0), (2, x1), (0, p26_0)] [(0, v4)] h Q
          have cm := xp9
          refine w_ifeq (t := 46) gz_93_41 rfl (fun u11 => ?_) (fun u11 => ?_)
          ·
            refine w_iinc (ls' := [(2, x0), (2, x1), (0, (p26_0 + 1))]) gz_93_46 rfl gm_93 rfl rfl rfl ⟨by omega, by omega⟩ ?_
            refine w_goto (t := 26) gz_93_49 rfl ?_
            exact ih_26_0 ((p26_0 + 1)) (v1) (p26_2) (p26_3) (p26_4) (by omega) (by omega) (by omega) (by omega) (by omega) (by omega) (by omega) (by omega) (by omega) (by omega) (by omega) (by omega) (by omega) (by omega) (by omega) (by omega) (ev1.symm.trans (by omega)) (ca0_1_26_0.trans (by omega)) (ca1_0_26_0.trans (by omega)) (ca1_1_26_0.trans (by omega)) (by first | exact st_N0 | exact st_N1 (by omega) al_26_0 (cm.1 (by omega)) | assumption | omega) (by omega)
          ·
            refine w_iconst gz_93_44 (by decide) ?_
            exact w_bret gz_93_45 gm_93 (by omega) (by omega) (k0 (by first | exact ⟨by omega, by omega, fun i hi => al_26_0 i (by omega)⟩ | exact (fun z => zqCmp_ne cm (by omega) (z.2.2 _ (by omega))) | exact (fun z => by have z1 := z.1; have z2 := z.2.1; omega) | assumption | omega))
  refine w_aload_n gz_93_0 rfl ?_
  refine v_getI (j := 0) gz_93_1 rfl t0 rd_8 rfl (fun v12 ev12 pv12 qv12 => ?_)
  refine w_aload_n gz_93_4 rfl ?_
  refine v_getI (j := 0) gz_93_5 rfl t1 rd_8 rfl (fun v13 ev13 pv13 qv13 => ?_)
  refine w_icne (t := 22) gz_93_8 rfl (fun u14 => ?_) (fun u14 => ?_)
  ·
    refine w_iconst gz_93_22 (by decide) ?_
    exact w_bret gz_93_23 gm_93 (by omega) (by omega) (k0 (by first | exact ⟨by omega, by omega, fun i hi => al_26_0 i (by omega)⟩ | exact (fun z => zqCmp_ne cm (by omega) (z.2.2 _ (by omega))) | exact (fun z => by have z1 := z.1; have z2 := z.2.1; omega) | assumption | omega))
  ·
    refine w_aload_n gz_93_11 rfl ?_
    refine v_getI (j := 1) gz_93_12 rfl t0 rd_8 rfl (fun v15 ev15 pv15 qv15 => ?_)
    refine w_aload_n gz_93_15 rfl ?_
    refine v_getI (j := 1) gz_93_16 rfl t1 rd_8 rfl (fun v16 ev16 pv16 qv16 => ?_)
    refine w_iceq (t := 24) gz_93_19 rfl (fun u17 => ?_) (fun u17 => ?_)
    ·
      refine w_iconst gz_93_24 (by decide) ?_
      refine w_istore_n (ls' := [(2, x0), (2, x1), (0, 0)]) gz_93_25 gm_93 rfl rfl rfl ?_
      exact J26_0 12 (0) (v12) (v15) (v13) (v16) (by omega) (by omega) (by omega) (by omega) (by omega) (by omega) (by omega) (by omega) (by omega) (by omega) (by omega) (by omega) (by omega) (by omega) (by omega) (by omega) (ev12.symm.trans (by omega)) (ev15.symm.trans (by omega)) (ev13.symm.trans (by omega)) (ev16.symm.trans (by omega)) (by first | exact st_N0 | exact st_N1 (by omega) al_26_0 (cm.1 (by omega)) | assumption | omega) (by omega)
    ·
      refine w_iconst gz_93_22 (by decide) ?_
      exact w_bret gz_93_23 gm_93 (by omega) (by omega) (k0 (by first | exact ⟨by omega, by omega, fun i hi => al_26_0 i (by omega)⟩ | exact (fun z => zqCmp_ne cm (by omega) (z.2.2 _ (by omega))) | exact (fun z => by have z1 := z.1; have z2 := z.2.1; omega) | assumption | omega))
theorem c_Model_isLawful5 {l : Launch} {rho : Nat → Int32} {d : Nat} {h : my_H} {Q : my_H → my_V → Prop} {x1 : Int} (a1 : 0 ≤ x1) (b1 : x1 ≤ 15) (k0 : ¬ MLs h x1 → Q h (0, 0)) (k1 : MLs h x1 → Q h (0, 1)) : wp l rho (d + 3) 155 0 [(2, 151), (0, x1), (9, 0), (9, 0)] [] h Q := by
  have J2_0 : ∀ (n : Nat) (p2_0 : Int), 0 ≤ p2_0 → p2_0 ≤ 3 → (∀ w : Int, 0 ≤ w → w < p2_0 → ∀ k : Int, 0 ≤ k → k < 20 → h 162 (60 * x1 + 20 * w + k) = 1 → MLr h x1 w k) → 4 - p2_0 ≤ (n : Int) → wp l rho (d + 3) 155 2 [(2, 151), (0, x1), (0, p2_0), (9, 0)] [] h Q := by
    intro n
    induction n with
    | zero => intro p2_0 q0_2_0 q1_2_0 lw_2_0 hm_2_0; exfalso; omega
    | succ n ih_2_0 =>
      intro p2_0 q0_2_0 q1_2_0 lw_2_0 hm_2_0
      have J9_0 : ∀ (n : Nat) (p9_0 : Int), p2_0 ≤ 2 → 0 ≤ p9_0 → p9_0 ≤ 20 → (∀ k : Int, 0 ≤ k → k < p9_0 → h 162 (60 * x1 + 20 * p2_0 + k) = 1 → MLr h x1 p2_0 k) → 21 - p9_0 ≤ (n : Int) → wp l rho (d + 3) 155 9 [(2, 151), (0, x1), (0, p2_0), (0, p9_0)] [] h Q := by
        intro n
        induction n with
        | zero => intro p9_0 q0_9_0 q1_9_0 q2_9_0 lk_9_0 hm_9_0; exfalso; omega
        | succ n ih_9_0 =>
          intro p9_0 q0_9_0 q1_9_0 q2_9_0 lk_9_0 hm_9_0
          refine w_iload_n gz_155_9 rfl ?_
          refine w_bipush gz_155_10 (by decide) ?_
          refine w_icge (t := 47) gz_155_12 rfl (fun u1 => ?_) (fun u1 => ?_)
          ·
            refine w_iinc (ls' := [(2, 151), (0, x1), (0, (p2_0 + 1)), (0, p9_0)]) gz_155_47 rfl gm_155 rfl rfl rfl ⟨by omega, by omega⟩ ?_
            refine w_goto (t := 2) gz_155_50 rfl ?_
            refine w_weak (ls' := [(2, 151), (0, x1), (0, (p2_0 + 1)), (9, 0)]) (wk_e (wk_e (wk_e (wk_9 wk_n)))) ?_
            exact ih_2_0 ((p2_0 + 1)) (by omega) (by omega) (by first | exact st_0 | exact st_1 lw_2_0 (fun k a b => lk_9_0 k a (by omega)) | assumption | omega) (by omega)
          ·
            refine w_aload_n gz_155_15 rfl ?_
            refine w_getX (v := 162) gz_155_16 is_151 rd_10 rfl (by decide) rfl ?_
            refine w_iload_n gz_155_19 rfl ?_
            refine w_iload_n gz_155_20 rfl ?_
            refine w_iload_n gz_155_21 rfl ?_
            refine w_inS (k := 0) (as := [(0, p9_0), (0, p2_0), (0, x1)]) (r := [(2, 162)]) (ls0 := [(0, x1), (0, p2_0), (0, p9_0)]) gz_155_22 gm_150 rfl rfl rfl rfl rfl rfl ?_
            refine w_bipush gz_150_0 (by decide) ?_
            refine w_iload_n gz_150_2 rfl ?_
            refine w_imul gz_150_3 ⟨by omega, by omega⟩ ?_
            refine w_bipush gz_150_4 (by decide) ?_
            refine w_iload_n gz_150_6 rfl ?_
            refine w_imul gz_150_7 ⟨by omega, by omega⟩ ?_
            refine w_iadd gz_150_8 ⟨by omega, by omega⟩ ?_
            refine w_iload_n gz_150_9 rfl ?_
            refine w_iadd gz_150_10 ⟨by omega, by omega⟩ ?_
            refine w_iret gz_150_11 gm_150 ?_
            show wp l rho (d + 3) 155 25 [(2, 151), (0, x1), (0, p2_0), (0, p9_0)] [(0, (((60 * x1) + (20 * p2_0)) + p9_0)), (2, 162)] h Q
            refine w_bald gz_155_25 is_162 rd_61 (by omega) (by omega) (fun v3 ev3 pv3 qv3 => ?_)
            obtain ⟨nh, enh⟩ : ∃ z : Int, z = v3 := ⟨_, rfl⟩
            have ch : h 162 (60 * x1 + 20 * p2_0 + p9_0) = nh := by
              rw [show 60 * x1 + 20 * p2_0 + p9_0 = (((60 * x1) + (20 * p2_0)) + p9_0) by omega]
              omega
            refine w_ifeq (t := 41) gz_155_26 rfl (fun u4 => ?_) (fun u4 => ?_)
            ·
              refine w_iinc (ls' := [(2, 151), (0, x1), (0, p2_0), (0, (p9_0 + 1))]) gz_155_41 rfl gm_155 rfl rfl rfl ⟨by omega, by omega⟩ ?_
              refine w_goto (t := 9) gz_155_44 rfl ?_
              exact ih_9_0 ((p9_0 + 1)) (by omega) (by omega) (by omega) (by first | exact st_0 | exact st_1 lk_9_0 (fun z => by exfalso; omega) | exact st_1 lk_9_0 (fun _ => lr) | assumption | omega) (by omega)
            ·
              refine w_aload_n gz_155_29 rfl ?_
              refine w_iload_n gz_155_30 rfl ?_
              refine w_iload_n gz_155_31 rfl ?_
              refine w_iload_n gz_155_32 rfl ?_
              refine w_inv (k := 4) (as := [(0, p9_0), (0, p2_0), (0, x1)]) (r := []) (x := 151) (ls0 := [(2, 151), (0, x1), (0, p2_0), (0, p9_0), (9, 0), (9, 0), (9, 0), (9, 0)]) gz_155_33 gm_156 rfl is_151 rd_10 rfl rfl rfl rfl rfl (c_Model_isLawfulRow5 (d := d) (x1 := x1) (x2 := p2_0) (x3 := p9_0) (by omega) (by omega) (by omega) (by omega) (by omega) (by omega) (fun xp5 => ?_) (fun xp6 => ?_))
              ·
                show wp l rho (d + 3) 155 36 [(2, 151), (0, x1), (0, p2_0), (0, p9_0)] [(0, 0)] h Q
                have lr := xp5
                refine w_ifne (t := 41) gz_155_36 rfl (fun u7 => by exfalso; omega) (fun u7 => ?_)
                refine w_iconst gz_155_39 (by decide) ?_
                exact w_bret gz_155_40 gm_155 (by omega) (by omega) (k0 (by first | exact (fun w a b => lw_2_0 w a (by omega)) | exact (fun z => lr (z p2_0 (by omega) (by omega) p9_0 (by omega) (by omega) (by rw [ch]; omega))) | assumption | omega))
              ·
                show wp l rho (d + 3) 155 36 [(2, 151), (0, x1), (0, p2_0), (0, p9_0)] [(0, 1)] h Q
                have lr := xp6
                refine w_ifne (t := 41) gz_155_36 rfl (fun u8 => ?_) (fun u8 => by exfalso; omega)
                refine w_iinc (ls' := [(2, 151), (0, x1), (0, p2_0), (0, (p9_0 + 1))]) gz_155_41 rfl gm_155 rfl rfl rfl ⟨by omega, by omega⟩ ?_
                refine w_goto (t := 9) gz_155_44 rfl ?_
                exact ih_9_0 ((p9_0 + 1)) (by omega) (by omega) (by omega) (by first | exact st_0 | exact st_1 lk_9_0 (fun z => by exfalso; omega) | exact st_1 lk_9_0 (fun _ => lr) | assumption | omega) (by omega)
      refine w_iload_n gz_155_2 rfl ?_
      refine w_iconst gz_155_3 (by decide) ?_
      refine w_icge (t := 53) gz_155_4 rfl (fun u9 => ?_) (fun u9 => ?_)
      ·
        refine w_iconst gz_155_53 (by decide) ?_
        exact w_bret gz_155_54 gm_155 (by omega) (by omega) (k1 (by first | exact (fun w a b => lw_2_0 w a (by omega)) | exact (fun z => lr (z p2_0 (by omega) (by omega) 0 (by omega) (by omega) (by rw [ch]; omega))) | assumption | omega))
      ·
        refine w_iconst gz_155_7 (by decide) ?_
        refine w_istore_n (ls' := [(2, 151), (0, x1), (0, p2_0), (0, 0)]) gz_155_8 gm_155 rfl rfl rfl ?_
        exact J9_0 21 (0) (by omega) (by omega) (by omega) (by first | exact st_0 | exact st_1 lk_9_0 (fun z => by exfalso; omega) | exact st_1 lk_9_0 (fun _ => lr) | assumption | omega) (by omega)
  refine w_iconst gz_155_0 (by decide) ?_
  refine w_istore_n (ls' := [(2, 151), (0, x1), (0, 0), (9, 0)]) gz_155_1 gm_155 rfl rfl rfl ?_
  exact J2_0 4 (0) (by omega) (by omega) (by first | exact st_0 | exact st_1 lw_2_0 (fun k a b => lk_9_0 k a (by omega)) | assumption | omega) (by omega)
end MYNModel_swaps5
